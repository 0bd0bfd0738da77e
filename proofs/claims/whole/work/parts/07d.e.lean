set_option maxRecDepth 100000 in
theorem eX8_fails :
  (∀ (d : Nat) (st : List Value) (M : jx_M) (Q : jx_Po) (l1 : Option Value) (x : Nat), jx_Ev d 83 0 [some (.ref x), l1] st M Q ↔ jx_Ev d 83 1 [some (.ref x), l1] (.ref x :: st) M Q) ∧
  (∀ (d : Nat) (st : List Value) (M : jx_M) (Q : jx_Po) (l0 : Option Value) (x : Int32), jx_Ev d 83 1 [l0, some (.int x)] st M Q ↔ jx_Ev d 83 2 [l0, some (.int x)] (.int x :: st) M Q) ∧
  (∀ (d : Nat) (lv : List (Option Value)) (st : List Value) (M : jx_M) (Q : jx_Po) (x : Int32), jx_Ev d 83 2 lv (.int x :: .ref 36 :: st) M Q ↔ jx_Ev d 83 5 lv st (jx_up M 36 0 x) Q) ∧
  (∀ (d : Nat) (lv : List (Option Value)) (st : List Value) (M : jx_M) (Q : jx_Po), jx_Ev d 83 5 lv st M Q ↔ jx_Ev d 83 7 lv (.int (-10) :: st) M Q) ∧
  (∀ (d : Nat) (st : List Value) (M : jx_M) (Q : jx_Po) (l0 : Option Value) (x : Int32), jx_Ev d 83 7 [l0, some (.int x)] st M Q ↔ jx_Ev d 83 8 [l0, some (.int x)] (.int x :: st) M Q) ∧
  (∀ (d : Nat) (lv : List (Option Value)) (st : List Value) (M : jx_M) (Q : jx_Po) (x z : Int32), jx_Ev d 83 8 lv (.int z :: .int x :: st) M Q ↔ jx_Ev d 83 9 lv (.int (x - z) :: st) M Q) ∧
  (∀ (d : Nat) (lv : List (Option Value)) (M : jx_M) (Q : jx_Po) (x : Int32), jx_Ev d 83 9 lv [.int x] M Q ↔ Q [.int x] M) := by
  refine ⟨?_, ?_, ?_, ?_, ?_, ?_, ?_⟩
  · exact fun d st M Q l1 x => jx_ev_st (jx_fok (by decide +kernel : decode (jx_mb 83) 0 = .ok (.aload_n 0, 1))) rfl rfl rfl
  · exact fun d st M Q l0 x => jx_ev_st (jx_fok (by decide +kernel : decode (jx_mb 83) 1 = .ok (.iload_n 1, 1))) rfl rfl rfl
  · exact fun d lv st M Q x => jx_k_pf0 (jx_fok (by decide +kernel : decode (jx_mb 83) 2 = .ok (.putfield 67, 3))) rfl rfl rfl
  · exact fun d lv st M Q => jx_ev_st (jx_fok (by decide +kernel : decode (jx_mb 83) 5 = .ok (.bipush (-10), 2))) rfl rfl rfl
  · exact fun d st M Q l0 x => jx_ev_st (jx_fok (by decide +kernel : decode (jx_mb 83) 7 = .ok (.iload_n 1, 1))) rfl rfl rfl
  · exact fun d lv st M Q x z => jx_ev_st (jx_fok (by decide +kernel : decode (jx_mb 83) 8 = .ok (.isub, 1))) rfl rfl rfl
  · exact fun d lv M Q x => jx_k_ri (jx_fok (by decide +kernel : decode (jx_mb 83) 9 = .ok (.ireturn, 1))) rfl
theorem kX8_fails (d : Nat) (M : jx_M) (q : Int32 → jx_M → Prop) (a0 a1 : Value) : jx_I d 83 [a0, a1] M q ↔ jx_Ev d 83 0 [some a0, some a1] [] M (jx_qI q) := Iff.rfl
set_option maxRecDepth 100000 in
theorem eX8_lost :
  (∀ (d : Nat) (st : List Value) (M : jx_M) (Q : jx_Po) (l1 : Option Value) (x : Nat), jx_Ev d 84 0 [some (.ref x), l1] st M Q ↔ jx_Ev d 84 1 [some (.ref x), l1] (.ref x :: st) M Q) ∧
  (∀ (d : Nat) (st : List Value) (M : jx_M) (Q : jx_Po) (l0 : Option Value) (x : Int32), jx_Ev d 84 1 [l0, some (.int x)] st M Q ↔ jx_Ev d 84 2 [l0, some (.int x)] (.int x :: st) M Q) ∧
  (∀ (d : Nat) (lv : List (Option Value)) (st : List Value) (M : jx_M) (Q : jx_Po) (x : Int32), jx_Ev d 84 2 lv (.int x :: .ref 36 :: st) M Q ↔ jx_Ev d 84 5 lv st (jx_up M 36 0 x) Q) ∧
  (∀ (d : Nat) (lv : List (Option Value)) (st : List Value) (M : jx_M) (Q : jx_Po), jx_Ev d 84 5 lv st M Q ↔ jx_Ev d 84 8 lv (.long (-9223372036854775808) :: st) M Q) ∧
  (∀ (d : Nat) (lv : List (Option Value)) (M : jx_M) (Q : jx_Po) (x : Int64), jx_Ev d 84 8 lv [.long x] M Q ↔ Q [.long x] M) := by
  refine ⟨?_, ?_, ?_, ?_, ?_⟩
  · exact fun d st M Q l1 x => jx_ev_st (jx_fok (by decide +kernel : decode (jx_mb 84) 0 = .ok (.aload_n 0, 1))) rfl rfl rfl
  · exact fun d st M Q l0 x => jx_ev_st (jx_fok (by decide +kernel : decode (jx_mb 84) 1 = .ok (.iload_n 1, 1))) rfl rfl rfl
  · exact fun d lv st M Q x => jx_k_pf0 (jx_fok (by decide +kernel : decode (jx_mb 84) 2 = .ok (.putfield 67, 3))) rfl rfl rfl
  · exact fun d lv st M Q => jx_ev_st (jx_fok (by decide +kernel : decode (jx_mb 84) 5 = .ok (.ldc2_w 71, 3))) rfl rfl rfl
  · exact fun d lv M Q x => jx_k_rl (jx_fok (by decide +kernel : decode (jx_mb 84) 8 = .ok (.lreturn, 1))) rfl
theorem kX8_lost (d : Nat) (M : jx_M) (q : Int64 → jx_M → Prop) (a0 a1 : Value) : jx_L d 84 [a0, a1] M q ↔ jx_Ev d 84 0 [some a0, some a1] [] M (jx_qL q) := Iff.rfl
set_option maxRecDepth 100000 in
theorem eX8_within :
  (∀ (d : Nat) (st : List Value) (M : jx_M) (Q : jx_Po) (l1 l2 : Option Value) (x : Int32), jx_Ev d 85 0 [some (.int x), l1, l2] st M Q ↔ jx_Ev d 85 1 [some (.int x), l1, l2] (.int x :: st) M Q) ∧
  (∀ (d : Nat) (st : List Value) (M : jx_M) (Q : jx_Po) (l0 l2 : Option Value) (x : Int32), jx_Ev d 85 1 [l0, some (.int x), l2] st M Q ↔ jx_Ev d 85 2 [l0, some (.int x), l2] (.int x :: st) M Q) ∧
  (∀ (d : Nat) (lv : List (Option Value)) (st : List Value) (M : jx_M) (Q : jx_Po) (x z : Int32), jx_Ev d 85 2 lv (.int z :: .int x :: st) M Q ↔ (if x < z then jx_Ev d 85 14 lv st M Q else jx_Ev d 85 5 lv st M Q)) ∧
  (∀ (d : Nat) (st : List Value) (M : jx_M) (Q : jx_Po) (l1 l2 : Option Value) (x : Int32), jx_Ev d 85 5 [some (.int x), l1, l2] st M Q ↔ jx_Ev d 85 6 [some (.int x), l1, l2] (.int x :: st) M Q) ∧
  (∀ (d : Nat) (st : List Value) (M : jx_M) (Q : jx_Po) (l0 l1 : Option Value) (x : Int32), jx_Ev d 85 6 [l0, l1, some (.int x)] st M Q ↔ jx_Ev d 85 7 [l0, l1, some (.int x)] (.int x :: st) M Q) ∧
  (∀ (d : Nat) (lv : List (Option Value)) (st : List Value) (M : jx_M) (Q : jx_Po) (x z : Int32), jx_Ev d 85 7 lv (.int z :: .int x :: st) M Q ↔ (if z < x then jx_Ev d 85 14 lv st M Q else jx_Ev d 85 10 lv st M Q)) ∧
  (∀ (d : Nat) (lv : List (Option Value)) (st : List Value) (M : jx_M) (Q : jx_Po), jx_Ev d 85 10 lv st M Q ↔ jx_Ev d 85 11 lv (.int 1 :: st) M Q) ∧
  (∀ (d : Nat) (lv : List (Option Value)) (st : List Value) (M : jx_M) (Q : jx_Po), jx_Ev d 85 11 lv st M Q ↔ jx_Ev d 85 15 lv st M Q) ∧
  (∀ (d : Nat) (lv : List (Option Value)) (st : List Value) (M : jx_M) (Q : jx_Po), jx_Ev d 85 14 lv st M Q ↔ jx_Ev d 85 15 lv (.int 0 :: st) M Q) ∧
  (∀ (d : Nat) (lv : List (Option Value)) (M : jx_M) (Q : jx_Po) (x : Int32), jx_Ev d 85 15 lv [.int x] M Q ↔ ((x = 0 ∨ x = 1) ∧ Q [.int x] M)) := by
  refine ⟨?_, ?_, ?_, ?_, ?_, ?_, ?_, ?_, ?_, ?_⟩
  · exact fun d st M Q l1 l2 x => jx_ev_st (jx_fok (by decide +kernel : decode (jx_mb 85) 0 = .ok (.iload_n 0, 1))) rfl rfl rfl
  · exact fun d st M Q l0 l2 x => jx_ev_st (jx_fok (by decide +kernel : decode (jx_mb 85) 1 = .ok (.iload_n 1, 1))) rfl rfl rfl
  · exact fun d lv st M Q x z => jx_k_b2 (jx_fok (by decide +kernel : decode (jx_mb 85) 2 = .ok (.if_icmp .lt 12, 3))) rfl jx_hLt
  · exact fun d st M Q l1 l2 x => jx_ev_st (jx_fok (by decide +kernel : decode (jx_mb 85) 5 = .ok (.iload_n 0, 1))) rfl rfl rfl
  · exact fun d st M Q l0 l1 x => jx_ev_st (jx_fok (by decide +kernel : decode (jx_mb 85) 6 = .ok (.iload_n 2, 1))) rfl rfl rfl
  · exact fun d lv st M Q x z => jx_k_b2 (jx_fok (by decide +kernel : decode (jx_mb 85) 7 = .ok (.if_icmp .gt 7, 3))) rfl jx_hGt
  · exact fun d lv st M Q => jx_ev_st (jx_fok (by decide +kernel : decode (jx_mb 85) 10 = .ok (.iconst 1, 1))) rfl rfl rfl
  · exact fun d lv st M Q => jx_k_goto (jx_fok (by decide +kernel : decode (jx_mb 85) 11 = .ok (.goto 4, 3))) rfl
  · exact fun d lv st M Q => jx_ev_st (jx_fok (by decide +kernel : decode (jx_mb 85) 14 = .ok (.iconst 0, 1))) rfl rfl rfl
  · exact fun d lv M Q x => jx_k_rz (jx_fok (by decide +kernel : decode (jx_mb 85) 15 = .ok (.ireturn, 1))) rfl
theorem kX8_within (d : Nat) (M : jx_M) (q : Int32 → jx_M → Prop) (a0 a1 a2 : Value) : jx_I d 85 [a0, a1, a2] M q ↔ jx_Ev d 85 0 [some a0, some a1, some a2] [] M (jx_qI q) := Iff.rfl
set_option maxRecDepth 100000 in
theorem eX8_isSheet :
  (∀ (d : Nat) (st : List Value) (M : jx_M) (Q : jx_Po) (x : Int32), jx_Ev d 86 0 [some (.int x)] st M Q ↔ jx_Ev d 86 1 [some (.int x)] (.int x :: st) M Q) ∧
  (∀ (d : Nat) (lv : List (Option Value)) (st : List Value) (M : jx_M) (Q : jx_Po), jx_Ev d 86 1 lv st M Q ↔ jx_Ev d 86 2 lv (.int 0 :: st) M Q) ∧
  (∀ (d : Nat) (lv : List (Option Value)) (st : List Value) (M : jx_M) (Q : jx_Po), jx_Ev d 86 2 lv st M Q ↔ jx_Ev d 86 3 lv (.int 3 :: st) M Q) ∧
  (∀ (d : Nat) (lv : List (Option Value)) (M : jx_M) (Q : jx_Po) (a0 : Int32) (a1 : Int32) (a2 : Int32), jx_Ev (d + 1) 86 3 lv [.int a0, .int a1, .int a2] M Q ↔ jx_I d 85 [.int a2, .int a1, .int a0] M (fun x M => jx_Ev (d + 1) 86 6 lv (.int x :: []) M Q)) ∧
  (∀ (d : Nat) (lv : List (Option Value)) (M : jx_M) (Q : jx_Po) (x : Int32), jx_Ev d 86 6 lv [.int x] M Q ↔ ((x = 0 ∨ x = 1) ∧ Q [.int x] M)) := by
  refine ⟨?_, ?_, ?_, ?_, ?_⟩
  · exact fun d st M Q x => jx_ev_st (jx_fok (by decide +kernel : decode (jx_mb 86) 0 = .ok (.iload_n 0, 1))) rfl rfl rfl
  · exact fun d lv st M Q => jx_ev_st (jx_fok (by decide +kernel : decode (jx_mb 86) 1 = .ok (.iconst 0, 1))) rfl rfl rfl
  · exact fun d lv st M Q => jx_ev_st (jx_fok (by decide +kernel : decode (jx_mb 86) 2 = .ok (.iconst 3, 1))) rfl rfl rfl
  · exact fun d lv M Q a0 a1 a2 => jx_ev_ci (jx_fok (by decide +kernel : decode (jx_mb 86) 3 = .ok (.invokestatic 73, 3))) rfl (jx_ccS (As := [.int a2, .int a1, .int a0]) (rest := []) rfl rfl rfl rfl rfl) (by decide)
  · exact fun d lv M Q x => jx_k_rz (jx_fok (by decide +kernel : decode (jx_mb 86) 6 = .ok (.ireturn, 1))) rfl
theorem kX8_isSheet (d : Nat) (M : jx_M) (q : Int32 → jx_M → Prop) (a0 : Value) : jx_I d 86 [a0] M q ↔ jx_Ev d 86 0 [some a0] [] M (jx_qI q) := Iff.rfl
set_option maxRecDepth 100000 in
theorem eX8_isSort :
  (∀ (d : Nat) (st : List Value) (M : jx_M) (Q : jx_Po) (x : Int32), jx_Ev d 87 0 [some (.int x)] st M Q ↔ jx_Ev d 87 1 [some (.int x)] (.int x :: st) M Q) ∧
  (∀ (d : Nat) (lv : List (Option Value)) (st : List Value) (M : jx_M) (Q : jx_Po), jx_Ev d 87 1 lv st M Q ↔ jx_Ev d 87 2 lv (.int 0 :: st) M Q) ∧
  (∀ (d : Nat) (lv : List (Option Value)) (st : List Value) (M : jx_M) (Q : jx_Po), jx_Ev d 87 2 lv st M Q ↔ jx_Ev d 87 3 lv (.int 2 :: st) M Q) ∧
  (∀ (d : Nat) (lv : List (Option Value)) (M : jx_M) (Q : jx_Po) (a0 : Int32) (a1 : Int32) (a2 : Int32), jx_Ev (d + 1) 87 3 lv [.int a0, .int a1, .int a2] M Q ↔ jx_I d 85 [.int a2, .int a1, .int a0] M (fun x M => jx_Ev (d + 1) 87 6 lv (.int x :: []) M Q)) ∧
  (∀ (d : Nat) (lv : List (Option Value)) (M : jx_M) (Q : jx_Po) (x : Int32), jx_Ev d 87 6 lv [.int x] M Q ↔ ((x = 0 ∨ x = 1) ∧ Q [.int x] M)) := by
  refine ⟨?_, ?_, ?_, ?_, ?_⟩
  · exact fun d st M Q x => jx_ev_st (jx_fok (by decide +kernel : decode (jx_mb 87) 0 = .ok (.iload_n 0, 1))) rfl rfl rfl
  · exact fun d lv st M Q => jx_ev_st (jx_fok (by decide +kernel : decode (jx_mb 87) 1 = .ok (.iconst 0, 1))) rfl rfl rfl
  · exact fun d lv st M Q => jx_ev_st (jx_fok (by decide +kernel : decode (jx_mb 87) 2 = .ok (.iconst 2, 1))) rfl rfl rfl
  · exact fun d lv M Q a0 a1 a2 => jx_ev_ci (jx_fok (by decide +kernel : decode (jx_mb 87) 3 = .ok (.invokestatic 73, 3))) rfl (jx_ccS (As := [.int a2, .int a1, .int a0]) (rest := []) rfl rfl rfl rfl rfl) (by decide)
  · exact fun d lv M Q x => jx_k_rz (jx_fok (by decide +kernel : decode (jx_mb 87) 6 = .ok (.ireturn, 1))) rfl
theorem kX8_isSort (d : Nat) (M : jx_M) (q : Int32 → jx_M → Prop) (a0 : Value) : jx_I d 87 [a0] M q ↔ jx_Ev d 87 0 [some a0] [] M (jx_qI q) := Iff.rfl
set_option maxRecDepth 100000 in
theorem eX8_against :
  (∀ (d : Nat) (st : List Value) (M : jx_M) (Q : jx_Po) (l1 l2 l3 l4 : Option Value) (x : Nat), jx_Ev d 88 0 [some (.ref x), l1, l2, l3, l4] st M Q ↔ jx_Ev d 88 1 [some (.ref x), l1, l2, l3, l4] (.ref x :: st) M Q) ∧
  (∀ (d : Nat) (lv : List (Option Value)) (st : List Value) (M : jx_M) (Q : jx_Po), jx_Ev d 88 1 lv (.ref 36 :: st) M Q ↔ jx_Ev d 88 4 lv (.ref 37 :: st) M Q) ∧
  (∀ (d : Nat) (st : List Value) (M : jx_M) (Q : jx_Po) (l0 l2 l3 l4 : Option Value) (x : Int32), jx_Ev d 88 4 [l0, some (.int x), l2, l3, l4] st M Q ↔ jx_Ev d 88 5 [l0, some (.int x), l2, l3, l4] (.int x :: st) M Q) ∧
  (∀ (d : Nat) (lv : List (Option Value)) (st : List Value) (M : jx_M) (Q : jx_Po) (x : Int32) (a : Nat) (ha : jx_cl a = 9), jx_Ev d 88 5 lv (.int x :: .ref a :: st) M Q ↔ (vp_in x (jx_sz a) ∧ jx_Ev d 88 6 lv (.int (M a x.toNatClampNeg) :: st) M Q)) ∧
  (∀ (d : Nat) (lv : List (Option Value)) (st : List Value) (M : jx_M) (Q : jx_Po), jx_Ev d 88 6 lv st M Q ↔ jx_Ev d 88 8 lv (.int (-9) :: st) M Q) ∧
  (∀ (d : Nat) (lv : List (Option Value)) (st : List Value) (M : jx_M) (Q : jx_Po) (x z : Int32), jx_Ev d 88 8 lv (.int z :: .int x :: st) M Q ↔ (if x = z then jx_Ev d 88 23 lv st M Q else jx_Ev d 88 11 lv st M Q)) ∧
  (∀ (d : Nat) (st : List Value) (M : jx_M) (Q : jx_Po) (l1 l2 l3 l4 : Option Value) (x : Nat), jx_Ev d 88 11 [some (.ref x), l1, l2, l3, l4] st M Q ↔ jx_Ev d 88 12 [some (.ref x), l1, l2, l3, l4] (.ref x :: st) M Q) ∧
  (∀ (d : Nat) (lv : List (Option Value)) (st : List Value) (M : jx_M) (Q : jx_Po), jx_Ev d 88 12 lv (.ref 36 :: st) M Q ↔ jx_Ev d 88 15 lv (.ref 37 :: st) M Q) ∧
  (∀ (d : Nat) (st : List Value) (M : jx_M) (Q : jx_Po) (l0 l2 l3 l4 : Option Value) (x : Int32), jx_Ev d 88 15 [l0, some (.int x), l2, l3, l4] st M Q ↔ jx_Ev d 88 16 [l0, some (.int x), l2, l3, l4] (.int x :: st) M Q) ∧
  (∀ (d : Nat) (lv : List (Option Value)) (st : List Value) (M : jx_M) (Q : jx_Po) (x : Int32) (a : Nat) (ha : jx_cl a = 9), jx_Ev d 88 16 lv (.int x :: .ref a :: st) M Q ↔ (vp_in x (jx_sz a) ∧ jx_Ev d 88 17 lv (.int (M a x.toNatClampNeg) :: st) M Q)) ∧
  (∀ (d : Nat) (st : List Value) (M : jx_M) (Q : jx_Po) (l0 l1 l3 l4 : Option Value) (x : Int32), jx_Ev d 88 17 [l0, l1, some (.int x), l3, l4] st M Q ↔ jx_Ev d 88 18 [l0, l1, some (.int x), l3, l4] (.int x :: st) M Q) ∧
  (∀ (d : Nat) (lv : List (Option Value)) (st : List Value) (M : jx_M) (Q : jx_Po) (x z : Int32), jx_Ev d 88 18 lv (.int z :: .int x :: st) M Q ↔ (if x = z then jx_Ev d 88 23 lv st M Q else jx_Ev d 88 21 lv st M Q)) ∧
  (∀ (d : Nat) (lv : List (Option Value)) (st : List Value) (M : jx_M) (Q : jx_Po), jx_Ev d 88 21 lv st M Q ↔ jx_Ev d 88 22 lv (.int 2 :: st) M Q) ∧
  (∀ (d : Nat) (lv : List (Option Value)) (M : jx_M) (Q : jx_Po) (x : Int32), jx_Ev d 88 22 lv [.int x] M Q ↔ Q [.int x] M) ∧
  (∀ (d : Nat) (st : List Value) (M : jx_M) (Q : jx_Po) (l1 l2 l3 l4 : Option Value) (x : Nat), jx_Ev d 88 23 [some (.ref x), l1, l2, l3, l4] st M Q ↔ jx_Ev d 88 24 [some (.ref x), l1, l2, l3, l4] (.ref x :: st) M Q) ∧
  (∀ (d : Nat) (lv : List (Option Value)) (st : List Value) (M : jx_M) (Q : jx_Po), jx_Ev d 88 24 lv (.ref 36 :: st) M Q ↔ jx_Ev d 88 27 lv (.ref 37 :: st) M Q) ∧
  (∀ (d : Nat) (st : List Value) (M : jx_M) (Q : jx_Po) (l0 l2 l3 l4 : Option Value) (x : Int32), jx_Ev d 88 27 [l0, some (.int x), l2, l3, l4] st M Q ↔ jx_Ev d 88 28 [l0, some (.int x), l2, l3, l4] (.int x :: st) M Q) ∧
  (∀ (d : Nat) (lv : List (Option Value)) (st : List Value) (M : jx_M) (Q : jx_Po) (x : Int32) (a : Nat) (ha : jx_cl a = 9), jx_Ev d 88 28 lv (.int x :: .ref a :: st) M Q ↔ (vp_in x (jx_sz a) ∧ jx_Ev d 88 29 lv (.int (M a x.toNatClampNeg) :: st) M Q)) ∧
  (∀ (d : Nat) (lv : List (Option Value)) (st : List Value) (M : jx_M) (Q : jx_Po), jx_Ev d 88 29 lv st M Q ↔ jx_Ev d 88 31 lv (.int (-9) :: st) M Q) ∧
  (∀ (d : Nat) (lv : List (Option Value)) (st : List Value) (M : jx_M) (Q : jx_Po) (x z : Int32), jx_Ev d 88 31 lv (.int z :: .int x :: st) M Q ↔ (if x = z then jx_Ev d 88 34 lv st M Q else jx_Ev d 88 36 lv st M Q)) ∧
  (∀ (d : Nat) (lv : List (Option Value)) (st : List Value) (M : jx_M) (Q : jx_Po), jx_Ev d 88 34 lv st M Q ↔ jx_Ev d 88 35 lv (.int 1 :: st) M Q) ∧
  (∀ (d : Nat) (lv : List (Option Value)) (M : jx_M) (Q : jx_Po) (x : Int32), jx_Ev d 88 35 lv [.int x] M Q ↔ Q [.int x] M) ∧
  (∀ (d : Nat) (st : List Value) (M : jx_M) (Q : jx_Po) (l0 l1 l2 l3 : Option Value) (x : Int32), jx_Ev d 88 36 [l0, l1, l2, l3, some (.int x)] st M Q ↔ jx_Ev d 88 38 [l0, l1, l2, l3, some (.int x)] (.int x :: st) M Q) ∧
  (∀ (d : Nat) (lv : List (Option Value)) (st : List Value) (M : jx_M) (Q : jx_Po) (x : Int32), jx_Ev d 88 38 lv (.int x :: st) M Q ↔ (if 0 ≤ x then jx_Ev d 88 43 lv st M Q else jx_Ev d 88 41 lv st M Q)) ∧
  (∀ (d : Nat) (lv : List (Option Value)) (st : List Value) (M : jx_M) (Q : jx_Po), jx_Ev d 88 41 lv st M Q ↔ jx_Ev d 88 42 lv (.int 4 :: st) M Q) ∧
  (∀ (d : Nat) (lv : List (Option Value)) (M : jx_M) (Q : jx_Po) (x : Int32), jx_Ev d 88 42 lv [.int x] M Q ↔ Q [.int x] M) ∧
  (∀ (d : Nat) (st : List Value) (M : jx_M) (Q : jx_Po) (l0 l1 l2 l4 : Option Value) (x : Int32), jx_Ev d 88 43 [l0, l1, l2, some (.int x), l4] st M Q ↔ jx_Ev d 88 44 [l0, l1, l2, some (.int x), l4] (.int x :: st) M Q) ∧
  (∀ (d : Nat) (lv : List (Option Value)) (st : List Value) (M : jx_M) (Q : jx_Po) (x : Int32), jx_Ev d 88 44 lv (.int x :: st) M Q ↔ (if x < 0 then jx_Ev d 88 70 lv st M Q else jx_Ev d 88 47 lv st M Q)) ∧
  (∀ (d : Nat) (st : List Value) (M : jx_M) (Q : jx_Po) (l0 l1 l2 l4 : Option Value) (x : Int32), jx_Ev d 88 47 [l0, l1, l2, some (.int x), l4] st M Q ↔ jx_Ev d 88 48 [l0, l1, l2, some (.int x), l4] (.int x :: st) M Q) ∧
  (∀ (d : Nat) (st : List Value) (M : jx_M) (Q : jx_Po) (l1 l2 l3 l4 : Option Value) (x : Nat), jx_Ev d 88 48 [some (.ref x), l1, l2, l3, l4] st M Q ↔ jx_Ev d 88 49 [some (.ref x), l1, l2, l3, l4] (.ref x :: st) M Q) ∧
  (∀ (d : Nat) (lv : List (Option Value)) (st : List Value) (M : jx_M) (Q : jx_Po), jx_Ev d 88 49 lv (.ref 36 :: st) M Q ↔ jx_Ev d 88 52 lv (.ref 38 :: st) M Q) ∧
  (∀ (d : Nat) (st : List Value) (M : jx_M) (Q : jx_Po) (l0 l2 l3 l4 : Option Value) (x : Int32), jx_Ev d 88 52 [l0, some (.int x), l2, l3, l4] st M Q ↔ jx_Ev d 88 53 [l0, some (.int x), l2, l3, l4] (.int x :: st) M Q) ∧
  (∀ (d : Nat) (lv : List (Option Value)) (st : List Value) (M : jx_M) (Q : jx_Po) (x : Int32) (a : Nat) (ha : jx_cl a = 9), jx_Ev d 88 53 lv (.int x :: .ref a :: st) M Q ↔ (vp_in x (jx_sz a) ∧ jx_Ev d 88 54 lv (.int (M a x.toNatClampNeg) :: st) M Q)) ∧
  (∀ (d : Nat) (lv : List (Option Value)) (st : List Value) (M : jx_M) (Q : jx_Po) (x z : Int32), jx_Ev d 88 54 lv (.int z :: .int x :: st) M Q ↔ (if z < x then jx_Ev d 88 70 lv st M Q else jx_Ev d 88 57 lv st M Q)) ∧
  (∀ (d : Nat) (st : List Value) (M : jx_M) (Q : jx_Po) (l0 l1 l2 l3 : Option Value) (x : Int32), jx_Ev d 88 57 [l0, l1, l2, l3, some (.int x)] st M Q ↔ jx_Ev d 88 59 [l0, l1, l2, l3, some (.int x)] (.int x :: st) M Q) ∧
  (∀ (d : Nat) (st : List Value) (M : jx_M) (Q : jx_Po) (l1 l2 l3 l4 : Option Value) (x : Nat), jx_Ev d 88 59 [some (.ref x), l1, l2, l3, l4] st M Q ↔ jx_Ev d 88 60 [some (.ref x), l1, l2, l3, l4] (.ref x :: st) M Q) ∧
  (∀ (d : Nat) (lv : List (Option Value)) (st : List Value) (M : jx_M) (Q : jx_Po), jx_Ev d 88 60 lv (.ref 36 :: st) M Q ↔ jx_Ev d 88 63 lv (.ref 38 :: st) M Q) ∧
  (∀ (d : Nat) (st : List Value) (M : jx_M) (Q : jx_Po) (l0 l2 l3 l4 : Option Value) (x : Int32), jx_Ev d 88 63 [l0, some (.int x), l2, l3, l4] st M Q ↔ jx_Ev d 88 64 [l0, some (.int x), l2, l3, l4] (.int x :: st) M Q) ∧
  (∀ (d : Nat) (lv : List (Option Value)) (st : List Value) (M : jx_M) (Q : jx_Po) (x : Int32) (a : Nat) (ha : jx_cl a = 9), jx_Ev d 88 64 lv (.int x :: .ref a :: st) M Q ↔ (vp_in x (jx_sz a) ∧ jx_Ev d 88 65 lv (.int (M a x.toNatClampNeg) :: st) M Q)) ∧
  (∀ (d : Nat) (st : List Value) (M : jx_M) (Q : jx_Po) (l0 l1 l2 l4 : Option Value) (x : Int32), jx_Ev d 88 65 [l0, l1, l2, some (.int x), l4] st M Q ↔ jx_Ev d 88 66 [l0, l1, l2, some (.int x), l4] (.int x :: st) M Q) ∧
  (∀ (d : Nat) (lv : List (Option Value)) (st : List Value) (M : jx_M) (Q : jx_Po) (x z : Int32), jx_Ev d 88 66 lv (.int z :: .int x :: st) M Q ↔ jx_Ev d 88 67 lv (.int (x - z) :: st) M Q) ∧
  (∀ (d : Nat) (lv : List (Option Value)) (st : List Value) (M : jx_M) (Q : jx_Po) (x z : Int32), jx_Ev d 88 67 lv (.int z :: .int x :: st) M Q ↔ (if x ≤ z then jx_Ev d 88 74 lv st M Q else jx_Ev d 88 70 lv st M Q)) ∧
  (∀ (d : Nat) (lv : List (Option Value)) (st : List Value) (M : jx_M) (Q : jx_Po), jx_Ev d 88 70 lv st M Q ↔ jx_Ev d 88 71 lv (.int 3 :: st) M Q) ∧
  (∀ (d : Nat) (lv : List (Option Value)) (st : List Value) (M : jx_M) (Q : jx_Po), jx_Ev d 88 71 lv st M Q ↔ jx_Ev d 88 75 lv st M Q) ∧
  (∀ (d : Nat) (lv : List (Option Value)) (st : List Value) (M : jx_M) (Q : jx_Po), jx_Ev d 88 74 lv st M Q ↔ jx_Ev d 88 75 lv (.int 0 :: st) M Q) ∧
  (∀ (d : Nat) (lv : List (Option Value)) (M : jx_M) (Q : jx_Po) (x : Int32), jx_Ev d 88 75 lv [.int x] M Q ↔ Q [.int x] M) := by
  refine ⟨?_, ?_, ?_, ?_, ?_, ?_, ?_, ?_, ?_, ?_, ?_, ?_, ?_, ?_, ?_, ?_, ?_, ?_, ?_, ?_, ?_, ?_, ?_, ?_, ?_, ?_, ?_, ?_, ?_, ?_, ?_, ?_, ?_, ?_, ?_, ?_, ?_, ?_, ?_, ?_, ?_, ?_, ?_, ?_, ?_, ?_⟩
  · exact fun d st M Q l1 l2 l3 l4 x => jx_ev_st (jx_fok (by decide +kernel : decode (jx_mb 88) 0 = .ok (.aload_n 0, 1))) rfl rfl rfl
  · exact fun d lv st M Q => jx_k_gf (jx_fok (by decide +kernel : decode (jx_mb 88) 1 = .ok (.getfield 9, 3))) rfl rfl rfl
  · exact fun d st M Q l0 l2 l3 l4 x => jx_ev_st (jx_fok (by decide +kernel : decode (jx_mb 88) 4 = .ok (.iload_n 1, 1))) rfl rfl rfl
  · exact fun d lv st M Q x a ha => jx_k_al (jx_fok (by decide +kernel : decode (jx_mb 88) 5 = .ok (.iaload, 1))) ha
  · exact fun d lv st M Q => jx_ev_st (jx_fok (by decide +kernel : decode (jx_mb 88) 6 = .ok (.bipush (-9), 2))) rfl rfl rfl
  · exact fun d lv st M Q x z => jx_k_b2 (jx_fok (by decide +kernel : decode (jx_mb 88) 8 = .ok (.if_icmp .eq 15, 3))) rfl jx_hEq
  · exact fun d st M Q l1 l2 l3 l4 x => jx_ev_st (jx_fok (by decide +kernel : decode (jx_mb 88) 11 = .ok (.aload_n 0, 1))) rfl rfl rfl
  · exact fun d lv st M Q => jx_k_gf (jx_fok (by decide +kernel : decode (jx_mb 88) 12 = .ok (.getfield 9, 3))) rfl rfl rfl
  · exact fun d st M Q l0 l2 l3 l4 x => jx_ev_st (jx_fok (by decide +kernel : decode (jx_mb 88) 15 = .ok (.iload_n 1, 1))) rfl rfl rfl
  · exact fun d lv st M Q x a ha => jx_k_al (jx_fok (by decide +kernel : decode (jx_mb 88) 16 = .ok (.iaload, 1))) ha
  · exact fun d st M Q l0 l1 l3 l4 x => jx_ev_st (jx_fok (by decide +kernel : decode (jx_mb 88) 17 = .ok (.iload_n 2, 1))) rfl rfl rfl
  · exact fun d lv st M Q x z => jx_k_b2 (jx_fok (by decide +kernel : decode (jx_mb 88) 18 = .ok (.if_icmp .eq 5, 3))) rfl jx_hEq
  · exact fun d lv st M Q => jx_ev_st (jx_fok (by decide +kernel : decode (jx_mb 88) 21 = .ok (.iconst 2, 1))) rfl rfl rfl
  · exact fun d lv M Q x => jx_k_ri (jx_fok (by decide +kernel : decode (jx_mb 88) 22 = .ok (.ireturn, 1))) rfl
  · exact fun d st M Q l1 l2 l3 l4 x => jx_ev_st (jx_fok (by decide +kernel : decode (jx_mb 88) 23 = .ok (.aload_n 0, 1))) rfl rfl rfl
  · exact fun d lv st M Q => jx_k_gf (jx_fok (by decide +kernel : decode (jx_mb 88) 24 = .ok (.getfield 9, 3))) rfl rfl rfl
  · exact fun d st M Q l0 l2 l3 l4 x => jx_ev_st (jx_fok (by decide +kernel : decode (jx_mb 88) 27 = .ok (.iload_n 1, 1))) rfl rfl rfl
  · exact fun d lv st M Q x a ha => jx_k_al (jx_fok (by decide +kernel : decode (jx_mb 88) 28 = .ok (.iaload, 1))) ha
  · exact fun d lv st M Q => jx_ev_st (jx_fok (by decide +kernel : decode (jx_mb 88) 29 = .ok (.bipush (-9), 2))) rfl rfl rfl
  · exact fun d lv st M Q x z => jx_k_b2n (jx_fok (by decide +kernel : decode (jx_mb 88) 31 = .ok (.if_icmp .ne 5, 3))) rfl jx_hNe
  · exact fun d lv st M Q => jx_ev_st (jx_fok (by decide +kernel : decode (jx_mb 88) 34 = .ok (.iconst 1, 1))) rfl rfl rfl
  · exact fun d lv M Q x => jx_k_ri (jx_fok (by decide +kernel : decode (jx_mb 88) 35 = .ok (.ireturn, 1))) rfl
  · exact fun d st M Q l0 l1 l2 l3 x => jx_ev_st (jx_fok (by decide +kernel : decode (jx_mb 88) 36 = .ok (.iload 4, 2))) rfl rfl rfl
  · exact fun d lv st M Q x => jx_k_b1 (jx_fok (by decide +kernel : decode (jx_mb 88) 38 = .ok (.ifCond .ge 5, 3))) rfl jx_hGe
  · exact fun d lv st M Q => jx_ev_st (jx_fok (by decide +kernel : decode (jx_mb 88) 41 = .ok (.iconst 4, 1))) rfl rfl rfl
  · exact fun d lv M Q x => jx_k_ri (jx_fok (by decide +kernel : decode (jx_mb 88) 42 = .ok (.ireturn, 1))) rfl
  · exact fun d st M Q l0 l1 l2 l4 x => jx_ev_st (jx_fok (by decide +kernel : decode (jx_mb 88) 43 = .ok (.iload_n 3, 1))) rfl rfl rfl
  · exact fun d lv st M Q x => jx_k_b1 (jx_fok (by decide +kernel : decode (jx_mb 88) 44 = .ok (.ifCond .lt 26, 3))) rfl jx_hLt
  · exact fun d st M Q l0 l1 l2 l4 x => jx_ev_st (jx_fok (by decide +kernel : decode (jx_mb 88) 47 = .ok (.iload_n 3, 1))) rfl rfl rfl
  · exact fun d st M Q l1 l2 l3 l4 x => jx_ev_st (jx_fok (by decide +kernel : decode (jx_mb 88) 48 = .ok (.aload_n 0, 1))) rfl rfl rfl
  · exact fun d lv st M Q => jx_k_gf (jx_fok (by decide +kernel : decode (jx_mb 88) 49 = .ok (.getfield 13, 3))) rfl rfl rfl
  · exact fun d st M Q l0 l2 l3 l4 x => jx_ev_st (jx_fok (by decide +kernel : decode (jx_mb 88) 52 = .ok (.iload_n 1, 1))) rfl rfl rfl
  · exact fun d lv st M Q x a ha => jx_k_al (jx_fok (by decide +kernel : decode (jx_mb 88) 53 = .ok (.iaload, 1))) ha
  · exact fun d lv st M Q x z => jx_k_b2 (jx_fok (by decide +kernel : decode (jx_mb 88) 54 = .ok (.if_icmp .gt 16, 3))) rfl jx_hGt
  · exact fun d st M Q l0 l1 l2 l3 x => jx_ev_st (jx_fok (by decide +kernel : decode (jx_mb 88) 57 = .ok (.iload 4, 2))) rfl rfl rfl
  · exact fun d st M Q l1 l2 l3 l4 x => jx_ev_st (jx_fok (by decide +kernel : decode (jx_mb 88) 59 = .ok (.aload_n 0, 1))) rfl rfl rfl
  · exact fun d lv st M Q => jx_k_gf (jx_fok (by decide +kernel : decode (jx_mb 88) 60 = .ok (.getfield 13, 3))) rfl rfl rfl
  · exact fun d st M Q l0 l2 l3 l4 x => jx_ev_st (jx_fok (by decide +kernel : decode (jx_mb 88) 63 = .ok (.iload_n 1, 1))) rfl rfl rfl
  · exact fun d lv st M Q x a ha => jx_k_al (jx_fok (by decide +kernel : decode (jx_mb 88) 64 = .ok (.iaload, 1))) ha
  · exact fun d st M Q l0 l1 l2 l4 x => jx_ev_st (jx_fok (by decide +kernel : decode (jx_mb 88) 65 = .ok (.iload_n 3, 1))) rfl rfl rfl
  · exact fun d lv st M Q x z => jx_ev_st (jx_fok (by decide +kernel : decode (jx_mb 88) 66 = .ok (.isub, 1))) rfl rfl rfl
  · exact fun d lv st M Q x z => jx_k_b2 (jx_fok (by decide +kernel : decode (jx_mb 88) 67 = .ok (.if_icmp .le 7, 3))) rfl jx_hLe
  · exact fun d lv st M Q => jx_ev_st (jx_fok (by decide +kernel : decode (jx_mb 88) 70 = .ok (.iconst 3, 1))) rfl rfl rfl
  · exact fun d lv st M Q => jx_k_goto (jx_fok (by decide +kernel : decode (jx_mb 88) 71 = .ok (.goto 4, 3))) rfl
  · exact fun d lv st M Q => jx_ev_st (jx_fok (by decide +kernel : decode (jx_mb 88) 74 = .ok (.iconst 0, 1))) rfl rfl rfl
  · exact fun d lv M Q x => jx_k_ri (jx_fok (by decide +kernel : decode (jx_mb 88) 75 = .ok (.ireturn, 1))) rfl
theorem kX8_against (d : Nat) (M : jx_M) (q : Int32 → jx_M → Prop) (a0 a1 a2 a3 a4 : Value) : jx_I d 88 [a0, a1, a2, a3, a4] M q ↔ jx_Ev d 88 0 [some a0, some a1, some a2, some a3, some a4] [] M (jx_qI q) := Iff.rfl
set_option maxRecDepth 100000 in
theorem eX8_isPerson :
  (∀ (d : Nat) (st : List Value) (M : jx_M) (Q : jx_Po) (l0 : Option Value) (x : Int32), jx_Ev d 89 0 [l0, some (.int x)] st M Q ↔ jx_Ev d 89 1 [l0, some (.int x)] (.int x :: st) M Q) ∧
  (∀ (d : Nat) (lv : List (Option Value)) (st : List Value) (M : jx_M) (Q : jx_Po) (x : Int32), jx_Ev d 89 1 lv (.int x :: st) M Q ↔ (if x < 0 then jx_Ev d 89 16 lv st M Q else jx_Ev d 89 4 lv st M Q)) ∧
  (∀ (d : Nat) (st : List Value) (M : jx_M) (Q : jx_Po) (l0 : Option Value) (x : Int32), jx_Ev d 89 4 [l0, some (.int x)] st M Q ↔ jx_Ev d 89 5 [l0, some (.int x)] (.int x :: st) M Q) ∧
  (∀ (d : Nat) (st : List Value) (M : jx_M) (Q : jx_Po) (l1 : Option Value) (x : Nat), jx_Ev d 89 5 [some (.ref x), l1] st M Q ↔ jx_Ev d 89 6 [some (.ref x), l1] (.ref x :: st) M Q) ∧
  (∀ (d : Nat) (lv : List (Option Value)) (st : List Value) (M : jx_M) (Q : jx_Po), jx_Ev d 89 6 lv (.ref 36 :: st) M Q ↔ jx_Ev d 89 9 lv (.int (M 36 5) :: st) M Q) ∧
  (∀ (d : Nat) (lv : List (Option Value)) (st : List Value) (M : jx_M) (Q : jx_Po) (x z : Int32), jx_Ev d 89 9 lv (.int z :: .int x :: st) M Q ↔ (if z ≤ x then jx_Ev d 89 16 lv st M Q else jx_Ev d 89 12 lv st M Q)) ∧
  (∀ (d : Nat) (lv : List (Option Value)) (st : List Value) (M : jx_M) (Q : jx_Po), jx_Ev d 89 12 lv st M Q ↔ jx_Ev d 89 13 lv (.int 1 :: st) M Q) ∧
  (∀ (d : Nat) (lv : List (Option Value)) (st : List Value) (M : jx_M) (Q : jx_Po), jx_Ev d 89 13 lv st M Q ↔ jx_Ev d 89 17 lv st M Q) ∧
  (∀ (d : Nat) (lv : List (Option Value)) (st : List Value) (M : jx_M) (Q : jx_Po), jx_Ev d 89 16 lv st M Q ↔ jx_Ev d 89 17 lv (.int 0 :: st) M Q) ∧
  (∀ (d : Nat) (lv : List (Option Value)) (M : jx_M) (Q : jx_Po) (x : Int32), jx_Ev d 89 17 lv [.int x] M Q ↔ ((x = 0 ∨ x = 1) ∧ Q [.int x] M)) := by
  refine ⟨?_, ?_, ?_, ?_, ?_, ?_, ?_, ?_, ?_, ?_⟩
  · exact fun d st M Q l0 x => jx_ev_st (jx_fok (by decide +kernel : decode (jx_mb 89) 0 = .ok (.iload_n 1, 1))) rfl rfl rfl
  · exact fun d lv st M Q x => jx_k_b1 (jx_fok (by decide +kernel : decode (jx_mb 89) 1 = .ok (.ifCond .lt 15, 3))) rfl jx_hLt
  · exact fun d st M Q l0 x => jx_ev_st (jx_fok (by decide +kernel : decode (jx_mb 89) 4 = .ok (.iload_n 1, 1))) rfl rfl rfl
  · exact fun d st M Q l1 x => jx_ev_st (jx_fok (by decide +kernel : decode (jx_mb 89) 5 = .ok (.aload_n 0, 1))) rfl rfl rfl
  · exact fun d lv st M Q => jx_k_gf (jx_fok (by decide +kernel : decode (jx_mb 89) 6 = .ok (.getfield 77, 3))) rfl rfl rfl
  · exact fun d lv st M Q x z => jx_k_b2 (jx_fok (by decide +kernel : decode (jx_mb 89) 9 = .ok (.if_icmp .ge 7, 3))) rfl jx_hGe
  · exact fun d lv st M Q => jx_ev_st (jx_fok (by decide +kernel : decode (jx_mb 89) 12 = .ok (.iconst 1, 1))) rfl rfl rfl
  · exact fun d lv st M Q => jx_k_goto (jx_fok (by decide +kernel : decode (jx_mb 89) 13 = .ok (.goto 4, 3))) rfl
  · exact fun d lv st M Q => jx_ev_st (jx_fok (by decide +kernel : decode (jx_mb 89) 16 = .ok (.iconst 0, 1))) rfl rfl rfl
  · exact fun d lv M Q x => jx_k_rz (jx_fok (by decide +kernel : decode (jx_mb 89) 17 = .ok (.ireturn, 1))) rfl
theorem kX8_isPerson (d : Nat) (M : jx_M) (q : Int32 → jx_M → Prop) (a0 a1 : Value) : jx_I d 89 [a0, a1] M q ↔ jx_Ev d 89 0 [some a0, some a1] [] M (jx_qI q) := Iff.rfl
set_option maxRecDepth 100000 in
theorem eX8_isClap :
  (∀ (d : Nat) (st : List Value) (M : jx_M) (Q : jx_Po) (l0 : Option Value) (x : Int32), jx_Ev d 90 0 [l0, some (.int x)] st M Q ↔ jx_Ev d 90 1 [l0, some (.int x)] (.int x :: st) M Q) ∧
  (∀ (d : Nat) (lv : List (Option Value)) (st : List Value) (M : jx_M) (Q : jx_Po) (x : Int32), jx_Ev d 90 1 lv (.int x :: st) M Q ↔ (if x < 0 then jx_Ev d 90 16 lv st M Q else jx_Ev d 90 4 lv st M Q)) ∧
  (∀ (d : Nat) (st : List Value) (M : jx_M) (Q : jx_Po) (l0 : Option Value) (x : Int32), jx_Ev d 90 4 [l0, some (.int x)] st M Q ↔ jx_Ev d 90 5 [l0, some (.int x)] (.int x :: st) M Q) ∧
  (∀ (d : Nat) (st : List Value) (M : jx_M) (Q : jx_Po) (l1 : Option Value) (x : Nat), jx_Ev d 90 5 [some (.ref x), l1] st M Q ↔ jx_Ev d 90 6 [some (.ref x), l1] (.ref x :: st) M Q) ∧
  (∀ (d : Nat) (lv : List (Option Value)) (st : List Value) (M : jx_M) (Q : jx_Po), jx_Ev d 90 6 lv (.ref 36 :: st) M Q ↔ jx_Ev d 90 9 lv (.int (M 36 6) :: st) M Q) ∧
  (∀ (d : Nat) (lv : List (Option Value)) (st : List Value) (M : jx_M) (Q : jx_Po) (x z : Int32), jx_Ev d 90 9 lv (.int z :: .int x :: st) M Q ↔ (if z ≤ x then jx_Ev d 90 16 lv st M Q else jx_Ev d 90 12 lv st M Q)) ∧
  (∀ (d : Nat) (lv : List (Option Value)) (st : List Value) (M : jx_M) (Q : jx_Po), jx_Ev d 90 12 lv st M Q ↔ jx_Ev d 90 13 lv (.int 1 :: st) M Q) ∧
  (∀ (d : Nat) (lv : List (Option Value)) (st : List Value) (M : jx_M) (Q : jx_Po), jx_Ev d 90 13 lv st M Q ↔ jx_Ev d 90 17 lv st M Q) ∧
  (∀ (d : Nat) (lv : List (Option Value)) (st : List Value) (M : jx_M) (Q : jx_Po), jx_Ev d 90 16 lv st M Q ↔ jx_Ev d 90 17 lv (.int 0 :: st) M Q) ∧
  (∀ (d : Nat) (lv : List (Option Value)) (M : jx_M) (Q : jx_Po) (x : Int32), jx_Ev d 90 17 lv [.int x] M Q ↔ ((x = 0 ∨ x = 1) ∧ Q [.int x] M)) := by
  refine ⟨?_, ?_, ?_, ?_, ?_, ?_, ?_, ?_, ?_, ?_⟩
  · exact fun d st M Q l0 x => jx_ev_st (jx_fok (by decide +kernel : decode (jx_mb 90) 0 = .ok (.iload_n 1, 1))) rfl rfl rfl
  · exact fun d lv st M Q x => jx_k_b1 (jx_fok (by decide +kernel : decode (jx_mb 90) 1 = .ok (.ifCond .lt 15, 3))) rfl jx_hLt
  · exact fun d st M Q l0 x => jx_ev_st (jx_fok (by decide +kernel : decode (jx_mb 90) 4 = .ok (.iload_n 1, 1))) rfl rfl rfl
  · exact fun d st M Q l1 x => jx_ev_st (jx_fok (by decide +kernel : decode (jx_mb 90) 5 = .ok (.aload_n 0, 1))) rfl rfl rfl
  · exact fun d lv st M Q => jx_k_gf (jx_fok (by decide +kernel : decode (jx_mb 90) 6 = .ok (.getfield 80, 3))) rfl rfl rfl
  · exact fun d lv st M Q x z => jx_k_b2 (jx_fok (by decide +kernel : decode (jx_mb 90) 9 = .ok (.if_icmp .ge 7, 3))) rfl jx_hGe
  · exact fun d lv st M Q => jx_ev_st (jx_fok (by decide +kernel : decode (jx_mb 90) 12 = .ok (.iconst 1, 1))) rfl rfl rfl
  · exact fun d lv st M Q => jx_k_goto (jx_fok (by decide +kernel : decode (jx_mb 90) 13 = .ok (.goto 4, 3))) rfl
  · exact fun d lv st M Q => jx_ev_st (jx_fok (by decide +kernel : decode (jx_mb 90) 16 = .ok (.iconst 0, 1))) rfl rfl rfl
  · exact fun d lv M Q x => jx_k_rz (jx_fok (by decide +kernel : decode (jx_mb 90) 17 = .ok (.ireturn, 1))) rfl
theorem kX8_isClap (d : Nat) (M : jx_M) (q : Int32 → jx_M → Prop) (a0 a1 : Value) : jx_I d 90 [a0, a1] M q ↔ jx_Ev d 90 0 [some a0, some a1] [] M (jx_qI q) := Iff.rfl
set_option maxRecDepth 100000 in
theorem eX8_digit :
  (∀ (d : Nat) (st : List Value) (M : jx_M) (Q : jx_Po) (l1 l2 l3 : Option Value) (x : Nat), jx_Ev d 91 0 [some (.ref x), l1, l2, l3] st M Q ↔ jx_Ev d 91 1 [some (.ref x), l1, l2, l3] (.ref x :: st) M Q) ∧
  (∀ (d : Nat) (lv : List (Option Value)) (st : List Value) (M : jx_M) (Q : jx_Po), jx_Ev d 91 1 lv (.ref 36 :: st) M Q ↔ jx_Ev d 91 4 lv (.int (M 36 14) :: st) M Q) ∧
  (∀ (d : Nat) (st : List Value) (M : jx_M) (Q : jx_Po) (l0 l2 l3 : Option Value) (x : Int32), jx_Ev d 91 4 [l0, some (.int x), l2, l3] st M Q ↔ jx_Ev d 91 5 [l0, some (.int x), l2, l3] (.int x :: st) M Q) ∧
  (∀ (d : Nat) (lv : List (Option Value)) (st : List Value) (M : jx_M) (Q : jx_Po) (x z : Int32), jx_Ev d 91 5 lv (.int z :: .int x :: st) M Q ↔ (if z ≤ x then jx_Ev d 91 31 lv st M Q else jx_Ev d 91 8 lv st M Q)) ∧
  (∀ (d : Nat) (st : List Value) (M : jx_M) (Q : jx_Po) (l1 l2 l3 : Option Value) (x : Nat), jx_Ev d 91 8 [some (.ref x), l1, l2, l3] st M Q ↔ jx_Ev d 91 9 [some (.ref x), l1, l2, l3] (.ref x :: st) M Q) ∧
  (∀ (d : Nat) (lv : List (Option Value)) (st : List Value) (M : jx_M) (Q : jx_Po), jx_Ev d 91 9 lv (.ref 36 :: st) M Q ↔ jx_Ev d 91 12 lv (.ref 39 :: st) M Q) ∧
  (∀ (d : Nat) (st : List Value) (M : jx_M) (Q : jx_Po) (l1 l2 l3 : Option Value) (x : Nat), jx_Ev d 91 12 [some (.ref x), l1, l2, l3] st M Q ↔ jx_Ev d 91 13 [some (.ref x), l1, l2, l3] (.ref x :: st) M Q) ∧
  (∀ (d : Nat) (lv : List (Option Value)) (st : List Value) (M : jx_M) (Q : jx_Po), jx_Ev d 91 13 lv (.ref 36 :: st) M Q ↔ jx_Ev d 91 16 lv (.int (M 36 14) :: st) M Q) ∧
  (∀ (d : Nat) (lv : List (Option Value)) (st : List Value) (M : jx_M) (Q : jx_Po) (x : Int32) (a : Nat) (ha : jx_cl a = 9), jx_Ev d 91 16 lv (.int x :: .ref a :: st) M Q ↔ (vp_in x (jx_sz a) ∧ jx_Ev d 91 17 lv (.int (M a x.toNatClampNeg) :: st) M Q)) ∧
  (∀ (d : Nat) (lv : List (Option Value)) (st : List Value) (M : jx_M) (Q : jx_Po), jx_Ev d 91 17 lv st M Q ↔ jx_Ev d 91 19 lv (.int 48 :: st) M Q) ∧
  (∀ (d : Nat) (st : List Value) (M : jx_M) (Q : jx_Po) (l0 l1 l3 : Option Value) (x : Int32), jx_Ev d 91 19 [l0, l1, some (.int x), l3] st M Q ↔ jx_Ev d 91 20 [l0, l1, some (.int x), l3] (.int x :: st) M Q) ∧
  (∀ (d : Nat) (lv : List (Option Value)) (st : List Value) (M : jx_M) (Q : jx_Po) (x z : Int32), jx_Ev d 91 20 lv (.int z :: .int x :: st) M Q ↔ jx_Ev d 91 21 lv (.int (x + z) :: st) M Q) ∧
  (∀ (d : Nat) (lv : List (Option Value)) (st : List Value) (M : jx_M) (Q : jx_Po), jx_Ev d 91 21 lv st M Q ↔ jx_Ev d 91 23 lv (.int 48 :: st) M Q) ∧
  (∀ (d : Nat) (st : List Value) (M : jx_M) (Q : jx_Po) (l0 l1 l2 : Option Value) (x : Int32), jx_Ev d 91 23 [l0, l1, l2, some (.int x)] st M Q ↔ jx_Ev d 91 24 [l0, l1, l2, some (.int x)] (.int x :: st) M Q) ∧
  (∀ (d : Nat) (lv : List (Option Value)) (st : List Value) (M : jx_M) (Q : jx_Po) (x z : Int32), jx_Ev d 91 24 lv (.int z :: .int x :: st) M Q ↔ jx_Ev d 91 25 lv (.int (x + z) :: st) M Q) ∧
  (∀ (d : Nat) (lv : List (Option Value)) (M : jx_M) (Q : jx_Po) (a0 : Int32) (a1 : Int32) (a2 : Int32), jx_Ev (d + 1) 91 25 lv [.int a0, .int a1, .int a2] M Q ↔ jx_I d 85 [.int a2, .int a1, .int a0] M (fun x M => jx_Ev (d + 1) 91 28 lv (.int x :: []) M Q)) ∧
  (∀ (d : Nat) (lv : List (Option Value)) (st : List Value) (M : jx_M) (Q : jx_Po) (x : Int32), jx_Ev d 91 28 lv (.int x :: st) M Q ↔ (if x = 0 then jx_Ev d 91 31 lv st M Q else jx_Ev d 91 34 lv st M Q)) ∧
  (∀ (d : Nat) (lv : List (Option Value)) (st : List Value) (M : jx_M) (Q : jx_Po), jx_Ev d 91 31 lv st M Q ↔ jx_Ev d 91 33 lv (.int (-9) :: st) M Q) ∧
  (∀ (d : Nat) (lv : List (Option Value)) (M : jx_M) (Q : jx_Po) (x : Int32), jx_Ev d 91 33 lv [.int x] M Q ↔ Q [.int x] M) ∧
  (∀ (d : Nat) (st : List Value) (M : jx_M) (Q : jx_Po) (l1 l2 l3 : Option Value) (x : Nat), jx_Ev d 91 34 [some (.ref x), l1, l2, l3] st M Q ↔ jx_Ev d 91 35 [some (.ref x), l1, l2, l3] (.ref x :: st) M Q) ∧
  (∀ (d : Nat) (lv : List (Option Value)) (st : List Value) (M : jx_M) (Q : jx_Po) (x : Nat), jx_Ev d 91 35 lv (.ref x :: st) M Q ↔ jx_Ev d 91 36 lv (.ref x :: .ref x :: st) M Q) ∧
  (∀ (d : Nat) (lv : List (Option Value)) (st : List Value) (M : jx_M) (Q : jx_Po), jx_Ev d 91 36 lv (.ref 36 :: st) M Q ↔ jx_Ev d 91 39 lv (.int (M 36 14) :: st) M Q) ∧
  (∀ (d : Nat) (lv : List (Option Value)) (st : List Value) (M : jx_M) (Q : jx_Po), jx_Ev d 91 39 lv st M Q ↔ jx_Ev d 91 40 lv (.int 1 :: st) M Q) ∧
  (∀ (d : Nat) (lv : List (Option Value)) (st : List Value) (M : jx_M) (Q : jx_Po) (x z : Int32), jx_Ev d 91 40 lv (.int z :: .int x :: st) M Q ↔ jx_Ev d 91 41 lv (.int (x + z) :: st) M Q) ∧
  (∀ (d : Nat) (lv : List (Option Value)) (st : List Value) (M : jx_M) (Q : jx_Po) (x : Int32), jx_Ev d 91 41 lv (.int x :: .ref 36 :: st) M Q ↔ jx_Ev d 91 44 lv st (jx_up M 36 14 x) Q) ∧
  (∀ (d : Nat) (st : List Value) (M : jx_M) (Q : jx_Po) (l1 l2 l3 : Option Value) (x : Nat), jx_Ev d 91 44 [some (.ref x), l1, l2, l3] st M Q ↔ jx_Ev d 91 45 [some (.ref x), l1, l2, l3] (.ref x :: st) M Q) ∧
  (∀ (d : Nat) (lv : List (Option Value)) (st : List Value) (M : jx_M) (Q : jx_Po), jx_Ev d 91 45 lv (.ref 36 :: st) M Q ↔ jx_Ev d 91 48 lv (.ref 39 :: st) M Q) ∧
  (∀ (d : Nat) (st : List Value) (M : jx_M) (Q : jx_Po) (l1 l2 l3 : Option Value) (x : Nat), jx_Ev d 91 48 [some (.ref x), l1, l2, l3] st M Q ↔ jx_Ev d 91 49 [some (.ref x), l1, l2, l3] (.ref x :: st) M Q) ∧
  (∀ (d : Nat) (lv : List (Option Value)) (st : List Value) (M : jx_M) (Q : jx_Po), jx_Ev d 91 49 lv (.ref 36 :: st) M Q ↔ jx_Ev d 91 52 lv (.int (M 36 14) :: st) M Q) ∧
  (∀ (d : Nat) (lv : List (Option Value)) (st : List Value) (M : jx_M) (Q : jx_Po), jx_Ev d 91 52 lv st M Q ↔ jx_Ev d 91 53 lv (.int 1 :: st) M Q) ∧
  (∀ (d : Nat) (lv : List (Option Value)) (st : List Value) (M : jx_M) (Q : jx_Po) (x z : Int32), jx_Ev d 91 53 lv (.int z :: .int x :: st) M Q ↔ jx_Ev d 91 54 lv (.int (x - z) :: st) M Q) ∧
  (∀ (d : Nat) (lv : List (Option Value)) (st : List Value) (M : jx_M) (Q : jx_Po) (x : Int32) (a : Nat) (ha : jx_cl a = 9), jx_Ev d 91 54 lv (.int x :: .ref a :: st) M Q ↔ (vp_in x (jx_sz a) ∧ jx_Ev d 91 55 lv (.int (M a x.toNatClampNeg) :: st) M Q)) ∧
  (∀ (d : Nat) (lv : List (Option Value)) (st : List Value) (M : jx_M) (Q : jx_Po), jx_Ev d 91 55 lv st M Q ↔ jx_Ev d 91 57 lv (.int 48 :: st) M Q) ∧
  (∀ (d : Nat) (lv : List (Option Value)) (st : List Value) (M : jx_M) (Q : jx_Po) (x z : Int32), jx_Ev d 91 57 lv (.int z :: .int x :: st) M Q ↔ jx_Ev d 91 58 lv (.int (x - z) :: st) M Q) ∧
  (∀ (d : Nat) (lv : List (Option Value)) (M : jx_M) (Q : jx_Po) (x : Int32), jx_Ev d 91 58 lv [.int x] M Q ↔ Q [.int x] M) := by
  refine ⟨?_, ?_, ?_, ?_, ?_, ?_, ?_, ?_, ?_, ?_, ?_, ?_, ?_, ?_, ?_, ?_, ?_, ?_, ?_, ?_, ?_, ?_, ?_, ?_, ?_, ?_, ?_, ?_, ?_, ?_, ?_, ?_, ?_, ?_, ?_⟩
  · exact fun d st M Q l1 l2 l3 x => jx_ev_st (jx_fok (by decide +kernel : decode (jx_mb 91) 0 = .ok (.aload_n 0, 1))) rfl rfl rfl
  · exact fun d lv st M Q => jx_k_gf (jx_fok (by decide +kernel : decode (jx_mb 91) 1 = .ok (.getfield 83, 3))) rfl rfl rfl
  · exact fun d st M Q l0 l2 l3 x => jx_ev_st (jx_fok (by decide +kernel : decode (jx_mb 91) 4 = .ok (.iload_n 1, 1))) rfl rfl rfl
  · exact fun d lv st M Q x z => jx_k_b2 (jx_fok (by decide +kernel : decode (jx_mb 91) 5 = .ok (.if_icmp .ge 26, 3))) rfl jx_hGe
  · exact fun d st M Q l1 l2 l3 x => jx_ev_st (jx_fok (by decide +kernel : decode (jx_mb 91) 8 = .ok (.aload_n 0, 1))) rfl rfl rfl
  · exact fun d lv st M Q => jx_k_gf (jx_fok (by decide +kernel : decode (jx_mb 91) 9 = .ok (.getfield 16, 3))) rfl rfl rfl
  · exact fun d st M Q l1 l2 l3 x => jx_ev_st (jx_fok (by decide +kernel : decode (jx_mb 91) 12 = .ok (.aload_n 0, 1))) rfl rfl rfl
  · exact fun d lv st M Q => jx_k_gf (jx_fok (by decide +kernel : decode (jx_mb 91) 13 = .ok (.getfield 83, 3))) rfl rfl rfl
  · exact fun d lv st M Q x a ha => jx_k_al (jx_fok (by decide +kernel : decode (jx_mb 91) 16 = .ok (.iaload, 1))) ha
  · exact fun d lv st M Q => jx_ev_st (jx_fok (by decide +kernel : decode (jx_mb 91) 17 = .ok (.bipush 48, 2))) rfl rfl rfl
  · exact fun d st M Q l0 l1 l3 x => jx_ev_st (jx_fok (by decide +kernel : decode (jx_mb 91) 19 = .ok (.iload_n 2, 1))) rfl rfl rfl
  · exact fun d lv st M Q x z => jx_ev_st (jx_fok (by decide +kernel : decode (jx_mb 91) 20 = .ok (.iadd, 1))) rfl rfl rfl
  · exact fun d lv st M Q => jx_ev_st (jx_fok (by decide +kernel : decode (jx_mb 91) 21 = .ok (.bipush 48, 2))) rfl rfl rfl
  · exact fun d st M Q l0 l1 l2 x => jx_ev_st (jx_fok (by decide +kernel : decode (jx_mb 91) 23 = .ok (.iload_n 3, 1))) rfl rfl rfl
  · exact fun d lv st M Q x z => jx_ev_st (jx_fok (by decide +kernel : decode (jx_mb 91) 24 = .ok (.iadd, 1))) rfl rfl rfl
  · exact fun d lv M Q a0 a1 a2 => jx_ev_ci (jx_fok (by decide +kernel : decode (jx_mb 91) 25 = .ok (.invokestatic 73, 3))) rfl (jx_ccS (As := [.int a2, .int a1, .int a0]) (rest := []) rfl rfl rfl rfl rfl) (by decide)
  · exact fun d lv st M Q x => jx_k_b1n (jx_fok (by decide +kernel : decode (jx_mb 91) 28 = .ok (.ifCond .ne 6, 3))) rfl jx_hNe
  · exact fun d lv st M Q => jx_ev_st (jx_fok (by decide +kernel : decode (jx_mb 91) 31 = .ok (.bipush (-9), 2))) rfl rfl rfl
  · exact fun d lv M Q x => jx_k_ri (jx_fok (by decide +kernel : decode (jx_mb 91) 33 = .ok (.ireturn, 1))) rfl
  · exact fun d st M Q l1 l2 l3 x => jx_ev_st (jx_fok (by decide +kernel : decode (jx_mb 91) 34 = .ok (.aload_n 0, 1))) rfl rfl rfl
  · exact fun d lv st M Q x => jx_ev_st (jx_fok (by decide +kernel : decode (jx_mb 91) 35 = .ok (.dup, 1))) rfl rfl rfl
  · exact fun d lv st M Q => jx_k_gf (jx_fok (by decide +kernel : decode (jx_mb 91) 36 = .ok (.getfield 83, 3))) rfl rfl rfl
  · exact fun d lv st M Q => jx_ev_st (jx_fok (by decide +kernel : decode (jx_mb 91) 39 = .ok (.iconst 1, 1))) rfl rfl rfl
  · exact fun d lv st M Q x z => jx_ev_st (jx_fok (by decide +kernel : decode (jx_mb 91) 40 = .ok (.iadd, 1))) rfl rfl rfl
  · exact fun d lv st M Q x => jx_k_pf0 (jx_fok (by decide +kernel : decode (jx_mb 91) 41 = .ok (.putfield 83, 3))) rfl rfl rfl
  · exact fun d st M Q l1 l2 l3 x => jx_ev_st (jx_fok (by decide +kernel : decode (jx_mb 91) 44 = .ok (.aload_n 0, 1))) rfl rfl rfl
  · exact fun d lv st M Q => jx_k_gf (jx_fok (by decide +kernel : decode (jx_mb 91) 45 = .ok (.getfield 16, 3))) rfl rfl rfl
  · exact fun d st M Q l1 l2 l3 x => jx_ev_st (jx_fok (by decide +kernel : decode (jx_mb 91) 48 = .ok (.aload_n 0, 1))) rfl rfl rfl
  · exact fun d lv st M Q => jx_k_gf (jx_fok (by decide +kernel : decode (jx_mb 91) 49 = .ok (.getfield 83, 3))) rfl rfl rfl
  · exact fun d lv st M Q => jx_ev_st (jx_fok (by decide +kernel : decode (jx_mb 91) 52 = .ok (.iconst 1, 1))) rfl rfl rfl
  · exact fun d lv st M Q x z => jx_ev_st (jx_fok (by decide +kernel : decode (jx_mb 91) 53 = .ok (.isub, 1))) rfl rfl rfl
  · exact fun d lv st M Q x a ha => jx_k_al (jx_fok (by decide +kernel : decode (jx_mb 91) 54 = .ok (.iaload, 1))) ha
  · exact fun d lv st M Q => jx_ev_st (jx_fok (by decide +kernel : decode (jx_mb 91) 55 = .ok (.bipush 48, 2))) rfl rfl rfl
  · exact fun d lv st M Q x z => jx_ev_st (jx_fok (by decide +kernel : decode (jx_mb 91) 57 = .ok (.isub, 1))) rfl rfl rfl
  · exact fun d lv M Q x => jx_k_ri (jx_fok (by decide +kernel : decode (jx_mb 91) 58 = .ok (.ireturn, 1))) rfl
theorem kX8_digit (d : Nat) (M : jx_M) (q : Int32 → jx_M → Prop) (a0 a1 a2 a3 : Value) : jx_I d 91 [a0, a1, a2, a3] M q ↔ jx_Ev d 91 0 [some a0, some a1, some a2, some a3] [] M (jx_qI q) := Iff.rfl
set_option maxRecDepth 100000 in
theorem eX8_isSign :
  (∀ (d : Nat) (st : List Value) (M : jx_M) (Q : jx_Po) (l1 l2 : Option Value) (x : Nat), jx_Ev d 92 0 [some (.ref x), l1, l2] st M Q ↔ jx_Ev d 92 1 [some (.ref x), l1, l2] (.ref x :: st) M Q) ∧
  (∀ (d : Nat) (lv : List (Option Value)) (st : List Value) (M : jx_M) (Q : jx_Po), jx_Ev d 92 1 lv (.ref 36 :: st) M Q ↔ jx_Ev d 92 4 lv (.int (M 36 14) :: st) M Q) ∧
  (∀ (d : Nat) (st : List Value) (M : jx_M) (Q : jx_Po) (l0 l2 : Option Value) (x : Int32), jx_Ev d 92 4 [l0, some (.int x), l2] st M Q ↔ jx_Ev d 92 5 [l0, some (.int x), l2] (.int x :: st) M Q) ∧
  (∀ (d : Nat) (lv : List (Option Value)) (st : List Value) (M : jx_M) (Q : jx_Po) (x z : Int32), jx_Ev d 92 5 lv (.int z :: .int x :: st) M Q ↔ (if z ≤ x then jx_Ev d 92 21 lv st M Q else jx_Ev d 92 8 lv st M Q)) ∧
  (∀ (d : Nat) (st : List Value) (M : jx_M) (Q : jx_Po) (l1 l2 : Option Value) (x : Nat), jx_Ev d 92 8 [some (.ref x), l1, l2] st M Q ↔ jx_Ev d 92 9 [some (.ref x), l1, l2] (.ref x :: st) M Q) ∧
  (∀ (d : Nat) (lv : List (Option Value)) (st : List Value) (M : jx_M) (Q : jx_Po), jx_Ev d 92 9 lv (.ref 36 :: st) M Q ↔ jx_Ev d 92 12 lv (.ref 39 :: st) M Q) ∧
  (∀ (d : Nat) (st : List Value) (M : jx_M) (Q : jx_Po) (l1 l2 : Option Value) (x : Nat), jx_Ev d 92 12 [some (.ref x), l1, l2] st M Q ↔ jx_Ev d 92 13 [some (.ref x), l1, l2] (.ref x :: st) M Q) ∧
  (∀ (d : Nat) (lv : List (Option Value)) (st : List Value) (M : jx_M) (Q : jx_Po), jx_Ev d 92 13 lv (.ref 36 :: st) M Q ↔ jx_Ev d 92 16 lv (.int (M 36 14) :: st) M Q) ∧
  (∀ (d : Nat) (lv : List (Option Value)) (st : List Value) (M : jx_M) (Q : jx_Po) (x : Int32) (a : Nat) (ha : jx_cl a = 9), jx_Ev d 92 16 lv (.int x :: .ref a :: st) M Q ↔ (vp_in x (jx_sz a) ∧ jx_Ev d 92 17 lv (.int (M a x.toNatClampNeg) :: st) M Q)) ∧
  (∀ (d : Nat) (st : List Value) (M : jx_M) (Q : jx_Po) (l0 l1 : Option Value) (x : Int32), jx_Ev d 92 17 [l0, l1, some (.int x)] st M Q ↔ jx_Ev d 92 18 [l0, l1, some (.int x)] (.int x :: st) M Q) ∧
  (∀ (d : Nat) (lv : List (Option Value)) (st : List Value) (M : jx_M) (Q : jx_Po) (x z : Int32), jx_Ev d 92 18 lv (.int z :: .int x :: st) M Q ↔ (if x = z then jx_Ev d 92 23 lv st M Q else jx_Ev d 92 21 lv st M Q)) ∧
  (∀ (d : Nat) (lv : List (Option Value)) (st : List Value) (M : jx_M) (Q : jx_Po), jx_Ev d 92 21 lv st M Q ↔ jx_Ev d 92 22 lv (.int 0 :: st) M Q) ∧
  (∀ (d : Nat) (lv : List (Option Value)) (M : jx_M) (Q : jx_Po) (x : Int32), jx_Ev d 92 22 lv [.int x] M Q ↔ ((x = 0 ∨ x = 1) ∧ Q [.int x] M)) ∧
  (∀ (d : Nat) (st : List Value) (M : jx_M) (Q : jx_Po) (l1 l2 : Option Value) (x : Nat), jx_Ev d 92 23 [some (.ref x), l1, l2] st M Q ↔ jx_Ev d 92 24 [some (.ref x), l1, l2] (.ref x :: st) M Q) ∧
  (∀ (d : Nat) (lv : List (Option Value)) (st : List Value) (M : jx_M) (Q : jx_Po) (x : Nat), jx_Ev d 92 24 lv (.ref x :: st) M Q ↔ jx_Ev d 92 25 lv (.ref x :: .ref x :: st) M Q) ∧
  (∀ (d : Nat) (lv : List (Option Value)) (st : List Value) (M : jx_M) (Q : jx_Po), jx_Ev d 92 25 lv (.ref 36 :: st) M Q ↔ jx_Ev d 92 28 lv (.int (M 36 14) :: st) M Q) ∧
  (∀ (d : Nat) (lv : List (Option Value)) (st : List Value) (M : jx_M) (Q : jx_Po), jx_Ev d 92 28 lv st M Q ↔ jx_Ev d 92 29 lv (.int 1 :: st) M Q) ∧
  (∀ (d : Nat) (lv : List (Option Value)) (st : List Value) (M : jx_M) (Q : jx_Po) (x z : Int32), jx_Ev d 92 29 lv (.int z :: .int x :: st) M Q ↔ jx_Ev d 92 30 lv (.int (x + z) :: st) M Q) ∧
  (∀ (d : Nat) (lv : List (Option Value)) (st : List Value) (M : jx_M) (Q : jx_Po) (x : Int32), jx_Ev d 92 30 lv (.int x :: .ref 36 :: st) M Q ↔ jx_Ev d 92 33 lv st (jx_up M 36 14 x) Q) ∧
  (∀ (d : Nat) (lv : List (Option Value)) (st : List Value) (M : jx_M) (Q : jx_Po), jx_Ev d 92 33 lv st M Q ↔ jx_Ev d 92 34 lv (.int 1 :: st) M Q) ∧
  (∀ (d : Nat) (lv : List (Option Value)) (M : jx_M) (Q : jx_Po) (x : Int32), jx_Ev d 92 34 lv [.int x] M Q ↔ ((x = 0 ∨ x = 1) ∧ Q [.int x] M)) := by
  refine ⟨?_, ?_, ?_, ?_, ?_, ?_, ?_, ?_, ?_, ?_, ?_, ?_, ?_, ?_, ?_, ?_, ?_, ?_, ?_, ?_, ?_⟩
  · exact fun d st M Q l1 l2 x => jx_ev_st (jx_fok (by decide +kernel : decode (jx_mb 92) 0 = .ok (.aload_n 0, 1))) rfl rfl rfl
  · exact fun d lv st M Q => jx_k_gf (jx_fok (by decide +kernel : decode (jx_mb 92) 1 = .ok (.getfield 83, 3))) rfl rfl rfl
  · exact fun d st M Q l0 l2 x => jx_ev_st (jx_fok (by decide +kernel : decode (jx_mb 92) 4 = .ok (.iload_n 1, 1))) rfl rfl rfl
  · exact fun d lv st M Q x z => jx_k_b2 (jx_fok (by decide +kernel : decode (jx_mb 92) 5 = .ok (.if_icmp .ge 16, 3))) rfl jx_hGe
  · exact fun d st M Q l1 l2 x => jx_ev_st (jx_fok (by decide +kernel : decode (jx_mb 92) 8 = .ok (.aload_n 0, 1))) rfl rfl rfl
  · exact fun d lv st M Q => jx_k_gf (jx_fok (by decide +kernel : decode (jx_mb 92) 9 = .ok (.getfield 16, 3))) rfl rfl rfl
  · exact fun d st M Q l1 l2 x => jx_ev_st (jx_fok (by decide +kernel : decode (jx_mb 92) 12 = .ok (.aload_n 0, 1))) rfl rfl rfl
  · exact fun d lv st M Q => jx_k_gf (jx_fok (by decide +kernel : decode (jx_mb 92) 13 = .ok (.getfield 83, 3))) rfl rfl rfl
  · exact fun d lv st M Q x a ha => jx_k_al (jx_fok (by decide +kernel : decode (jx_mb 92) 16 = .ok (.iaload, 1))) ha
  · exact fun d st M Q l0 l1 x => jx_ev_st (jx_fok (by decide +kernel : decode (jx_mb 92) 17 = .ok (.iload_n 2, 1))) rfl rfl rfl
  · exact fun d lv st M Q x z => jx_k_b2 (jx_fok (by decide +kernel : decode (jx_mb 92) 18 = .ok (.if_icmp .eq 5, 3))) rfl jx_hEq
  · exact fun d lv st M Q => jx_ev_st (jx_fok (by decide +kernel : decode (jx_mb 92) 21 = .ok (.iconst 0, 1))) rfl rfl rfl
  · exact fun d lv M Q x => jx_k_rz (jx_fok (by decide +kernel : decode (jx_mb 92) 22 = .ok (.ireturn, 1))) rfl
  · exact fun d st M Q l1 l2 x => jx_ev_st (jx_fok (by decide +kernel : decode (jx_mb 92) 23 = .ok (.aload_n 0, 1))) rfl rfl rfl
  · exact fun d lv st M Q x => jx_ev_st (jx_fok (by decide +kernel : decode (jx_mb 92) 24 = .ok (.dup, 1))) rfl rfl rfl
  · exact fun d lv st M Q => jx_k_gf (jx_fok (by decide +kernel : decode (jx_mb 92) 25 = .ok (.getfield 83, 3))) rfl rfl rfl
  · exact fun d lv st M Q => jx_ev_st (jx_fok (by decide +kernel : decode (jx_mb 92) 28 = .ok (.iconst 1, 1))) rfl rfl rfl
  · exact fun d lv st M Q x z => jx_ev_st (jx_fok (by decide +kernel : decode (jx_mb 92) 29 = .ok (.iadd, 1))) rfl rfl rfl
  · exact fun d lv st M Q x => jx_k_pf0 (jx_fok (by decide +kernel : decode (jx_mb 92) 30 = .ok (.putfield 83, 3))) rfl rfl rfl
  · exact fun d lv st M Q => jx_ev_st (jx_fok (by decide +kernel : decode (jx_mb 92) 33 = .ok (.iconst 1, 1))) rfl rfl rfl
  · exact fun d lv M Q x => jx_k_rz (jx_fok (by decide +kernel : decode (jx_mb 92) 34 = .ok (.ireturn, 1))) rfl
theorem kX8_isSign (d : Nat) (M : jx_M) (q : Int32 → jx_M → Prop) (a0 a1 a2 : Value) : jx_I d 92 [a0, a1, a2] M q ↔ jx_Ev d 92 0 [some a0, some a1, some a2] [] M (jx_qI q) := Iff.rfl
set_option maxRecDepth 100000 in
theorem eX8_office :
  (∀ (d : Nat) (st : List Value) (M : jx_M) (Q : jx_Po) (l1 l2 l3 l4 l5 l6 : Option Value) (x : Nat), jx_Ev d 93 0 [some (.ref x), l1, l2, l3, l4, l5, l6] st M Q ↔ jx_Ev d 93 1 [some (.ref x), l1, l2, l3, l4, l5, l6] (.ref x :: st) M Q) ∧
  (∀ (d : Nat) (lv : List (Option Value)) (st : List Value) (M : jx_M) (Q : jx_Po), jx_Ev d 93 1 lv st M Q ↔ jx_Ev d 93 2 lv (.int 0 :: st) M Q) ∧
  (∀ (d : Nat) (lv : List (Option Value)) (st : List Value) (M : jx_M) (Q : jx_Po) (x : Int32), jx_Ev d 93 2 lv (.int x :: .ref 36 :: st) M Q ↔ jx_Ev d 93 5 lv st (jx_up M 36 0 x) Q) ∧
  (∀ (d : Nat) (st : List Value) (M : jx_M) (Q : jx_Po) (l0 l2 l3 l4 l5 l6 : Option Value) (x : Int32), jx_Ev d 93 5 [l0, some (.int x), l2, l3, l4, l5, l6] st M Q ↔ jx_Ev d 93 6 [l0, some (.int x), l2, l3, l4, l5, l6] (.int x :: st) M Q) ∧
  (∀ (d : Nat) (lv : List (Option Value)) (M : jx_M) (Q : jx_Po) (a0 : Int32), jx_Ev (d + 1) 93 6 lv [.int a0] M Q ↔ jx_I d 86 [.int a0] M (fun x M => jx_Ev (d + 1) 93 9 lv (.int x :: []) M Q)) ∧
  (∀ (d : Nat) (lv : List (Option Value)) (st : List Value) (M : jx_M) (Q : jx_Po) (x : Int32), jx_Ev d 93 9 lv (.int x :: st) M Q ↔ (if x = 0 then jx_Ev d 93 12 lv st M Q else jx_Ev d 93 14 lv st M Q)) ∧
  (∀ (d : Nat) (lv : List (Option Value)) (st : List Value) (M : jx_M) (Q : jx_Po), jx_Ev d 93 12 lv st M Q ↔ jx_Ev d 93 13 lv (.int (-1) :: st) M Q) ∧
  (∀ (d : Nat) (lv : List (Option Value)) (M : jx_M) (Q : jx_Po) (x : Int32), jx_Ev d 93 13 lv [.int x] M Q ↔ Q [.int x] M) ∧
  (∀ (d : Nat) (st : List Value) (M : jx_M) (Q : jx_Po) (l0 l1 l3 l4 l5 l6 : Option Value) (x : Int32), jx_Ev d 93 14 [l0, l1, some (.int x), l3, l4, l5, l6] st M Q ↔ jx_Ev d 93 15 [l0, l1, some (.int x), l3, l4, l5, l6] (.int x :: st) M Q) ∧
  (∀ (d : Nat) (lv : List (Option Value)) (M : jx_M) (Q : jx_Po) (a0 : Int32), jx_Ev (d + 1) 93 15 lv [.int a0] M Q ↔ jx_I d 87 [.int a0] M (fun x M => jx_Ev (d + 1) 93 18 lv (.int x :: []) M Q)) ∧
  (∀ (d : Nat) (lv : List (Option Value)) (st : List Value) (M : jx_M) (Q : jx_Po) (x : Int32), jx_Ev d 93 18 lv (.int x :: st) M Q ↔ (if x = 0 then jx_Ev d 93 21 lv st M Q else jx_Ev d 93 24 lv st M Q)) ∧
  (∀ (d : Nat) (lv : List (Option Value)) (st : List Value) (M : jx_M) (Q : jx_Po), jx_Ev d 93 21 lv st M Q ↔ jx_Ev d 93 23 lv (.int (-2) :: st) M Q) ∧
  (∀ (d : Nat) (lv : List (Option Value)) (M : jx_M) (Q : jx_Po) (x : Int32), jx_Ev d 93 23 lv [.int x] M Q ↔ Q [.int x] M) ∧
  (∀ (d : Nat) (st : List Value) (M : jx_M) (Q : jx_Po) (l1 l2 l3 l4 l5 l6 : Option Value) (x : Nat), jx_Ev d 93 24 [some (.ref x), l1, l2, l3, l4, l5, l6] st M Q ↔ jx_Ev d 93 25 [some (.ref x), l1, l2, l3, l4, l5, l6] (.ref x :: st) M Q) ∧
  (∀ (d : Nat) (st : List Value) (M : jx_M) (Q : jx_Po) (l0 l2 l3 l4 l5 l6 : Option Value) (x : Int32), jx_Ev d 93 25 [l0, some (.int x), l2, l3, l4, l5, l6] st M Q ↔ jx_Ev d 93 26 [l0, some (.int x), l2, l3, l4, l5, l6] (.int x :: st) M Q) ∧
  (∀ (d : Nat) (st : List Value) (M : jx_M) (Q : jx_Po) (l0 l1 l3 l4 l5 l6 : Option Value) (x : Int32), jx_Ev d 93 26 [l0, l1, some (.int x), l3, l4, l5, l6] st M Q ↔ jx_Ev d 93 27 [l0, l1, some (.int x), l3, l4, l5, l6] (.int x :: st) M Q) ∧
  (∀ (d : Nat) (st : List Value) (M : jx_M) (Q : jx_Po) (l0 l1 l2 l4 l5 l6 : Option Value) (x : Int32), jx_Ev d 93 27 [l0, l1, l2, some (.int x), l4, l5, l6] st M Q ↔ jx_Ev d 93 28 [l0, l1, l2, some (.int x), l4, l5, l6] (.int x :: st) M Q) ∧
  (∀ (d : Nat) (st : List Value) (M : jx_M) (Q : jx_Po) (l0 l1 l2 l3 l5 l6 : Option Value) (x : Int32), jx_Ev d 93 28 [l0, l1, l2, l3, some (.int x), l5, l6] st M Q ↔ jx_Ev d 93 30 [l0, l1, l2, l3, some (.int x), l5, l6] (.int x :: st) M Q) ∧
  (∀ (d : Nat) (lv : List (Option Value)) (M : jx_M) (Q : jx_Po) (a0 : Int32) (a1 : Int32) (a2 : Int32) (a3 : Int32), jx_Ev (d + 1) 93 30 lv [.int a0, .int a1, .int a2, .int a3, .ref 36] M Q ↔ jx_I d 88 [.ref 36, .int a3, .int a2, .int a1, .int a0] M (fun x M => jx_Ev (d + 1) 93 33 lv (.int x :: []) M Q)) ∧
  (∀ (d : Nat) (st : List Value) (M : jx_M) (Q : jx_Po) (l0 l1 l2 l3 l4 l5 l6 : Option Value) (x : Int32), jx_Ev d 93 33 [l0, l1, l2, l3, l4, l5, l6] (.int x :: st) M Q ↔ jx_Ev d 93 35 [l0, l1, l2, l3, l4, some (.int x), l6] st M Q) ∧
  (∀ (d : Nat) (st : List Value) (M : jx_M) (Q : jx_Po) (l0 l1 l2 l3 l4 l6 : Option Value) (x : Int32), jx_Ev d 93 35 [l0, l1, l2, l3, l4, some (.int x), l6] st M Q ↔ jx_Ev d 93 37 [l0, l1, l2, l3, l4, some (.int x), l6] (.int x :: st) M Q) ∧
  (∀ (d : Nat) (lv : List (Option Value)) (st : List Value) (M : jx_M) (Q : jx_Po) (x : Int32), jx_Ev d 93 37 lv (.int x :: st) M Q ↔ (if x = 0 then jx_Ev d 93 47 lv st M Q else jx_Ev d 93 40 lv st M Q)) ∧
  (∀ (d : Nat) (st : List Value) (M : jx_M) (Q : jx_Po) (l1 l2 l3 l4 l5 l6 : Option Value) (x : Nat), jx_Ev d 93 40 [some (.ref x), l1, l2, l3, l4, l5, l6] st M Q ↔ jx_Ev d 93 41 [some (.ref x), l1, l2, l3, l4, l5, l6] (.ref x :: st) M Q) ∧
  (∀ (d : Nat) (st : List Value) (M : jx_M) (Q : jx_Po) (l0 l1 l2 l3 l4 l6 : Option Value) (x : Int32), jx_Ev d 93 41 [l0, l1, l2, l3, l4, some (.int x), l6] st M Q ↔ jx_Ev d 93 43 [l0, l1, l2, l3, l4, some (.int x), l6] (.int x :: st) M Q) ∧
  (∀ (d : Nat) (lv : List (Option Value)) (M : jx_M) (Q : jx_Po) (a0 : Int32), jx_Ev (d + 1) 93 43 lv [.int a0, .ref 36] M Q ↔ jx_I d 83 [.ref 36, .int a0] M (fun x M => jx_Ev (d + 1) 93 46 lv (.int x :: []) M Q)) ∧
  (∀ (d : Nat) (lv : List (Option Value)) (M : jx_M) (Q : jx_Po) (x : Int32), jx_Ev d 93 46 lv [.int x] M Q ↔ Q [.int x] M) ∧
  (∀ (d : Nat) (lv : List (Option Value)) (st : List Value) (M : jx_M) (Q : jx_Po), jx_Ev d 93 47 lv st M Q ↔ jx_Ev d 93 49 lv (.int 60 :: st) M Q) ∧
  (∀ (d : Nat) (st : List Value) (M : jx_M) (Q : jx_Po) (l0 l2 l3 l4 l5 l6 : Option Value) (x : Int32), jx_Ev d 93 49 [l0, some (.int x), l2, l3, l4, l5, l6] st M Q ↔ jx_Ev d 93 50 [l0, some (.int x), l2, l3, l4, l5, l6] (.int x :: st) M Q) ∧
  (∀ (d : Nat) (lv : List (Option Value)) (st : List Value) (M : jx_M) (Q : jx_Po) (x z : Int32), jx_Ev d 93 50 lv (.int z :: .int x :: st) M Q ↔ jx_Ev d 93 51 lv (.int (x * z) :: st) M Q) ∧
  (∀ (d : Nat) (st : List Value) (M : jx_M) (Q : jx_Po) (l0 l1 l2 l4 l5 l6 : Option Value) (x : Int32), jx_Ev d 93 51 [l0, l1, l2, some (.int x), l4, l5, l6] st M Q ↔ jx_Ev d 93 52 [l0, l1, l2, some (.int x), l4, l5, l6] (.int x :: st) M Q) ∧
  (∀ (d : Nat) (lv : List (Option Value)) (st : List Value) (M : jx_M) (Q : jx_Po) (x z : Int32), jx_Ev d 93 52 lv (.int z :: .int x :: st) M Q ↔ jx_Ev d 93 53 lv (.int (x + z) :: st) M Q) ∧
  (∀ (d : Nat) (st : List Value) (M : jx_M) (Q : jx_Po) (l0 l1 l2 l3 l4 l5 l6 : Option Value) (x : Int32), jx_Ev d 93 53 [l0, l1, l2, l3, l4, l5, l6] (.int x :: st) M Q ↔ jx_Ev d 93 55 [l0, l1, l2, l3, l4, l5, some (.int x)] st M Q) ∧
  (∀ (d : Nat) (st : List Value) (M : jx_M) (Q : jx_Po) (l1 l2 l3 l4 l5 l6 : Option Value) (x : Nat), jx_Ev d 93 55 [some (.ref x), l1, l2, l3, l4, l5, l6] st M Q ↔ jx_Ev d 93 56 [some (.ref x), l1, l2, l3, l4, l5, l6] (.ref x :: st) M Q) ∧
  (∀ (d : Nat) (st : List Value) (M : jx_M) (Q : jx_Po) (l0 l1 l2 l3 l4 l5 : Option Value) (x : Int32), jx_Ev d 93 56 [l0, l1, l2, l3, l4, l5, some (.int x)] st M Q ↔ jx_Ev d 93 58 [l0, l1, l2, l3, l4, l5, some (.int x)] (.int x :: st) M Q) ∧
  (∀ (d : Nat) (lv : List (Option Value)) (st : List Value) (M : jx_M) (Q : jx_Po) (x : Int32), jx_Ev d 93 58 lv (.int x :: .ref 36 :: st) M Q ↔ jx_Ev d 93 61 lv st (jx_up M 36 14 x) Q) ∧
  (∀ (d : Nat) (st : List Value) (M : jx_M) (Q : jx_Po) (l1 l2 l3 l4 l5 l6 : Option Value) (x : Nat), jx_Ev d 93 61 [some (.ref x), l1, l2, l3, l4, l5, l6] st M Q ↔ jx_Ev d 93 62 [some (.ref x), l1, l2, l3, l4, l5, l6] (.ref x :: st) M Q) ∧
  (∀ (d : Nat) (st : List Value) (M : jx_M) (Q : jx_Po) (l0 l1 l2 l3 l4 l5 : Option Value) (x : Int32), jx_Ev d 93 62 [l0, l1, l2, l3, l4, l5, some (.int x)] st M Q ↔ jx_Ev d 93 64 [l0, l1, l2, l3, l4, l5, some (.int x)] (.int x :: st) M Q) ∧
  (∀ (d : Nat) (st : List Value) (M : jx_M) (Q : jx_Po) (l0 l1 l2 l3 l5 l6 : Option Value) (x : Int32), jx_Ev d 93 64 [l0, l1, l2, l3, some (.int x), l5, l6] st M Q ↔ jx_Ev d 93 66 [l0, l1, l2, l3, some (.int x), l5, l6] (.int x :: st) M Q) ∧
  (∀ (d : Nat) (lv : List (Option Value)) (st : List Value) (M : jx_M) (Q : jx_Po) (x z : Int32), jx_Ev d 93 66 lv (.int z :: .int x :: st) M Q ↔ jx_Ev d 93 67 lv (.int (x + z) :: st) M Q) ∧
  (∀ (d : Nat) (lv : List (Option Value)) (M : jx_M) (Q : jx_Po) (a0 : Int32), jx_Ev (d + 1) 93 67 lv [.int a0, .ref 36] M Q ↔ jx_I d 95 [.ref 36, .int a0] M (fun x M => jx_Ev (d + 1) 93 70 lv (.int x :: []) M Q)) ∧
  (∀ (d : Nat) (lv : List (Option Value)) (st : List Value) (M : jx_M) (Q : jx_Po) (x : Int32), jx_Ev d 93 70 lv (.int x :: st) M Q ↔ (if x = 0 then jx_Ev d 93 73 lv st M Q else jx_Ev d 93 84 lv st M Q)) ∧
  (∀ (d : Nat) (lv : List (Option Value)) (st : List Value) (M : jx_M) (Q : jx_Po), jx_Ev d 93 73 lv st M Q ↔ jx_Ev d 93 75 lv (.int (-100) :: st) M Q) ∧
  (∀ (d : Nat) (st : List Value) (M : jx_M) (Q : jx_Po) (l1 l2 l3 l4 l5 l6 : Option Value) (x : Nat), jx_Ev d 93 75 [some (.ref x), l1, l2, l3, l4, l5, l6] st M Q ↔ jx_Ev d 93 76 [some (.ref x), l1, l2, l3, l4, l5, l6] (.ref x :: st) M Q) ∧
  (∀ (d : Nat) (lv : List (Option Value)) (st : List Value) (M : jx_M) (Q : jx_Po), jx_Ev d 93 76 lv (.ref 36 :: st) M Q ↔ jx_Ev d 93 79 lv (.int (M 36 14) :: st) M Q) ∧
  (∀ (d : Nat) (st : List Value) (M : jx_M) (Q : jx_Po) (l0 l1 l2 l3 l4 l5 : Option Value) (x : Int32), jx_Ev d 93 79 [l0, l1, l2, l3, l4, l5, some (.int x)] st M Q ↔ jx_Ev d 93 81 [l0, l1, l2, l3, l4, l5, some (.int x)] (.int x :: st) M Q) ∧
  (∀ (d : Nat) (lv : List (Option Value)) (st : List Value) (M : jx_M) (Q : jx_Po) (x z : Int32), jx_Ev d 93 81 lv (.int z :: .int x :: st) M Q ↔ jx_Ev d 93 82 lv (.int (x - z) :: st) M Q) ∧
  (∀ (d : Nat) (lv : List (Option Value)) (st : List Value) (M : jx_M) (Q : jx_Po) (x z : Int32), jx_Ev d 93 82 lv (.int z :: .int x :: st) M Q ↔ jx_Ev d 93 83 lv (.int (x - z) :: st) M Q) ∧
  (∀ (d : Nat) (lv : List (Option Value)) (M : jx_M) (Q : jx_Po) (x : Int32), jx_Ev d 93 83 lv [.int x] M Q ↔ Q [.int x] M) ∧
  (∀ (d : Nat) (st : List Value) (M : jx_M) (Q : jx_Po) (l1 l2 l3 l4 l5 l6 : Option Value) (x : Nat), jx_Ev d 93 84 [some (.ref x), l1, l2, l3, l4, l5, l6] st M Q ↔ jx_Ev d 93 85 [some (.ref x), l1, l2, l3, l4, l5, l6] (.ref x :: st) M Q) ∧
  (∀ (d : Nat) (lv : List (Option Value)) (M : jx_M) (Q : jx_Po), jx_Ev (d + 1) 93 85 lv [.ref 36] M Q ↔ jx_V d 94 [.ref 36] M (fun M => jx_Ev (d + 1) 93 88 lv [] M Q)) ∧
  (∀ (d : Nat) (st : List Value) (M : jx_M) (Q : jx_Po) (l1 l2 l3 l4 l5 l6 : Option Value) (x : Nat), jx_Ev d 93 88 [some (.ref x), l1, l2, l3, l4, l5, l6] st M Q ↔ jx_Ev d 93 89 [some (.ref x), l1, l2, l3, l4, l5, l6] (.ref x :: st) M Q) ∧
  (∀ (d : Nat) (lv : List (Option Value)) (st : List Value) (M : jx_M) (Q : jx_Po), jx_Ev d 93 89 lv (.ref 36 :: st) M Q ↔ jx_Ev d 93 92 lv (.int (M 36 6) :: st) M Q) ∧
  (∀ (d : Nat) (lv : List (Option Value)) (M : jx_M) (Q : jx_Po) (x : Int32), jx_Ev d 93 92 lv [.int x] M Q ↔ Q [.int x] M) := by
  refine ⟨?_, ?_, ?_, ?_, ?_, ?_, ?_, ?_, ?_, ?_, ?_, ?_, ?_, ?_, ?_, ?_, ?_, ?_, ?_, ?_, ?_, ?_, ?_, ?_, ?_, ?_, ?_, ?_, ?_, ?_, ?_, ?_, ?_, ?_, ?_, ?_, ?_, ?_, ?_, ?_, ?_, ?_, ?_, ?_, ?_, ?_, ?_, ?_, ?_, ?_, ?_, ?_, ?_⟩
  · exact fun d st M Q l1 l2 l3 l4 l5 l6 x => jx_ev_st (jx_fok (by decide +kernel : decode (jx_mb 93) 0 = .ok (.aload_n 0, 1))) rfl rfl rfl
  · exact fun d lv st M Q => jx_ev_st (jx_fok (by decide +kernel : decode (jx_mb 93) 1 = .ok (.iconst 0, 1))) rfl rfl rfl
  · exact fun d lv st M Q x => jx_k_pf0 (jx_fok (by decide +kernel : decode (jx_mb 93) 2 = .ok (.putfield 67, 3))) rfl rfl rfl
  · exact fun d st M Q l0 l2 l3 l4 l5 l6 x => jx_ev_st (jx_fok (by decide +kernel : decode (jx_mb 93) 5 = .ok (.iload_n 1, 1))) rfl rfl rfl
  · exact fun d lv M Q a0 => jx_ev_ci (jx_fok (by decide +kernel : decode (jx_mb 93) 6 = .ok (.invokestatic 86, 3))) rfl (jx_ccS (As := [.int a0]) (rest := []) rfl rfl rfl rfl rfl) (by decide)
  · exact fun d lv st M Q x => jx_k_b1n (jx_fok (by decide +kernel : decode (jx_mb 93) 9 = .ok (.ifCond .ne 5, 3))) rfl jx_hNe
  · exact fun d lv st M Q => jx_ev_st (jx_fok (by decide +kernel : decode (jx_mb 93) 12 = .ok (.iconst (-1), 1))) rfl rfl rfl
  · exact fun d lv M Q x => jx_k_ri (jx_fok (by decide +kernel : decode (jx_mb 93) 13 = .ok (.ireturn, 1))) rfl
  · exact fun d st M Q l0 l1 l3 l4 l5 l6 x => jx_ev_st (jx_fok (by decide +kernel : decode (jx_mb 93) 14 = .ok (.iload_n 2, 1))) rfl rfl rfl
  · exact fun d lv M Q a0 => jx_ev_ci (jx_fok (by decide +kernel : decode (jx_mb 93) 15 = .ok (.invokestatic 90, 3))) rfl (jx_ccS (As := [.int a0]) (rest := []) rfl rfl rfl rfl rfl) (by decide)
  · exact fun d lv st M Q x => jx_k_b1n (jx_fok (by decide +kernel : decode (jx_mb 93) 18 = .ok (.ifCond .ne 6, 3))) rfl jx_hNe
  · exact fun d lv st M Q => jx_ev_st (jx_fok (by decide +kernel : decode (jx_mb 93) 21 = .ok (.bipush (-2), 2))) rfl rfl rfl
  · exact fun d lv M Q x => jx_k_ri (jx_fok (by decide +kernel : decode (jx_mb 93) 23 = .ok (.ireturn, 1))) rfl
  · exact fun d st M Q l1 l2 l3 l4 l5 l6 x => jx_ev_st (jx_fok (by decide +kernel : decode (jx_mb 93) 24 = .ok (.aload_n 0, 1))) rfl rfl rfl
  · exact fun d st M Q l0 l2 l3 l4 l5 l6 x => jx_ev_st (jx_fok (by decide +kernel : decode (jx_mb 93) 25 = .ok (.iload_n 1, 1))) rfl rfl rfl
  · exact fun d st M Q l0 l1 l3 l4 l5 l6 x => jx_ev_st (jx_fok (by decide +kernel : decode (jx_mb 93) 26 = .ok (.iload_n 2, 1))) rfl rfl rfl
  · exact fun d st M Q l0 l1 l2 l4 l5 l6 x => jx_ev_st (jx_fok (by decide +kernel : decode (jx_mb 93) 27 = .ok (.iload_n 3, 1))) rfl rfl rfl
  · exact fun d st M Q l0 l1 l2 l3 l5 l6 x => jx_ev_st (jx_fok (by decide +kernel : decode (jx_mb 93) 28 = .ok (.iload 4, 2))) rfl rfl rfl
  · exact fun d lv M Q a0 a1 a2 a3 => jx_ev_ci (jx_fok (by decide +kernel : decode (jx_mb 93) 30 = .ok (.invokevirtual 93, 3))) rfl (jx_ccV (As := [.int a3, .int a2, .int a1, .int a0]) (rest := []) rfl rfl rfl rfl rfl rfl) (by decide)
  · exact fun d st M Q l0 l1 l2 l3 l4 l5 l6 x => jx_ev_st (jx_fok (by decide +kernel : decode (jx_mb 93) 33 = .ok (.istore 5, 2))) rfl rfl rfl
  · exact fun d st M Q l0 l1 l2 l3 l4 l6 x => jx_ev_st (jx_fok (by decide +kernel : decode (jx_mb 93) 35 = .ok (.iload 5, 2))) rfl rfl rfl
  · exact fun d lv st M Q x => jx_k_b1 (jx_fok (by decide +kernel : decode (jx_mb 93) 37 = .ok (.ifCond .eq 10, 3))) rfl jx_hEq
  · exact fun d st M Q l1 l2 l3 l4 l5 l6 x => jx_ev_st (jx_fok (by decide +kernel : decode (jx_mb 93) 40 = .ok (.aload_n 0, 1))) rfl rfl rfl
  · exact fun d st M Q l0 l1 l2 l3 l4 l6 x => jx_ev_st (jx_fok (by decide +kernel : decode (jx_mb 93) 41 = .ok (.iload 5, 2))) rfl rfl rfl
  · exact fun d lv M Q a0 => jx_ev_ci (jx_fok (by decide +kernel : decode (jx_mb 93) 43 = .ok (.invokevirtual 97, 3))) rfl (jx_ccV (As := [.int a0]) (rest := []) rfl rfl rfl rfl rfl rfl) (by decide)
  · exact fun d lv M Q x => jx_k_ri (jx_fok (by decide +kernel : decode (jx_mb 93) 46 = .ok (.ireturn, 1))) rfl
  · exact fun d lv st M Q => jx_ev_st (jx_fok (by decide +kernel : decode (jx_mb 93) 47 = .ok (.bipush 60, 2))) rfl rfl rfl
  · exact fun d st M Q l0 l2 l3 l4 l5 l6 x => jx_ev_st (jx_fok (by decide +kernel : decode (jx_mb 93) 49 = .ok (.iload_n 1, 1))) rfl rfl rfl
  · exact fun d lv st M Q x z => jx_ev_st (jx_fok (by decide +kernel : decode (jx_mb 93) 50 = .ok (.imul, 1))) rfl rfl rfl
  · exact fun d st M Q l0 l1 l2 l4 l5 l6 x => jx_ev_st (jx_fok (by decide +kernel : decode (jx_mb 93) 51 = .ok (.iload_n 3, 1))) rfl rfl rfl
  · exact fun d lv st M Q x z => jx_ev_st (jx_fok (by decide +kernel : decode (jx_mb 93) 52 = .ok (.iadd, 1))) rfl rfl rfl
  · exact fun d st M Q l0 l1 l2 l3 l4 l5 l6 x => jx_ev_st (jx_fok (by decide +kernel : decode (jx_mb 93) 53 = .ok (.istore 6, 2))) rfl rfl rfl
  · exact fun d st M Q l1 l2 l3 l4 l5 l6 x => jx_ev_st (jx_fok (by decide +kernel : decode (jx_mb 93) 55 = .ok (.aload_n 0, 1))) rfl rfl rfl
  · exact fun d st M Q l0 l1 l2 l3 l4 l5 x => jx_ev_st (jx_fok (by decide +kernel : decode (jx_mb 93) 56 = .ok (.iload 6, 2))) rfl rfl rfl
  · exact fun d lv st M Q x => jx_k_pf0 (jx_fok (by decide +kernel : decode (jx_mb 93) 58 = .ok (.putfield 83, 3))) rfl rfl rfl
  · exact fun d st M Q l1 l2 l3 l4 l5 l6 x => jx_ev_st (jx_fok (by decide +kernel : decode (jx_mb 93) 61 = .ok (.aload_n 0, 1))) rfl rfl rfl
  · exact fun d st M Q l0 l1 l2 l3 l4 l5 x => jx_ev_st (jx_fok (by decide +kernel : decode (jx_mb 93) 62 = .ok (.iload 6, 2))) rfl rfl rfl
  · exact fun d st M Q l0 l1 l2 l3 l5 l6 x => jx_ev_st (jx_fok (by decide +kernel : decode (jx_mb 93) 64 = .ok (.iload 4, 2))) rfl rfl rfl
  · exact fun d lv st M Q x z => jx_ev_st (jx_fok (by decide +kernel : decode (jx_mb 93) 66 = .ok (.iadd, 1))) rfl rfl rfl
  · exact fun d lv M Q a0 => jx_ev_ci (jx_fok (by decide +kernel : decode (jx_mb 93) 67 = .ok (.invokevirtual 101, 3))) rfl (jx_ccV (As := [.int a0]) (rest := []) rfl rfl rfl rfl rfl rfl) (by decide)
  · exact fun d lv st M Q x => jx_k_b1n (jx_fok (by decide +kernel : decode (jx_mb 93) 70 = .ok (.ifCond .ne 14, 3))) rfl jx_hNe
  · exact fun d lv st M Q => jx_ev_st (jx_fok (by decide +kernel : decode (jx_mb 93) 73 = .ok (.bipush (-100), 2))) rfl rfl rfl
  · exact fun d st M Q l1 l2 l3 l4 l5 l6 x => jx_ev_st (jx_fok (by decide +kernel : decode (jx_mb 93) 75 = .ok (.aload_n 0, 1))) rfl rfl rfl
  · exact fun d lv st M Q => jx_k_gf (jx_fok (by decide +kernel : decode (jx_mb 93) 76 = .ok (.getfield 83, 3))) rfl rfl rfl
  · exact fun d st M Q l0 l1 l2 l3 l4 l5 x => jx_ev_st (jx_fok (by decide +kernel : decode (jx_mb 93) 79 = .ok (.iload 6, 2))) rfl rfl rfl
  · exact fun d lv st M Q x z => jx_ev_st (jx_fok (by decide +kernel : decode (jx_mb 93) 81 = .ok (.isub, 1))) rfl rfl rfl
  · exact fun d lv st M Q x z => jx_ev_st (jx_fok (by decide +kernel : decode (jx_mb 93) 82 = .ok (.isub, 1))) rfl rfl rfl
  · exact fun d lv M Q x => jx_k_ri (jx_fok (by decide +kernel : decode (jx_mb 93) 83 = .ok (.ireturn, 1))) rfl
  · exact fun d st M Q l1 l2 l3 l4 l5 l6 x => jx_ev_st (jx_fok (by decide +kernel : decode (jx_mb 93) 84 = .ok (.aload_n 0, 1))) rfl rfl rfl
  · exact fun d lv M Q => jx_ev_cv (jx_fok (by decide +kernel : decode (jx_mb 93) 85 = .ok (.invokevirtual 104, 3))) rfl (jx_ccV (As := []) (rest := []) rfl rfl rfl rfl rfl rfl) rfl
  · exact fun d st M Q l1 l2 l3 l4 l5 l6 x => jx_ev_st (jx_fok (by decide +kernel : decode (jx_mb 93) 88 = .ok (.aload_n 0, 1))) rfl rfl rfl
  · exact fun d lv st M Q => jx_k_gf (jx_fok (by decide +kernel : decode (jx_mb 93) 89 = .ok (.getfield 80, 3))) rfl rfl rfl
  · exact fun d lv M Q x => jx_k_ri (jx_fok (by decide +kernel : decode (jx_mb 93) 92 = .ok (.ireturn, 1))) rfl
theorem kX8_office (d : Nat) (M : jx_M) (q : Int32 → jx_M → Prop) (a0 a1 a2 a3 a4 : Value) : jx_I d 93 [a0, a1, a2, a3, a4] M q ↔ jx_Ev d 93 0 [some a0, some a1, some a2, some a3, some a4, none, none] [] M (jx_qI q) := Iff.rfl
set_option maxRecDepth 100000 in
theorem eX8_takeOffice :
  (∀ (d : Nat) (st : List Value) (M : jx_M) (Q : jx_Po) (l1 : Option Value) (x : Nat), jx_Ev d 94 0 [some (.ref x), l1] st M Q ↔ jx_Ev d 94 1 [some (.ref x), l1] (.ref x :: st) M Q) ∧
  (∀ (d : Nat) (st : List Value) (M : jx_M) (Q : jx_Po) (l1 : Option Value) (x : Nat), jx_Ev d 94 1 [some (.ref x), l1] st M Q ↔ jx_Ev d 94 2 [some (.ref x), l1] (.ref x :: st) M Q) ∧
  (∀ (d : Nat) (lv : List (Option Value)) (st : List Value) (M : jx_M) (Q : jx_Po), jx_Ev d 94 2 lv (.ref 36 :: st) M Q ↔ jx_Ev d 94 5 lv (.int (M 36 15) :: st) M Q) ∧
  (∀ (d : Nat) (lv : List (Option Value)) (st : List Value) (M : jx_M) (Q : jx_Po) (x : Int32), jx_Ev d 94 5 lv (.int x :: .ref 36 :: st) M Q ↔ jx_Ev d 94 8 lv st (jx_up M 36 7 x) Q) ∧
  (∀ (d : Nat) (st : List Value) (M : jx_M) (Q : jx_Po) (l1 : Option Value) (x : Nat), jx_Ev d 94 8 [some (.ref x), l1] st M Q ↔ jx_Ev d 94 9 [some (.ref x), l1] (.ref x :: st) M Q) ∧
  (∀ (d : Nat) (st : List Value) (M : jx_M) (Q : jx_Po) (l1 : Option Value) (x : Nat), jx_Ev d 94 9 [some (.ref x), l1] st M Q ↔ jx_Ev d 94 10 [some (.ref x), l1] (.ref x :: st) M Q) ∧
  (∀ (d : Nat) (lv : List (Option Value)) (st : List Value) (M : jx_M) (Q : jx_Po), jx_Ev d 94 10 lv (.ref 36 :: st) M Q ↔ jx_Ev d 94 13 lv (.int (M 36 16) :: st) M Q) ∧
  (∀ (d : Nat) (lv : List (Option Value)) (st : List Value) (M : jx_M) (Q : jx_Po) (x : Int32), jx_Ev d 94 13 lv (.int x :: .ref 36 :: st) M Q ↔ jx_Ev d 94 16 lv st (jx_up M 36 8 x) Q) ∧
  (∀ (d : Nat) (st : List Value) (M : jx_M) (Q : jx_Po) (l1 : Option Value) (x : Nat), jx_Ev d 94 16 [some (.ref x), l1] st M Q ↔ jx_Ev d 94 17 [some (.ref x), l1] (.ref x :: st) M Q) ∧
  (∀ (d : Nat) (st : List Value) (M : jx_M) (Q : jx_Po) (l1 : Option Value) (x : Nat), jx_Ev d 94 17 [some (.ref x), l1] st M Q ↔ jx_Ev d 94 18 [some (.ref x), l1] (.ref x :: st) M Q) ∧
  (∀ (d : Nat) (lv : List (Option Value)) (st : List Value) (M : jx_M) (Q : jx_Po), jx_Ev d 94 18 lv (.ref 36 :: st) M Q ↔ jx_Ev d 94 21 lv (.int (M 36 17) :: st) M Q) ∧
  (∀ (d : Nat) (lv : List (Option Value)) (st : List Value) (M : jx_M) (Q : jx_Po) (x : Int32), jx_Ev d 94 21 lv (.int x :: .ref 36 :: st) M Q ↔ jx_Ev d 94 24 lv st (jx_up M 36 5 x) Q) ∧
  (∀ (d : Nat) (lv : List (Option Value)) (st : List Value) (M : jx_M) (Q : jx_Po), jx_Ev d 94 24 lv st M Q ↔ jx_Ev d 94 25 lv (.int 0 :: st) M Q) ∧
  (∀ (d : Nat) (st : List Value) (M : jx_M) (Q : jx_Po) (l0 l1 : Option Value) (x : Int32), jx_Ev d 94 25 [l0, l1] (.int x :: st) M Q ↔ jx_Ev d 94 26 [l0, some (.int x)] st M Q) ∧
  (∀ (d : Nat) (st : List Value) (M : jx_M) (Q : jx_Po) (l1 : Option Value) (x : Nat), jx_Ev d 94 27 [some (.ref x), l1] st M Q ↔ jx_Ev d 94 28 [some (.ref x), l1] (.ref x :: st) M Q) ∧
  (∀ (d : Nat) (lv : List (Option Value)) (st : List Value) (M : jx_M) (Q : jx_Po), jx_Ev d 94 28 lv (.ref 36 :: st) M Q ↔ jx_Ev d 94 31 lv (.int (M 36 5) :: st) M Q) ∧
  (∀ (d : Nat) (lv : List (Option Value)) (st : List Value) (M : jx_M) (Q : jx_Po) (x z : Int32), jx_Ev d 94 31 lv (.int z :: .int x :: st) M Q ↔ (if z ≤ x then jx_Ev d 94 64 lv st M Q else jx_Ev d 94 34 lv st M Q)) ∧
  (∀ (d : Nat) (st : List Value) (M : jx_M) (Q : jx_Po) (l1 : Option Value) (x : Nat), jx_Ev d 94 34 [some (.ref x), l1] st M Q ↔ jx_Ev d 94 35 [some (.ref x), l1] (.ref x :: st) M Q) ∧
  (∀ (d : Nat) (lv : List (Option Value)) (st : List Value) (M : jx_M) (Q : jx_Po), jx_Ev d 94 35 lv (.ref 36 :: st) M Q ↔ jx_Ev d 94 38 lv (.ref 40 :: st) M Q) ∧
  (∀ (d : Nat) (st : List Value) (M : jx_M) (Q : jx_Po) (l0 : Option Value) (x : Int32), jx_Ev d 94 38 [l0, some (.int x)] st M Q ↔ jx_Ev d 94 39 [l0, some (.int x)] (.int x :: st) M Q) ∧
  (∀ (d : Nat) (st : List Value) (M : jx_M) (Q : jx_Po) (l1 : Option Value) (x : Nat), jx_Ev d 94 39 [some (.ref x), l1] st M Q ↔ jx_Ev d 94 40 [some (.ref x), l1] (.ref x :: st) M Q) ∧
  (∀ (d : Nat) (lv : List (Option Value)) (st : List Value) (M : jx_M) (Q : jx_Po), jx_Ev d 94 40 lv (.ref 36 :: st) M Q ↔ jx_Ev d 94 43 lv (.ref 45 :: st) M Q) ∧
  (∀ (d : Nat) (st : List Value) (M : jx_M) (Q : jx_Po) (l0 : Option Value) (x : Int32), jx_Ev d 94 43 [l0, some (.int x)] st M Q ↔ jx_Ev d 94 44 [l0, some (.int x)] (.int x :: st) M Q) ∧
  (∀ (d : Nat) (lv : List (Option Value)) (st : List Value) (M : jx_M) (Q : jx_Po) (x : Int32) (a : Nat) (ha : jx_cl a = 9), jx_Ev d 94 44 lv (.int x :: .ref a :: st) M Q ↔ (vp_in x (jx_sz a) ∧ jx_Ev d 94 45 lv (.int (M a x.toNatClampNeg) :: st) M Q)) ∧
  (∀ (d : Nat) (lv : List (Option Value)) (st : List Value) (M : jx_M) (Q : jx_Po) (x z : Int32) (a : Nat) (ha : jx_cl a = 9), jx_Ev d 94 45 lv (.int z :: .int x :: .ref a :: st) M Q ↔ (vp_in x (jx_sz a) ∧ jx_Ev d 94 46 lv st (jx_up M a x.toNatClampNeg z) Q)) ∧
  (∀ (d : Nat) (st : List Value) (M : jx_M) (Q : jx_Po) (l1 : Option Value) (x : Nat), jx_Ev d 94 46 [some (.ref x), l1] st M Q ↔ jx_Ev d 94 47 [some (.ref x), l1] (.ref x :: st) M Q) ∧
  (∀ (d : Nat) (lv : List (Option Value)) (st : List Value) (M : jx_M) (Q : jx_Po), jx_Ev d 94 47 lv (.ref 36 :: st) M Q ↔ jx_Ev d 94 50 lv (.ref 41 :: st) M Q) ∧
  (∀ (d : Nat) (st : List Value) (M : jx_M) (Q : jx_Po) (l0 : Option Value) (x : Int32), jx_Ev d 94 50 [l0, some (.int x)] st M Q ↔ jx_Ev d 94 51 [l0, some (.int x)] (.int x :: st) M Q) ∧
  (∀ (d : Nat) (st : List Value) (M : jx_M) (Q : jx_Po) (l1 : Option Value) (x : Nat), jx_Ev d 94 51 [some (.ref x), l1] st M Q ↔ jx_Ev d 94 52 [some (.ref x), l1] (.ref x :: st) M Q) ∧
  (∀ (d : Nat) (lv : List (Option Value)) (st : List Value) (M : jx_M) (Q : jx_Po), jx_Ev d 94 52 lv (.ref 36 :: st) M Q ↔ jx_Ev d 94 55 lv (.ref 46 :: st) M Q) ∧
  (∀ (d : Nat) (st : List Value) (M : jx_M) (Q : jx_Po) (l0 : Option Value) (x : Int32), jx_Ev d 94 55 [l0, some (.int x)] st M Q ↔ jx_Ev d 94 56 [l0, some (.int x)] (.int x :: st) M Q) ∧
  (∀ (d : Nat) (lv : List (Option Value)) (st : List Value) (M : jx_M) (Q : jx_Po) (x : Int32) (a : Nat) (ha : jx_cl a = 9), jx_Ev d 94 56 lv (.int x :: .ref a :: st) M Q ↔ (vp_in x (jx_sz a) ∧ jx_Ev d 94 57 lv (.int (M a x.toNatClampNeg) :: st) M Q)) ∧
  (∀ (d : Nat) (lv : List (Option Value)) (st : List Value) (M : jx_M) (Q : jx_Po) (x z : Int32) (a : Nat) (ha : jx_cl a = 9), jx_Ev d 94 57 lv (.int z :: .int x :: .ref a :: st) M Q ↔ (vp_in x (jx_sz a) ∧ jx_Ev d 94 58 lv st (jx_up M a x.toNatClampNeg z) Q)) ∧
  (∀ (d : Nat) (st : List Value) (M : jx_M) (Q : jx_Po) (l0 : Option Value) (x : Int32), jx_Ev d 94 58 [l0, some (.int x)] st M Q ↔ jx_Ev d 94 61 [l0, some (.int (x + 1))] st M Q) ∧
  (∀ (d : Nat) (lv : List (Option Value)) (st : List Value) (M : jx_M) (Q : jx_Po), jx_Ev d 94 61 lv st M Q ↔ jx_Ev d 94 26 lv st M Q) ∧
  (∀ (d : Nat) (st : List Value) (M : jx_M) (Q : jx_Po) (l1 : Option Value) (x : Nat), jx_Ev d 94 64 [some (.ref x), l1] st M Q ↔ jx_Ev d 94 65 [some (.ref x), l1] (.ref x :: st) M Q) ∧
  (∀ (d : Nat) (st : List Value) (M : jx_M) (Q : jx_Po) (l1 : Option Value) (x : Nat), jx_Ev d 94 65 [some (.ref x), l1] st M Q ↔ jx_Ev d 94 66 [some (.ref x), l1] (.ref x :: st) M Q) ∧
  (∀ (d : Nat) (lv : List (Option Value)) (st : List Value) (M : jx_M) (Q : jx_Po), jx_Ev d 94 66 lv (.ref 36 :: st) M Q ↔ jx_Ev d 94 69 lv (.int (M 36 18) :: st) M Q) ∧
  (∀ (d : Nat) (lv : List (Option Value)) (st : List Value) (M : jx_M) (Q : jx_Po) (x : Int32), jx_Ev d 94 69 lv (.int x :: .ref 36 :: st) M Q ↔ jx_Ev d 94 72 lv st (jx_up M 36 6 x) Q) ∧
  (∀ (d : Nat) (lv : List (Option Value)) (st : List Value) (M : jx_M) (Q : jx_Po), jx_Ev d 94 72 lv st M Q ↔ jx_Ev d 94 73 lv (.int 0 :: st) M Q) ∧
  (∀ (d : Nat) (st : List Value) (M : jx_M) (Q : jx_Po) (l0 l1 : Option Value) (x : Int32), jx_Ev d 94 73 [l0, l1] (.int x :: st) M Q ↔ jx_Ev d 94 74 [l0, some (.int x)] st M Q) ∧
  (∀ (d : Nat) (st : List Value) (M : jx_M) (Q : jx_Po) (l1 : Option Value) (x : Nat), jx_Ev d 94 75 [some (.ref x), l1] st M Q ↔ jx_Ev d 94 76 [some (.ref x), l1] (.ref x :: st) M Q) ∧
  (∀ (d : Nat) (lv : List (Option Value)) (st : List Value) (M : jx_M) (Q : jx_Po), jx_Ev d 94 76 lv (.ref 36 :: st) M Q ↔ jx_Ev d 94 79 lv (.int (M 36 6) :: st) M Q) ∧
  (∀ (d : Nat) (lv : List (Option Value)) (st : List Value) (M : jx_M) (Q : jx_Po) (x z : Int32), jx_Ev d 94 79 lv (.int z :: .int x :: st) M Q ↔ (if z ≤ x then jx_Ev d 94 124 lv st M Q else jx_Ev d 94 82 lv st M Q)) ∧
  (∀ (d : Nat) (st : List Value) (M : jx_M) (Q : jx_Po) (l1 : Option Value) (x : Nat), jx_Ev d 94 82 [some (.ref x), l1] st M Q ↔ jx_Ev d 94 83 [some (.ref x), l1] (.ref x :: st) M Q) ∧
  (∀ (d : Nat) (lv : List (Option Value)) (st : List Value) (M : jx_M) (Q : jx_Po), jx_Ev d 94 83 lv (.ref 36 :: st) M Q ↔ jx_Ev d 94 86 lv (.ref 42 :: st) M Q) ∧
  (∀ (d : Nat) (st : List Value) (M : jx_M) (Q : jx_Po) (l0 : Option Value) (x : Int32), jx_Ev d 94 86 [l0, some (.int x)] st M Q ↔ jx_Ev d 94 87 [l0, some (.int x)] (.int x :: st) M Q) ∧
  (∀ (d : Nat) (st : List Value) (M : jx_M) (Q : jx_Po) (l1 : Option Value) (x : Nat), jx_Ev d 94 87 [some (.ref x), l1] st M Q ↔ jx_Ev d 94 88 [some (.ref x), l1] (.ref x :: st) M Q) ∧
  (∀ (d : Nat) (lv : List (Option Value)) (st : List Value) (M : jx_M) (Q : jx_Po), jx_Ev d 94 88 lv (.ref 36 :: st) M Q ↔ jx_Ev d 94 91 lv (.ref 47 :: st) M Q) ∧
  (∀ (d : Nat) (st : List Value) (M : jx_M) (Q : jx_Po) (l0 : Option Value) (x : Int32), jx_Ev d 94 91 [l0, some (.int x)] st M Q ↔ jx_Ev d 94 92 [l0, some (.int x)] (.int x :: st) M Q) ∧
  (∀ (d : Nat) (lv : List (Option Value)) (st : List Value) (M : jx_M) (Q : jx_Po) (x : Int32) (a : Nat) (ha : jx_cl a = 9), jx_Ev d 94 92 lv (.int x :: .ref a :: st) M Q ↔ (vp_in x (jx_sz a) ∧ jx_Ev d 94 93 lv (.int (M a x.toNatClampNeg) :: st) M Q)) ∧
  (∀ (d : Nat) (lv : List (Option Value)) (st : List Value) (M : jx_M) (Q : jx_Po) (x z : Int32) (a : Nat) (ha : jx_cl a = 9), jx_Ev d 94 93 lv (.int z :: .int x :: .ref a :: st) M Q ↔ (vp_in x (jx_sz a) ∧ jx_Ev d 94 94 lv st (jx_up M a x.toNatClampNeg z) Q)) ∧
  (∀ (d : Nat) (st : List Value) (M : jx_M) (Q : jx_Po) (l1 : Option Value) (x : Nat), jx_Ev d 94 94 [some (.ref x), l1] st M Q ↔ jx_Ev d 94 95 [some (.ref x), l1] (.ref x :: st) M Q) ∧
  (∀ (d : Nat) (lv : List (Option Value)) (st : List Value) (M : jx_M) (Q : jx_Po), jx_Ev d 94 95 lv (.ref 36 :: st) M Q ↔ jx_Ev d 94 98 lv (.ref 43 :: st) M Q) ∧
  (∀ (d : Nat) (st : List Value) (M : jx_M) (Q : jx_Po) (l0 : Option Value) (x : Int32), jx_Ev d 94 98 [l0, some (.int x)] st M Q ↔ jx_Ev d 94 99 [l0, some (.int x)] (.int x :: st) M Q) ∧
  (∀ (d : Nat) (st : List Value) (M : jx_M) (Q : jx_Po) (l1 : Option Value) (x : Nat), jx_Ev d 94 99 [some (.ref x), l1] st M Q ↔ jx_Ev d 94 100 [some (.ref x), l1] (.ref x :: st) M Q) ∧
  (∀ (d : Nat) (lv : List (Option Value)) (st : List Value) (M : jx_M) (Q : jx_Po), jx_Ev d 94 100 lv (.ref 36 :: st) M Q ↔ jx_Ev d 94 103 lv (.ref 48 :: st) M Q) ∧
  (∀ (d : Nat) (st : List Value) (M : jx_M) (Q : jx_Po) (l0 : Option Value) (x : Int32), jx_Ev d 94 103 [l0, some (.int x)] st M Q ↔ jx_Ev d 94 104 [l0, some (.int x)] (.int x :: st) M Q) ∧
  (∀ (d : Nat) (lv : List (Option Value)) (st : List Value) (M : jx_M) (Q : jx_Po) (x : Int32) (a : Nat) (ha : jx_cl a = 9), jx_Ev d 94 104 lv (.int x :: .ref a :: st) M Q ↔ (vp_in x (jx_sz a) ∧ jx_Ev d 94 105 lv (.int (M a x.toNatClampNeg) :: st) M Q)) ∧
  (∀ (d : Nat) (lv : List (Option Value)) (st : List Value) (M : jx_M) (Q : jx_Po) (x z : Int32) (a : Nat) (ha : jx_cl a = 9), jx_Ev d 94 105 lv (.int z :: .int x :: .ref a :: st) M Q ↔ (vp_in x (jx_sz a) ∧ jx_Ev d 94 106 lv st (jx_up M a x.toNatClampNeg z) Q)) ∧
  (∀ (d : Nat) (st : List Value) (M : jx_M) (Q : jx_Po) (l1 : Option Value) (x : Nat), jx_Ev d 94 106 [some (.ref x), l1] st M Q ↔ jx_Ev d 94 107 [some (.ref x), l1] (.ref x :: st) M Q) ∧
  (∀ (d : Nat) (lv : List (Option Value)) (st : List Value) (M : jx_M) (Q : jx_Po), jx_Ev d 94 107 lv (.ref 36 :: st) M Q ↔ jx_Ev d 94 110 lv (.ref 44 :: st) M Q) ∧
  (∀ (d : Nat) (st : List Value) (M : jx_M) (Q : jx_Po) (l0 : Option Value) (x : Int32), jx_Ev d 94 110 [l0, some (.int x)] st M Q ↔ jx_Ev d 94 111 [l0, some (.int x)] (.int x :: st) M Q) ∧
  (∀ (d : Nat) (st : List Value) (M : jx_M) (Q : jx_Po) (l1 : Option Value) (x : Nat), jx_Ev d 94 111 [some (.ref x), l1] st M Q ↔ jx_Ev d 94 112 [some (.ref x), l1] (.ref x :: st) M Q) ∧
  (∀ (d : Nat) (lv : List (Option Value)) (st : List Value) (M : jx_M) (Q : jx_Po), jx_Ev d 94 112 lv (.ref 36 :: st) M Q ↔ jx_Ev d 94 115 lv (.ref 49 :: st) M Q) ∧
  (∀ (d : Nat) (st : List Value) (M : jx_M) (Q : jx_Po) (l0 : Option Value) (x : Int32), jx_Ev d 94 115 [l0, some (.int x)] st M Q ↔ jx_Ev d 94 116 [l0, some (.int x)] (.int x :: st) M Q) ∧
  (∀ (d : Nat) (lv : List (Option Value)) (st : List Value) (M : jx_M) (Q : jx_Po) (x : Int32) (a : Nat) (ha : jx_cl a = 9), jx_Ev d 94 116 lv (.int x :: .ref a :: st) M Q ↔ (vp_in x (jx_sz a) ∧ jx_Ev d 94 117 lv (.int (M a x.toNatClampNeg) :: st) M Q)) ∧
  (∀ (d : Nat) (lv : List (Option Value)) (st : List Value) (M : jx_M) (Q : jx_Po) (x z : Int32) (a : Nat) (ha : jx_cl a = 9), jx_Ev d 94 117 lv (.int z :: .int x :: .ref a :: st) M Q ↔ (vp_in x (jx_sz a) ∧ jx_Ev d 94 118 lv st (jx_up M a x.toNatClampNeg z) Q)) ∧
  (∀ (d : Nat) (st : List Value) (M : jx_M) (Q : jx_Po) (l0 : Option Value) (x : Int32), jx_Ev d 94 118 [l0, some (.int x)] st M Q ↔ jx_Ev d 94 121 [l0, some (.int (x + 1))] st M Q) ∧
  (∀ (d : Nat) (lv : List (Option Value)) (st : List Value) (M : jx_M) (Q : jx_Po), jx_Ev d 94 121 lv st M Q ↔ jx_Ev d 94 74 lv st M Q) ∧
  (∀ (d : Nat) (st : List Value) (M : jx_M) (Q : jx_Po) (l1 : Option Value) (x : Nat), jx_Ev d 94 124 [some (.ref x), l1] st M Q ↔ jx_Ev d 94 125 [some (.ref x), l1] (.ref x :: st) M Q) ∧
  (∀ (d : Nat) (lv : List (Option Value)) (st : List Value) (M : jx_M) (Q : jx_Po), jx_Ev d 94 125 lv st M Q ↔ jx_Ev d 94 126 lv (.int 0 :: st) M Q) ∧
  (∀ (d : Nat) (lv : List (Option Value)) (st : List Value) (M : jx_M) (Q : jx_Po) (x : Int32), jx_Ev d 94 126 lv (.int x :: .ref 36 :: st) M Q ↔ jx_Ev d 94 129 lv st (jx_up M 36 27 x) Q) ∧
  (∀ (d : Nat) (lv : List (Option Value)) (M : jx_M) (Q : jx_Po), jx_Ev d 94 129 lv [] M Q ↔ Q [] M) := by
  refine ⟨?_, ?_, ?_, ?_, ?_, ?_, ?_, ?_, ?_, ?_, ?_, ?_, ?_, ?_, ?_, ?_, ?_, ?_, ?_, ?_, ?_, ?_, ?_, ?_, ?_, ?_, ?_, ?_, ?_, ?_, ?_, ?_, ?_, ?_, ?_, ?_, ?_, ?_, ?_, ?_, ?_, ?_, ?_, ?_, ?_, ?_, ?_, ?_, ?_, ?_, ?_, ?_, ?_, ?_, ?_, ?_, ?_, ?_, ?_, ?_, ?_, ?_, ?_, ?_, ?_, ?_, ?_, ?_, ?_, ?_, ?_, ?_, ?_, ?_⟩
  · exact fun d st M Q l1 x => jx_ev_st (jx_fok (by decide +kernel : decode (jx_mb 94) 0 = .ok (.aload_n 0, 1))) rfl rfl rfl
  · exact fun d st M Q l1 x => jx_ev_st (jx_fok (by decide +kernel : decode (jx_mb 94) 1 = .ok (.aload_n 0, 1))) rfl rfl rfl
  · exact fun d lv st M Q => jx_k_gf (jx_fok (by decide +kernel : decode (jx_mb 94) 2 = .ok (.getfield 107, 3))) rfl rfl rfl
  · exact fun d lv st M Q x => jx_k_pf0 (jx_fok (by decide +kernel : decode (jx_mb 94) 5 = .ok (.putfield 110, 3))) rfl rfl rfl
  · exact fun d st M Q l1 x => jx_ev_st (jx_fok (by decide +kernel : decode (jx_mb 94) 8 = .ok (.aload_n 0, 1))) rfl rfl rfl
  · exact fun d st M Q l1 x => jx_ev_st (jx_fok (by decide +kernel : decode (jx_mb 94) 9 = .ok (.aload_n 0, 1))) rfl rfl rfl
  · exact fun d lv st M Q => jx_k_gf (jx_fok (by decide +kernel : decode (jx_mb 94) 10 = .ok (.getfield 113, 3))) rfl rfl rfl
  · exact fun d lv st M Q x => jx_k_pf0 (jx_fok (by decide +kernel : decode (jx_mb 94) 13 = .ok (.putfield 116, 3))) rfl rfl rfl
  · exact fun d st M Q l1 x => jx_ev_st (jx_fok (by decide +kernel : decode (jx_mb 94) 16 = .ok (.aload_n 0, 1))) rfl rfl rfl
  · exact fun d st M Q l1 x => jx_ev_st (jx_fok (by decide +kernel : decode (jx_mb 94) 17 = .ok (.aload_n 0, 1))) rfl rfl rfl
  · exact fun d lv st M Q => jx_k_gf (jx_fok (by decide +kernel : decode (jx_mb 94) 18 = .ok (.getfield 119, 3))) rfl rfl rfl
  · exact fun d lv st M Q x => jx_k_pf0 (jx_fok (by decide +kernel : decode (jx_mb 94) 21 = .ok (.putfield 77, 3))) rfl rfl rfl
  · exact fun d lv st M Q => jx_ev_st (jx_fok (by decide +kernel : decode (jx_mb 94) 24 = .ok (.iconst 0, 1))) rfl rfl rfl
  · exact fun d st M Q l0 l1 x => jx_ev_st (jx_fok (by decide +kernel : decode (jx_mb 94) 25 = .ok (.istore_n 1, 1))) rfl rfl rfl
  · exact fun d st M Q l1 x => jx_ev_st (jx_fok (by decide +kernel : decode (jx_mb 94) 27 = .ok (.aload_n 0, 1))) rfl rfl rfl
  · exact fun d lv st M Q => jx_k_gf (jx_fok (by decide +kernel : decode (jx_mb 94) 28 = .ok (.getfield 77, 3))) rfl rfl rfl
  · exact fun d lv st M Q x z => jx_k_b2 (jx_fok (by decide +kernel : decode (jx_mb 94) 31 = .ok (.if_icmp .ge 33, 3))) rfl jx_hGe
  · exact fun d st M Q l1 x => jx_ev_st (jx_fok (by decide +kernel : decode (jx_mb 94) 34 = .ok (.aload_n 0, 1))) rfl rfl rfl
  · exact fun d lv st M Q => jx_k_gf (jx_fok (by decide +kernel : decode (jx_mb 94) 35 = .ok (.getfield 19, 3))) rfl rfl rfl
  · exact fun d st M Q l0 x => jx_ev_st (jx_fok (by decide +kernel : decode (jx_mb 94) 38 = .ok (.iload_n 1, 1))) rfl rfl rfl
  · exact fun d st M Q l1 x => jx_ev_st (jx_fok (by decide +kernel : decode (jx_mb 94) 39 = .ok (.aload_n 0, 1))) rfl rfl rfl
  · exact fun d lv st M Q => jx_k_gf (jx_fok (by decide +kernel : decode (jx_mb 94) 40 = .ok (.getfield 34, 3))) rfl rfl rfl
  · exact fun d st M Q l0 x => jx_ev_st (jx_fok (by decide +kernel : decode (jx_mb 94) 43 = .ok (.iload_n 1, 1))) rfl rfl rfl
  · exact fun d lv st M Q x a ha => jx_k_al (jx_fok (by decide +kernel : decode (jx_mb 94) 44 = .ok (.iaload, 1))) ha
  · exact fun d lv st M Q x z a ha => jx_k_as (jx_fok (by decide +kernel : decode (jx_mb 94) 45 = .ok (.iastore, 1))) ha
  · exact fun d st M Q l1 x => jx_ev_st (jx_fok (by decide +kernel : decode (jx_mb 94) 46 = .ok (.aload_n 0, 1))) rfl rfl rfl
  · exact fun d lv st M Q => jx_k_gf (jx_fok (by decide +kernel : decode (jx_mb 94) 47 = .ok (.getfield 22, 3))) rfl rfl rfl
  · exact fun d st M Q l0 x => jx_ev_st (jx_fok (by decide +kernel : decode (jx_mb 94) 50 = .ok (.iload_n 1, 1))) rfl rfl rfl
  · exact fun d st M Q l1 x => jx_ev_st (jx_fok (by decide +kernel : decode (jx_mb 94) 51 = .ok (.aload_n 0, 1))) rfl rfl rfl
  · exact fun d lv st M Q => jx_k_gf (jx_fok (by decide +kernel : decode (jx_mb 94) 52 = .ok (.getfield 37, 3))) rfl rfl rfl
  · exact fun d st M Q l0 x => jx_ev_st (jx_fok (by decide +kernel : decode (jx_mb 94) 55 = .ok (.iload_n 1, 1))) rfl rfl rfl
  · exact fun d lv st M Q x a ha => jx_k_al (jx_fok (by decide +kernel : decode (jx_mb 94) 56 = .ok (.iaload, 1))) ha
  · exact fun d lv st M Q x z a ha => jx_k_as (jx_fok (by decide +kernel : decode (jx_mb 94) 57 = .ok (.iastore, 1))) ha
  · exact fun d st M Q l0 x => jx_ev_st (jx_fok (by decide +kernel : decode (jx_mb 94) 58 = .ok (.iinc 1 1, 3))) rfl rfl rfl
  · exact fun d lv st M Q => jx_k_goto (jx_fok (by decide +kernel : decode (jx_mb 94) 61 = .ok (.goto (-35), 3))) rfl
  · exact fun d st M Q l1 x => jx_ev_st (jx_fok (by decide +kernel : decode (jx_mb 94) 64 = .ok (.aload_n 0, 1))) rfl rfl rfl
  · exact fun d st M Q l1 x => jx_ev_st (jx_fok (by decide +kernel : decode (jx_mb 94) 65 = .ok (.aload_n 0, 1))) rfl rfl rfl
  · exact fun d lv st M Q => jx_k_gf (jx_fok (by decide +kernel : decode (jx_mb 94) 66 = .ok (.getfield 122, 3))) rfl rfl rfl
  · exact fun d lv st M Q x => jx_k_pf0 (jx_fok (by decide +kernel : decode (jx_mb 94) 69 = .ok (.putfield 80, 3))) rfl rfl rfl
  · exact fun d lv st M Q => jx_ev_st (jx_fok (by decide +kernel : decode (jx_mb 94) 72 = .ok (.iconst 0, 1))) rfl rfl rfl
  · exact fun d st M Q l0 l1 x => jx_ev_st (jx_fok (by decide +kernel : decode (jx_mb 94) 73 = .ok (.istore_n 1, 1))) rfl rfl rfl
  · exact fun d st M Q l1 x => jx_ev_st (jx_fok (by decide +kernel : decode (jx_mb 94) 75 = .ok (.aload_n 0, 1))) rfl rfl rfl
  · exact fun d lv st M Q => jx_k_gf (jx_fok (by decide +kernel : decode (jx_mb 94) 76 = .ok (.getfield 80, 3))) rfl rfl rfl
  · exact fun d lv st M Q x z => jx_k_b2 (jx_fok (by decide +kernel : decode (jx_mb 94) 79 = .ok (.if_icmp .ge 45, 3))) rfl jx_hGe
  · exact fun d st M Q l1 x => jx_ev_st (jx_fok (by decide +kernel : decode (jx_mb 94) 82 = .ok (.aload_n 0, 1))) rfl rfl rfl
  · exact fun d lv st M Q => jx_k_gf (jx_fok (by decide +kernel : decode (jx_mb 94) 83 = .ok (.getfield 25, 3))) rfl rfl rfl
  · exact fun d st M Q l0 x => jx_ev_st (jx_fok (by decide +kernel : decode (jx_mb 94) 86 = .ok (.iload_n 1, 1))) rfl rfl rfl
  · exact fun d st M Q l1 x => jx_ev_st (jx_fok (by decide +kernel : decode (jx_mb 94) 87 = .ok (.aload_n 0, 1))) rfl rfl rfl
  · exact fun d lv st M Q => jx_k_gf (jx_fok (by decide +kernel : decode (jx_mb 94) 88 = .ok (.getfield 40, 3))) rfl rfl rfl
  · exact fun d st M Q l0 x => jx_ev_st (jx_fok (by decide +kernel : decode (jx_mb 94) 91 = .ok (.iload_n 1, 1))) rfl rfl rfl
  · exact fun d lv st M Q x a ha => jx_k_al (jx_fok (by decide +kernel : decode (jx_mb 94) 92 = .ok (.iaload, 1))) ha
  · exact fun d lv st M Q x z a ha => jx_k_as (jx_fok (by decide +kernel : decode (jx_mb 94) 93 = .ok (.iastore, 1))) ha
  · exact fun d st M Q l1 x => jx_ev_st (jx_fok (by decide +kernel : decode (jx_mb 94) 94 = .ok (.aload_n 0, 1))) rfl rfl rfl
  · exact fun d lv st M Q => jx_k_gf (jx_fok (by decide +kernel : decode (jx_mb 94) 95 = .ok (.getfield 28, 3))) rfl rfl rfl
  · exact fun d st M Q l0 x => jx_ev_st (jx_fok (by decide +kernel : decode (jx_mb 94) 98 = .ok (.iload_n 1, 1))) rfl rfl rfl
  · exact fun d st M Q l1 x => jx_ev_st (jx_fok (by decide +kernel : decode (jx_mb 94) 99 = .ok (.aload_n 0, 1))) rfl rfl rfl
  · exact fun d lv st M Q => jx_k_gf (jx_fok (by decide +kernel : decode (jx_mb 94) 100 = .ok (.getfield 43, 3))) rfl rfl rfl
  · exact fun d st M Q l0 x => jx_ev_st (jx_fok (by decide +kernel : decode (jx_mb 94) 103 = .ok (.iload_n 1, 1))) rfl rfl rfl
  · exact fun d lv st M Q x a ha => jx_k_al (jx_fok (by decide +kernel : decode (jx_mb 94) 104 = .ok (.iaload, 1))) ha
  · exact fun d lv st M Q x z a ha => jx_k_as (jx_fok (by decide +kernel : decode (jx_mb 94) 105 = .ok (.iastore, 1))) ha
  · exact fun d st M Q l1 x => jx_ev_st (jx_fok (by decide +kernel : decode (jx_mb 94) 106 = .ok (.aload_n 0, 1))) rfl rfl rfl
  · exact fun d lv st M Q => jx_k_gf (jx_fok (by decide +kernel : decode (jx_mb 94) 107 = .ok (.getfield 31, 3))) rfl rfl rfl
  · exact fun d st M Q l0 x => jx_ev_st (jx_fok (by decide +kernel : decode (jx_mb 94) 110 = .ok (.iload_n 1, 1))) rfl rfl rfl
  · exact fun d st M Q l1 x => jx_ev_st (jx_fok (by decide +kernel : decode (jx_mb 94) 111 = .ok (.aload_n 0, 1))) rfl rfl rfl
  · exact fun d lv st M Q => jx_k_gf (jx_fok (by decide +kernel : decode (jx_mb 94) 112 = .ok (.getfield 46, 3))) rfl rfl rfl
  · exact fun d st M Q l0 x => jx_ev_st (jx_fok (by decide +kernel : decode (jx_mb 94) 115 = .ok (.iload_n 1, 1))) rfl rfl rfl
  · exact fun d lv st M Q x a ha => jx_k_al (jx_fok (by decide +kernel : decode (jx_mb 94) 116 = .ok (.iaload, 1))) ha
  · exact fun d lv st M Q x z a ha => jx_k_as (jx_fok (by decide +kernel : decode (jx_mb 94) 117 = .ok (.iastore, 1))) ha
  · exact fun d st M Q l0 x => jx_ev_st (jx_fok (by decide +kernel : decode (jx_mb 94) 118 = .ok (.iinc 1 1, 3))) rfl rfl rfl
  · exact fun d lv st M Q => jx_k_goto (jx_fok (by decide +kernel : decode (jx_mb 94) 121 = .ok (.goto (-47), 3))) rfl
  · exact fun d st M Q l1 x => jx_ev_st (jx_fok (by decide +kernel : decode (jx_mb 94) 124 = .ok (.aload_n 0, 1))) rfl rfl rfl
  · exact fun d lv st M Q => jx_ev_st (jx_fok (by decide +kernel : decode (jx_mb 94) 125 = .ok (.iconst 0, 1))) rfl rfl rfl
  · exact fun d lv st M Q x => jx_k_pf0 (jx_fok (by decide +kernel : decode (jx_mb 94) 126 = .ok (.putfield 125, 3))) rfl rfl rfl
  · exact fun d lv M Q => jx_k_rv (jx_fok (by decide +kernel : decode (jx_mb 94) 129 = .ok (.return_, 1))) rfl
theorem eX8_takeOffice_26 (d : Nat) (st : List Value) (M : jx_M) (Q : jx_Po) (l0 : Option Value) (x : Int32) : jx_Ev d 94 26 [l0, some (.int x)] st M Q ↔ jx_Ev d 94 27 [l0, some (.int x)] (.int x :: st) M Q := jx_ev_st (jx_fok (by decide +kernel : decode (jx_mb 94) 26 = .ok (.iload_n 1, 1))) rfl rfl rfl
theorem eX8_takeOffice_74 (d : Nat) (st : List Value) (M : jx_M) (Q : jx_Po) (l0 : Option Value) (x : Int32) : jx_Ev d 94 74 [l0, some (.int x)] st M Q ↔ jx_Ev d 94 75 [l0, some (.int x)] (.int x :: st) M Q := jx_ev_st (jx_fok (by decide +kernel : decode (jx_mb 94) 74 = .ok (.iload_n 1, 1))) rfl rfl rfl
theorem kX8_takeOffice (d : Nat) (M : jx_M) (q : jx_M → Prop) (a0 : Value) : jx_V d 94 [a0] M q ↔ jx_Ev d 94 0 [some a0, none] [] M (jx_qV q) := Iff.rfl
set_option maxRecDepth 100000 in
theorem eX8_readOffice :
  (∀ (d : Nat) (st : List Value) (M : jx_M) (Q : jx_Po) (l1 : Option Value) (x : Nat), jx_Ev d 95 0 [some (.ref x), l1] st M Q ↔ jx_Ev d 95 1 [some (.ref x), l1] (.ref x :: st) M Q) ∧
  (∀ (d : Nat) (lv : List (Option Value)) (st : List Value) (M : jx_M) (Q : jx_Po), jx_Ev d 95 1 lv st M Q ↔ jx_Ev d 95 2 lv (.int 0 :: st) M Q) ∧
  (∀ (d : Nat) (lv : List (Option Value)) (st : List Value) (M : jx_M) (Q : jx_Po) (x : Int32), jx_Ev d 95 2 lv (.int x :: .ref 36 :: st) M Q ↔ jx_Ev d 95 5 lv st (jx_up M 36 17 x) Q) ∧
  (∀ (d : Nat) (st : List Value) (M : jx_M) (Q : jx_Po) (l1 : Option Value) (x : Nat), jx_Ev d 95 5 [some (.ref x), l1] st M Q ↔ jx_Ev d 95 6 [some (.ref x), l1] (.ref x :: st) M Q) ∧
  (∀ (d : Nat) (lv : List (Option Value)) (st : List Value) (M : jx_M) (Q : jx_Po), jx_Ev d 95 6 lv st M Q ↔ jx_Ev d 95 7 lv (.int 0 :: st) M Q) ∧
  (∀ (d : Nat) (lv : List (Option Value)) (st : List Value) (M : jx_M) (Q : jx_Po) (x : Int32), jx_Ev d 95 7 lv (.int x :: .ref 36 :: st) M Q ↔ jx_Ev d 95 10 lv st (jx_up M 36 18 x) Q) ∧
  (∀ (d : Nat) (st : List Value) (M : jx_M) (Q : jx_Po) (l1 : Option Value) (x : Nat), jx_Ev d 95 10 [some (.ref x), l1] st M Q ↔ jx_Ev d 95 11 [some (.ref x), l1] (.ref x :: st) M Q) ∧
  (∀ (d : Nat) (st : List Value) (M : jx_M) (Q : jx_Po) (l0 : Option Value) (x : Int32), jx_Ev d 95 11 [l0, some (.int x)] st M Q ↔ jx_Ev d 95 12 [l0, some (.int x)] (.int x :: st) M Q) ∧
  (∀ (d : Nat) (lv : List (Option Value)) (st : List Value) (M : jx_M) (Q : jx_Po), jx_Ev d 95 12 lv st M Q ↔ jx_Ev d 95 14 lv (.int 116 :: st) M Q) ∧
  (∀ (d : Nat) (lv : List (Option Value)) (M : jx_M) (Q : jx_Po) (a0 : Int32) (a1 : Int32), jx_Ev (d + 1) 95 14 lv [.int a0, .int a1, .ref 36] M Q ↔ jx_I d 92 [.ref 36, .int a1, .int a0] M (fun x M => jx_Ev (d + 1) 95 17 lv (.int x :: []) M Q)) ∧
  (∀ (d : Nat) (lv : List (Option Value)) (st : List Value) (M : jx_M) (Q : jx_Po) (x : Int32), jx_Ev d 95 17 lv (.int x :: st) M Q ↔ (if x = 0 then jx_Ev d 95 20 lv st M Q else jx_Ev d 95 22 lv st M Q)) ∧
  (∀ (d : Nat) (lv : List (Option Value)) (st : List Value) (M : jx_M) (Q : jx_Po), jx_Ev d 95 20 lv st M Q ↔ jx_Ev d 95 21 lv (.int 0 :: st) M Q) ∧
  (∀ (d : Nat) (lv : List (Option Value)) (M : jx_M) (Q : jx_Po) (x : Int32), jx_Ev d 95 21 lv [.int x] M Q ↔ ((x = 0 ∨ x = 1) ∧ Q [.int x] M)) ∧
  (∀ (d : Nat) (st : List Value) (M : jx_M) (Q : jx_Po) (l1 : Option Value) (x : Nat), jx_Ev d 95 22 [some (.ref x), l1] st M Q ↔ jx_Ev d 95 23 [some (.ref x), l1] (.ref x :: st) M Q) ∧
  (∀ (d : Nat) (st : List Value) (M : jx_M) (Q : jx_Po) (l1 : Option Value) (x : Nat), jx_Ev d 95 23 [some (.ref x), l1] st M Q ↔ jx_Ev d 95 24 [some (.ref x), l1] (.ref x :: st) M Q) ∧
  (∀ (d : Nat) (st : List Value) (M : jx_M) (Q : jx_Po) (l0 : Option Value) (x : Int32), jx_Ev d 95 24 [l0, some (.int x)] st M Q ↔ jx_Ev d 95 25 [l0, some (.int x)] (.int x :: st) M Q) ∧
  (∀ (d : Nat) (lv : List (Option Value)) (st : List Value) (M : jx_M) (Q : jx_Po), jx_Ev d 95 25 lv st M Q ↔ jx_Ev d 95 26 lv (.int 0 :: st) M Q) ∧
  (∀ (d : Nat) (lv : List (Option Value)) (st : List Value) (M : jx_M) (Q : jx_Po), jx_Ev d 95 26 lv st M Q ↔ jx_Ev d 95 27 lv (.int 3 :: st) M Q) ∧
  (∀ (d : Nat) (lv : List (Option Value)) (M : jx_M) (Q : jx_Po) (a0 : Int32) (a1 : Int32) (a2 : Int32) (a4 : Nat), jx_Ev (d + 1) 95 27 lv [.int a0, .int a1, .int a2, .ref 36, .ref a4] M Q ↔ jx_I d 91 [.ref 36, .int a2, .int a1, .int a0] M (fun x M => jx_Ev (d + 1) 95 30 lv (.int x :: [.ref a4]) M Q)) ∧
  (∀ (d : Nat) (lv : List (Option Value)) (st : List Value) (M : jx_M) (Q : jx_Po) (x : Int32), jx_Ev d 95 30 lv (.int x :: .ref 36 :: st) M Q ↔ jx_Ev d 95 33 lv st (jx_up M 36 15 x) Q) ∧
  (∀ (d : Nat) (st : List Value) (M : jx_M) (Q : jx_Po) (l1 : Option Value) (x : Nat), jx_Ev d 95 33 [some (.ref x), l1] st M Q ↔ jx_Ev d 95 34 [some (.ref x), l1] (.ref x :: st) M Q) ∧
  (∀ (d : Nat) (lv : List (Option Value)) (st : List Value) (M : jx_M) (Q : jx_Po), jx_Ev d 95 34 lv (.ref 36 :: st) M Q ↔ jx_Ev d 95 37 lv (.int (M 36 15) :: st) M Q) ∧
  (∀ (d : Nat) (lv : List (Option Value)) (st : List Value) (M : jx_M) (Q : jx_Po), jx_Ev d 95 37 lv st M Q ↔ jx_Ev d 95 39 lv (.int (-9) :: st) M Q) ∧
  (∀ (d : Nat) (lv : List (Option Value)) (st : List Value) (M : jx_M) (Q : jx_Po) (x z : Int32), jx_Ev d 95 39 lv (.int z :: .int x :: st) M Q ↔ (if x = z then jx_Ev d 95 42 lv st M Q else jx_Ev d 95 44 lv st M Q)) ∧
  (∀ (d : Nat) (lv : List (Option Value)) (st : List Value) (M : jx_M) (Q : jx_Po), jx_Ev d 95 42 lv st M Q ↔ jx_Ev d 95 43 lv (.int 0 :: st) M Q) ∧
  (∀ (d : Nat) (lv : List (Option Value)) (M : jx_M) (Q : jx_Po) (x : Int32), jx_Ev d 95 43 lv [.int x] M Q ↔ ((x = 0 ∨ x = 1) ∧ Q [.int x] M)) ∧
  (∀ (d : Nat) (st : List Value) (M : jx_M) (Q : jx_Po) (l1 : Option Value) (x : Nat), jx_Ev d 95 44 [some (.ref x), l1] st M Q ↔ jx_Ev d 95 45 [some (.ref x), l1] (.ref x :: st) M Q) ∧
  (∀ (d : Nat) (st : List Value) (M : jx_M) (Q : jx_Po) (l1 : Option Value) (x : Nat), jx_Ev d 95 45 [some (.ref x), l1] st M Q ↔ jx_Ev d 95 46 [some (.ref x), l1] (.ref x :: st) M Q) ∧
  (∀ (d : Nat) (st : List Value) (M : jx_M) (Q : jx_Po) (l0 : Option Value) (x : Int32), jx_Ev d 95 46 [l0, some (.int x)] st M Q ↔ jx_Ev d 95 47 [l0, some (.int x)] (.int x :: st) M Q) ∧
  (∀ (d : Nat) (lv : List (Option Value)) (st : List Value) (M : jx_M) (Q : jx_Po), jx_Ev d 95 47 lv st M Q ↔ jx_Ev d 95 48 lv (.int 0 :: st) M Q) ∧
  (∀ (d : Nat) (lv : List (Option Value)) (st : List Value) (M : jx_M) (Q : jx_Po), jx_Ev d 95 48 lv st M Q ↔ jx_Ev d 95 50 lv (.int 9 :: st) M Q) ∧
  (∀ (d : Nat) (lv : List (Option Value)) (M : jx_M) (Q : jx_Po) (a0 : Int32) (a1 : Int32) (a2 : Int32) (a4 : Nat), jx_Ev (d + 1) 95 50 lv [.int a0, .int a1, .int a2, .ref 36, .ref a4] M Q ↔ jx_I d 91 [.ref 36, .int a2, .int a1, .int a0] M (fun x M => jx_Ev (d + 1) 95 53 lv (.int x :: [.ref a4]) M Q)) ∧
  (∀ (d : Nat) (lv : List (Option Value)) (st : List Value) (M : jx_M) (Q : jx_Po) (x : Int32), jx_Ev d 95 53 lv (.int x :: .ref 36 :: st) M Q ↔ jx_Ev d 95 56 lv st (jx_up M 36 16 x) Q) ∧
  (∀ (d : Nat) (st : List Value) (M : jx_M) (Q : jx_Po) (l1 : Option Value) (x : Nat), jx_Ev d 95 56 [some (.ref x), l1] st M Q ↔ jx_Ev d 95 57 [some (.ref x), l1] (.ref x :: st) M Q) ∧
  (∀ (d : Nat) (lv : List (Option Value)) (st : List Value) (M : jx_M) (Q : jx_Po), jx_Ev d 95 57 lv (.ref 36 :: st) M Q ↔ jx_Ev d 95 60 lv (.int (M 36 16) :: st) M Q) ∧
  (∀ (d : Nat) (lv : List (Option Value)) (st : List Value) (M : jx_M) (Q : jx_Po), jx_Ev d 95 60 lv st M Q ↔ jx_Ev d 95 62 lv (.int (-9) :: st) M Q) ∧
  (∀ (d : Nat) (lv : List (Option Value)) (st : List Value) (M : jx_M) (Q : jx_Po) (x z : Int32), jx_Ev d 95 62 lv (.int z :: .int x :: st) M Q ↔ (if x = z then jx_Ev d 95 83 lv st M Q else jx_Ev d 95 65 lv st M Q)) ∧
  (∀ (d : Nat) (st : List Value) (M : jx_M) (Q : jx_Po) (l1 : Option Value) (x : Nat), jx_Ev d 95 65 [some (.ref x), l1] st M Q ↔ jx_Ev d 95 66 [some (.ref x), l1] (.ref x :: st) M Q) ∧
  (∀ (d : Nat) (st : List Value) (M : jx_M) (Q : jx_Po) (l0 : Option Value) (x : Int32), jx_Ev d 95 66 [l0, some (.int x)] st M Q ↔ jx_Ev d 95 67 [l0, some (.int x)] (.int x :: st) M Q) ∧
  (∀ (d : Nat) (lv : List (Option Value)) (st : List Value) (M : jx_M) (Q : jx_Po), jx_Ev d 95 67 lv st M Q ↔ jx_Ev d 95 69 lv (.int 44 :: st) M Q) ∧
  (∀ (d : Nat) (lv : List (Option Value)) (M : jx_M) (Q : jx_Po) (a0 : Int32) (a1 : Int32), jx_Ev (d + 1) 95 69 lv [.int a0, .int a1, .ref 36] M Q ↔ jx_I d 92 [.ref 36, .int a1, .int a0] M (fun x M => jx_Ev (d + 1) 95 72 lv (.int x :: []) M Q)) ∧
  (∀ (d : Nat) (lv : List (Option Value)) (st : List Value) (M : jx_M) (Q : jx_Po) (x : Int32), jx_Ev d 95 72 lv (.int x :: st) M Q ↔ (if x = 0 then jx_Ev d 95 83 lv st M Q else jx_Ev d 95 75 lv st M Q)) ∧
  (∀ (d : Nat) (st : List Value) (M : jx_M) (Q : jx_Po) (l1 : Option Value) (x : Nat), jx_Ev d 95 75 [some (.ref x), l1] st M Q ↔ jx_Ev d 95 76 [some (.ref x), l1] (.ref x :: st) M Q) ∧
  (∀ (d : Nat) (st : List Value) (M : jx_M) (Q : jx_Po) (l0 : Option Value) (x : Int32), jx_Ev d 95 76 [l0, some (.int x)] st M Q ↔ jx_Ev d 95 77 [l0, some (.int x)] (.int x :: st) M Q) ∧
  (∀ (d : Nat) (lv : List (Option Value)) (M : jx_M) (Q : jx_Po) (a0 : Int32), jx_Ev (d + 1) 95 77 lv [.int a0, .ref 36] M Q ↔ jx_I d 96 [.ref 36, .int a0] M (fun x M => jx_Ev (d + 1) 95 80 lv (.int x :: []) M Q)) ∧
  (∀ (d : Nat) (lv : List (Option Value)) (st : List Value) (M : jx_M) (Q : jx_Po) (x : Int32), jx_Ev d 95 80 lv (.int x :: st) M Q ↔ (if x = 0 then jx_Ev d 95 83 lv st M Q else jx_Ev d 95 85 lv st M Q)) ∧
  (∀ (d : Nat) (lv : List (Option Value)) (st : List Value) (M : jx_M) (Q : jx_Po), jx_Ev d 95 83 lv st M Q ↔ jx_Ev d 95 84 lv (.int 0 :: st) M Q) ∧
  (∀ (d : Nat) (lv : List (Option Value)) (M : jx_M) (Q : jx_Po) (x : Int32), jx_Ev d 95 84 lv [.int x] M Q ↔ ((x = 0 ∨ x = 1) ∧ Q [.int x] M)) ∧
  (∀ (d : Nat) (lv : List (Option Value)) (st : List Value) (M : jx_M) (Q : jx_Po), jx_Ev d 95 86 lv (.ref 36 :: st) M Q ↔ jx_Ev d 95 89 lv (.int (M 36 17) :: st) M Q) ∧
  (∀ (d : Nat) (lv : List (Option Value)) (st : List Value) (M : jx_M) (Q : jx_Po), jx_Ev d 95 89 lv st M Q ↔ jx_Ev d 95 90 lv (.int 5 :: st) M Q) ∧
  (∀ (d : Nat) (lv : List (Option Value)) (st : List Value) (M : jx_M) (Q : jx_Po) (x z : Int32), jx_Ev d 95 90 lv (.int z :: .int x :: st) M Q ↔ (if z ≤ x then jx_Ev d 95 113 lv st M Q else jx_Ev d 95 93 lv st M Q)) ∧
  (∀ (d : Nat) (st : List Value) (M : jx_M) (Q : jx_Po) (l1 : Option Value) (x : Nat), jx_Ev d 95 93 [some (.ref x), l1] st M Q ↔ jx_Ev d 95 94 [some (.ref x), l1] (.ref x :: st) M Q) ∧
  (∀ (d : Nat) (st : List Value) (M : jx_M) (Q : jx_Po) (l0 : Option Value) (x : Int32), jx_Ev d 95 94 [l0, some (.int x)] st M Q ↔ jx_Ev d 95 95 [l0, some (.int x)] (.int x :: st) M Q) ∧
  (∀ (d : Nat) (lv : List (Option Value)) (st : List Value) (M : jx_M) (Q : jx_Po), jx_Ev d 95 95 lv st M Q ↔ jx_Ev d 95 97 lv (.int 44 :: st) M Q) ∧
  (∀ (d : Nat) (lv : List (Option Value)) (M : jx_M) (Q : jx_Po) (a0 : Int32) (a1 : Int32), jx_Ev (d + 1) 95 97 lv [.int a0, .int a1, .ref 36] M Q ↔ jx_I d 92 [.ref 36, .int a1, .int a0] M (fun x M => jx_Ev (d + 1) 95 100 lv (.int x :: []) M Q)) ∧
  (∀ (d : Nat) (lv : List (Option Value)) (st : List Value) (M : jx_M) (Q : jx_Po) (x : Int32), jx_Ev d 95 100 lv (.int x :: st) M Q ↔ (if x = 0 then jx_Ev d 95 113 lv st M Q else jx_Ev d 95 103 lv st M Q)) ∧
  (∀ (d : Nat) (st : List Value) (M : jx_M) (Q : jx_Po) (l1 : Option Value) (x : Nat), jx_Ev d 95 103 [some (.ref x), l1] st M Q ↔ jx_Ev d 95 104 [some (.ref x), l1] (.ref x :: st) M Q) ∧
  (∀ (d : Nat) (st : List Value) (M : jx_M) (Q : jx_Po) (l0 : Option Value) (x : Int32), jx_Ev d 95 104 [l0, some (.int x)] st M Q ↔ jx_Ev d 95 105 [l0, some (.int x)] (.int x :: st) M Q) ∧
  (∀ (d : Nat) (lv : List (Option Value)) (M : jx_M) (Q : jx_Po) (a0 : Int32), jx_Ev (d + 1) 95 105 lv [.int a0, .ref 36] M Q ↔ jx_I d 96 [.ref 36, .int a0] M (fun x M => jx_Ev (d + 1) 95 108 lv (.int x :: []) M Q)) ∧
  (∀ (d : Nat) (lv : List (Option Value)) (st : List Value) (M : jx_M) (Q : jx_Po) (x : Int32), jx_Ev d 95 108 lv (.int x :: st) M Q ↔ (if x = 0 then jx_Ev d 95 111 lv st M Q else jx_Ev d 95 85 lv st M Q)) ∧
  (∀ (d : Nat) (lv : List (Option Value)) (st : List Value) (M : jx_M) (Q : jx_Po), jx_Ev d 95 111 lv st M Q ↔ jx_Ev d 95 112 lv (.int 0 :: st) M Q) ∧
  (∀ (d : Nat) (lv : List (Option Value)) (M : jx_M) (Q : jx_Po) (x : Int32), jx_Ev d 95 112 lv [.int x] M Q ↔ ((x = 0 ∨ x = 1) ∧ Q [.int x] M)) ∧
  (∀ (d : Nat) (lv : List (Option Value)) (st : List Value) (M : jx_M) (Q : jx_Po), jx_Ev d 95 114 lv (.ref 36 :: st) M Q ↔ jx_Ev d 95 117 lv (.int (M 36 18) :: st) M Q) ∧
  (∀ (d : Nat) (lv : List (Option Value)) (st : List Value) (M : jx_M) (Q : jx_Po) (x : Int32), jx_Ev d 95 117 lv (.int x :: st) M Q ↔ (if x = 0 then jx_Ev d 95 137 lv st M Q else jx_Ev d 95 120 lv st M Q)) ∧
  (∀ (d : Nat) (st : List Value) (M : jx_M) (Q : jx_Po) (l1 : Option Value) (x : Nat), jx_Ev d 95 120 [some (.ref x), l1] st M Q ↔ jx_Ev d 95 121 [some (.ref x), l1] (.ref x :: st) M Q) ∧
  (∀ (d : Nat) (lv : List (Option Value)) (st : List Value) (M : jx_M) (Q : jx_Po), jx_Ev d 95 121 lv (.ref 36 :: st) M Q ↔ jx_Ev d 95 124 lv (.int (M 36 18) :: st) M Q) ∧
  (∀ (d : Nat) (lv : List (Option Value)) (st : List Value) (M : jx_M) (Q : jx_Po), jx_Ev d 95 124 lv st M Q ↔ jx_Ev d 95 126 lv (.int 6 :: st) M Q) ∧
  (∀ (d : Nat) (lv : List (Option Value)) (st : List Value) (M : jx_M) (Q : jx_Po) (x z : Int32), jx_Ev d 95 126 lv (.int z :: .int x :: st) M Q ↔ (if z ≤ x then jx_Ev d 95 157 lv st M Q else jx_Ev d 95 129 lv st M Q)) ∧
  (∀ (d : Nat) (st : List Value) (M : jx_M) (Q : jx_Po) (l1 : Option Value) (x : Nat), jx_Ev d 95 129 [some (.ref x), l1] st M Q ↔ jx_Ev d 95 130 [some (.ref x), l1] (.ref x :: st) M Q) ∧
  (∀ (d : Nat) (lv : List (Option Value)) (st : List Value) (M : jx_M) (Q : jx_Po), jx_Ev d 95 130 lv (.ref 36 :: st) M Q ↔ jx_Ev d 95 133 lv (.int (M 36 14) :: st) M Q) ∧
  (∀ (d : Nat) (st : List Value) (M : jx_M) (Q : jx_Po) (l0 : Option Value) (x : Int32), jx_Ev d 95 133 [l0, some (.int x)] st M Q ↔ jx_Ev d 95 134 [l0, some (.int x)] (.int x :: st) M Q) ∧
  (∀ (d : Nat) (lv : List (Option Value)) (st : List Value) (M : jx_M) (Q : jx_Po) (x z : Int32), jx_Ev d 95 134 lv (.int z :: .int x :: st) M Q ↔ (if z ≤ x then jx_Ev d 95 157 lv st M Q else jx_Ev d 95 137 lv st M Q)) ∧
  (∀ (d : Nat) (st : List Value) (M : jx_M) (Q : jx_Po) (l1 : Option Value) (x : Nat), jx_Ev d 95 137 [some (.ref x), l1] st M Q ↔ jx_Ev d 95 138 [some (.ref x), l1] (.ref x :: st) M Q) ∧
  (∀ (d : Nat) (st : List Value) (M : jx_M) (Q : jx_Po) (l0 : Option Value) (x : Int32), jx_Ev d 95 138 [l0, some (.int x)] st M Q ↔ jx_Ev d 95 139 [l0, some (.int x)] (.int x :: st) M Q) ∧
  (∀ (d : Nat) (lv : List (Option Value)) (st : List Value) (M : jx_M) (Q : jx_Po), jx_Ev d 95 139 lv st M Q ↔ jx_Ev d 95 141 lv (.int 59 :: st) M Q) ∧
  (∀ (d : Nat) (lv : List (Option Value)) (M : jx_M) (Q : jx_Po) (a0 : Int32) (a1 : Int32), jx_Ev (d + 1) 95 141 lv [.int a0, .int a1, .ref 36] M Q ↔ jx_I d 92 [.ref 36, .int a1, .int a0] M (fun x M => jx_Ev (d + 1) 95 144 lv (.int x :: []) M Q)) ∧
  (∀ (d : Nat) (lv : List (Option Value)) (st : List Value) (M : jx_M) (Q : jx_Po) (x : Int32), jx_Ev d 95 144 lv (.int x :: st) M Q ↔ (if x = 0 then jx_Ev d 95 155 lv st M Q else jx_Ev d 95 147 lv st M Q)) ∧
  (∀ (d : Nat) (st : List Value) (M : jx_M) (Q : jx_Po) (l1 : Option Value) (x : Nat), jx_Ev d 95 147 [some (.ref x), l1] st M Q ↔ jx_Ev d 95 148 [some (.ref x), l1] (.ref x :: st) M Q) ∧
  (∀ (d : Nat) (st : List Value) (M : jx_M) (Q : jx_Po) (l0 : Option Value) (x : Int32), jx_Ev d 95 148 [l0, some (.int x)] st M Q ↔ jx_Ev d 95 149 [l0, some (.int x)] (.int x :: st) M Q) ∧
  (∀ (d : Nat) (lv : List (Option Value)) (M : jx_M) (Q : jx_Po) (a0 : Int32), jx_Ev (d + 1) 95 149 lv [.int a0, .ref 36] M Q ↔ jx_I d 97 [.ref 36, .int a0] M (fun x M => jx_Ev (d + 1) 95 152 lv (.int x :: []) M Q)) ∧
  (∀ (d : Nat) (lv : List (Option Value)) (st : List Value) (M : jx_M) (Q : jx_Po) (x : Int32), jx_Ev d 95 152 lv (.int x :: st) M Q ↔ (if x = 0 then jx_Ev d 95 155 lv st M Q else jx_Ev d 95 113 lv st M Q)) ∧
  (∀ (d : Nat) (lv : List (Option Value)) (st : List Value) (M : jx_M) (Q : jx_Po), jx_Ev d 95 155 lv st M Q ↔ jx_Ev d 95 156 lv (.int 0 :: st) M Q) ∧
  (∀ (d : Nat) (lv : List (Option Value)) (M : jx_M) (Q : jx_Po) (x : Int32), jx_Ev d 95 156 lv [.int x] M Q ↔ ((x = 0 ∨ x = 1) ∧ Q [.int x] M)) ∧
  (∀ (d : Nat) (st : List Value) (M : jx_M) (Q : jx_Po) (l1 : Option Value) (x : Nat), jx_Ev d 95 157 [some (.ref x), l1] st M Q ↔ jx_Ev d 95 158 [some (.ref x), l1] (.ref x :: st) M Q) ∧
  (∀ (d : Nat) (lv : List (Option Value)) (st : List Value) (M : jx_M) (Q : jx_Po), jx_Ev d 95 158 lv (.ref 36 :: st) M Q ↔ jx_Ev d 95 161 lv (.int (M 36 14) :: st) M Q) ∧
  (∀ (d : Nat) (st : List Value) (M : jx_M) (Q : jx_Po) (l0 : Option Value) (x : Int32), jx_Ev d 95 161 [l0, some (.int x)] st M Q ↔ jx_Ev d 95 162 [l0, some (.int x)] (.int x :: st) M Q) ∧
  (∀ (d : Nat) (lv : List (Option Value)) (st : List Value) (M : jx_M) (Q : jx_Po) (x z : Int32), jx_Ev d 95 162 lv (.int z :: .int x :: st) M Q ↔ (if x = z then jx_Ev d 95 165 lv st M Q else jx_Ev d 95 169 lv st M Q)) ∧
  (∀ (d : Nat) (lv : List (Option Value)) (st : List Value) (M : jx_M) (Q : jx_Po), jx_Ev d 95 165 lv st M Q ↔ jx_Ev d 95 166 lv (.int 1 :: st) M Q) ∧
  (∀ (d : Nat) (lv : List (Option Value)) (st : List Value) (M : jx_M) (Q : jx_Po), jx_Ev d 95 166 lv st M Q ↔ jx_Ev d 95 170 lv st M Q) ∧
  (∀ (d : Nat) (lv : List (Option Value)) (st : List Value) (M : jx_M) (Q : jx_Po), jx_Ev d 95 169 lv st M Q ↔ jx_Ev d 95 170 lv (.int 0 :: st) M Q) ∧
  (∀ (d : Nat) (lv : List (Option Value)) (M : jx_M) (Q : jx_Po) (x : Int32), jx_Ev d 95 170 lv [.int x] M Q ↔ ((x = 0 ∨ x = 1) ∧ Q [.int x] M)) := by
  refine ⟨?_, ?_, ?_, ?_, ?_, ?_, ?_, ?_, ?_, ?_, ?_, ?_, ?_, ?_, ?_, ?_, ?_, ?_, ?_, ?_, ?_, ?_, ?_, ?_, ?_, ?_, ?_, ?_, ?_, ?_, ?_, ?_, ?_, ?_, ?_, ?_, ?_, ?_, ?_, ?_, ?_, ?_, ?_, ?_, ?_, ?_, ?_, ?_, ?_, ?_, ?_, ?_, ?_, ?_, ?_, ?_, ?_, ?_, ?_, ?_, ?_, ?_, ?_, ?_, ?_, ?_, ?_, ?_, ?_, ?_, ?_, ?_, ?_, ?_, ?_, ?_, ?_, ?_, ?_, ?_, ?_, ?_, ?_, ?_, ?_, ?_, ?_, ?_, ?_, ?_, ?_⟩
  · exact fun d st M Q l1 x => jx_ev_st (jx_fok (by decide +kernel : decode (jx_mb 95) 0 = .ok (.aload_n 0, 1))) rfl rfl rfl
  · exact fun d lv st M Q => jx_ev_st (jx_fok (by decide +kernel : decode (jx_mb 95) 1 = .ok (.iconst 0, 1))) rfl rfl rfl
  · exact fun d lv st M Q x => jx_k_pf0 (jx_fok (by decide +kernel : decode (jx_mb 95) 2 = .ok (.putfield 119, 3))) rfl rfl rfl
  · exact fun d st M Q l1 x => jx_ev_st (jx_fok (by decide +kernel : decode (jx_mb 95) 5 = .ok (.aload_n 0, 1))) rfl rfl rfl
  · exact fun d lv st M Q => jx_ev_st (jx_fok (by decide +kernel : decode (jx_mb 95) 6 = .ok (.iconst 0, 1))) rfl rfl rfl
  · exact fun d lv st M Q x => jx_k_pf0 (jx_fok (by decide +kernel : decode (jx_mb 95) 7 = .ok (.putfield 122, 3))) rfl rfl rfl
  · exact fun d st M Q l1 x => jx_ev_st (jx_fok (by decide +kernel : decode (jx_mb 95) 10 = .ok (.aload_n 0, 1))) rfl rfl rfl
  · exact fun d st M Q l0 x => jx_ev_st (jx_fok (by decide +kernel : decode (jx_mb 95) 11 = .ok (.iload_n 1, 1))) rfl rfl rfl
  · exact fun d lv st M Q => jx_ev_st (jx_fok (by decide +kernel : decode (jx_mb 95) 12 = .ok (.bipush 116, 2))) rfl rfl rfl
  · exact fun d lv M Q a0 a1 => jx_ev_ci (jx_fok (by decide +kernel : decode (jx_mb 95) 14 = .ok (.invokevirtual 128, 3))) rfl (jx_ccV (As := [.int a1, .int a0]) (rest := []) rfl rfl rfl rfl rfl rfl) (by decide)
  · exact fun d lv st M Q x => jx_k_b1n (jx_fok (by decide +kernel : decode (jx_mb 95) 17 = .ok (.ifCond .ne 5, 3))) rfl jx_hNe
  · exact fun d lv st M Q => jx_ev_st (jx_fok (by decide +kernel : decode (jx_mb 95) 20 = .ok (.iconst 0, 1))) rfl rfl rfl
  · exact fun d lv M Q x => jx_k_rz (jx_fok (by decide +kernel : decode (jx_mb 95) 21 = .ok (.ireturn, 1))) rfl
  · exact fun d st M Q l1 x => jx_ev_st (jx_fok (by decide +kernel : decode (jx_mb 95) 22 = .ok (.aload_n 0, 1))) rfl rfl rfl
  · exact fun d st M Q l1 x => jx_ev_st (jx_fok (by decide +kernel : decode (jx_mb 95) 23 = .ok (.aload_n 0, 1))) rfl rfl rfl
  · exact fun d st M Q l0 x => jx_ev_st (jx_fok (by decide +kernel : decode (jx_mb 95) 24 = .ok (.iload_n 1, 1))) rfl rfl rfl
  · exact fun d lv st M Q => jx_ev_st (jx_fok (by decide +kernel : decode (jx_mb 95) 25 = .ok (.iconst 0, 1))) rfl rfl rfl
  · exact fun d lv st M Q => jx_ev_st (jx_fok (by decide +kernel : decode (jx_mb 95) 26 = .ok (.iconst 3, 1))) rfl rfl rfl
  · exact fun d lv M Q a0 a1 a2 a4 => jx_ev_ci (jx_fok (by decide +kernel : decode (jx_mb 95) 27 = .ok (.invokevirtual 132, 3))) rfl (jx_ccV (As := [.int a2, .int a1, .int a0]) (rest := [.ref a4]) rfl rfl rfl rfl rfl rfl) (by decide)
  · exact fun d lv st M Q x => jx_k_pf0 (jx_fok (by decide +kernel : decode (jx_mb 95) 30 = .ok (.putfield 107, 3))) rfl rfl rfl
  · exact fun d st M Q l1 x => jx_ev_st (jx_fok (by decide +kernel : decode (jx_mb 95) 33 = .ok (.aload_n 0, 1))) rfl rfl rfl
  · exact fun d lv st M Q => jx_k_gf (jx_fok (by decide +kernel : decode (jx_mb 95) 34 = .ok (.getfield 107, 3))) rfl rfl rfl
  · exact fun d lv st M Q => jx_ev_st (jx_fok (by decide +kernel : decode (jx_mb 95) 37 = .ok (.bipush (-9), 2))) rfl rfl rfl
  · exact fun d lv st M Q x z => jx_k_b2n (jx_fok (by decide +kernel : decode (jx_mb 95) 39 = .ok (.if_icmp .ne 5, 3))) rfl jx_hNe
  · exact fun d lv st M Q => jx_ev_st (jx_fok (by decide +kernel : decode (jx_mb 95) 42 = .ok (.iconst 0, 1))) rfl rfl rfl
  · exact fun d lv M Q x => jx_k_rz (jx_fok (by decide +kernel : decode (jx_mb 95) 43 = .ok (.ireturn, 1))) rfl
  · exact fun d st M Q l1 x => jx_ev_st (jx_fok (by decide +kernel : decode (jx_mb 95) 44 = .ok (.aload_n 0, 1))) rfl rfl rfl
  · exact fun d st M Q l1 x => jx_ev_st (jx_fok (by decide +kernel : decode (jx_mb 95) 45 = .ok (.aload_n 0, 1))) rfl rfl rfl
  · exact fun d st M Q l0 x => jx_ev_st (jx_fok (by decide +kernel : decode (jx_mb 95) 46 = .ok (.iload_n 1, 1))) rfl rfl rfl
  · exact fun d lv st M Q => jx_ev_st (jx_fok (by decide +kernel : decode (jx_mb 95) 47 = .ok (.iconst 0, 1))) rfl rfl rfl
  · exact fun d lv st M Q => jx_ev_st (jx_fok (by decide +kernel : decode (jx_mb 95) 48 = .ok (.bipush 9, 2))) rfl rfl rfl
  · exact fun d lv M Q a0 a1 a2 a4 => jx_ev_ci (jx_fok (by decide +kernel : decode (jx_mb 95) 50 = .ok (.invokevirtual 132, 3))) rfl (jx_ccV (As := [.int a2, .int a1, .int a0]) (rest := [.ref a4]) rfl rfl rfl rfl rfl rfl) (by decide)
  · exact fun d lv st M Q x => jx_k_pf0 (jx_fok (by decide +kernel : decode (jx_mb 95) 53 = .ok (.putfield 113, 3))) rfl rfl rfl
  · exact fun d st M Q l1 x => jx_ev_st (jx_fok (by decide +kernel : decode (jx_mb 95) 56 = .ok (.aload_n 0, 1))) rfl rfl rfl
  · exact fun d lv st M Q => jx_k_gf (jx_fok (by decide +kernel : decode (jx_mb 95) 57 = .ok (.getfield 113, 3))) rfl rfl rfl
  · exact fun d lv st M Q => jx_ev_st (jx_fok (by decide +kernel : decode (jx_mb 95) 60 = .ok (.bipush (-9), 2))) rfl rfl rfl
  · exact fun d lv st M Q x z => jx_k_b2 (jx_fok (by decide +kernel : decode (jx_mb 95) 62 = .ok (.if_icmp .eq 21, 3))) rfl jx_hEq
  · exact fun d st M Q l1 x => jx_ev_st (jx_fok (by decide +kernel : decode (jx_mb 95) 65 = .ok (.aload_n 0, 1))) rfl rfl rfl
  · exact fun d st M Q l0 x => jx_ev_st (jx_fok (by decide +kernel : decode (jx_mb 95) 66 = .ok (.iload_n 1, 1))) rfl rfl rfl
  · exact fun d lv st M Q => jx_ev_st (jx_fok (by decide +kernel : decode (jx_mb 95) 67 = .ok (.bipush 44, 2))) rfl rfl rfl
  · exact fun d lv M Q a0 a1 => jx_ev_ci (jx_fok (by decide +kernel : decode (jx_mb 95) 69 = .ok (.invokevirtual 128, 3))) rfl (jx_ccV (As := [.int a1, .int a0]) (rest := []) rfl rfl rfl rfl rfl rfl) (by decide)
  · exact fun d lv st M Q x => jx_k_b1 (jx_fok (by decide +kernel : decode (jx_mb 95) 72 = .ok (.ifCond .eq 11, 3))) rfl jx_hEq
  · exact fun d st M Q l1 x => jx_ev_st (jx_fok (by decide +kernel : decode (jx_mb 95) 75 = .ok (.aload_n 0, 1))) rfl rfl rfl
  · exact fun d st M Q l0 x => jx_ev_st (jx_fok (by decide +kernel : decode (jx_mb 95) 76 = .ok (.iload_n 1, 1))) rfl rfl rfl
  · exact fun d lv M Q a0 => jx_ev_ci (jx_fok (by decide +kernel : decode (jx_mb 95) 77 = .ok (.invokevirtual 136, 3))) rfl (jx_ccV (As := [.int a0]) (rest := []) rfl rfl rfl rfl rfl rfl) (by decide)
  · exact fun d lv st M Q x => jx_k_b1n (jx_fok (by decide +kernel : decode (jx_mb 95) 80 = .ok (.ifCond .ne 5, 3))) rfl jx_hNe
  · exact fun d lv st M Q => jx_ev_st (jx_fok (by decide +kernel : decode (jx_mb 95) 83 = .ok (.iconst 0, 1))) rfl rfl rfl
  · exact fun d lv M Q x => jx_k_rz (jx_fok (by decide +kernel : decode (jx_mb 95) 84 = .ok (.ireturn, 1))) rfl
  · exact fun d lv st M Q => jx_k_gf (jx_fok (by decide +kernel : decode (jx_mb 95) 86 = .ok (.getfield 119, 3))) rfl rfl rfl
  · exact fun d lv st M Q => jx_ev_st (jx_fok (by decide +kernel : decode (jx_mb 95) 89 = .ok (.iconst 5, 1))) rfl rfl rfl
  · exact fun d lv st M Q x z => jx_k_b2 (jx_fok (by decide +kernel : decode (jx_mb 95) 90 = .ok (.if_icmp .ge 23, 3))) rfl jx_hGe
  · exact fun d st M Q l1 x => jx_ev_st (jx_fok (by decide +kernel : decode (jx_mb 95) 93 = .ok (.aload_n 0, 1))) rfl rfl rfl
  · exact fun d st M Q l0 x => jx_ev_st (jx_fok (by decide +kernel : decode (jx_mb 95) 94 = .ok (.iload_n 1, 1))) rfl rfl rfl
  · exact fun d lv st M Q => jx_ev_st (jx_fok (by decide +kernel : decode (jx_mb 95) 95 = .ok (.bipush 44, 2))) rfl rfl rfl
  · exact fun d lv M Q a0 a1 => jx_ev_ci (jx_fok (by decide +kernel : decode (jx_mb 95) 97 = .ok (.invokevirtual 128, 3))) rfl (jx_ccV (As := [.int a1, .int a0]) (rest := []) rfl rfl rfl rfl rfl rfl) (by decide)
  · exact fun d lv st M Q x => jx_k_b1 (jx_fok (by decide +kernel : decode (jx_mb 95) 100 = .ok (.ifCond .eq 13, 3))) rfl jx_hEq
  · exact fun d st M Q l1 x => jx_ev_st (jx_fok (by decide +kernel : decode (jx_mb 95) 103 = .ok (.aload_n 0, 1))) rfl rfl rfl
  · exact fun d st M Q l0 x => jx_ev_st (jx_fok (by decide +kernel : decode (jx_mb 95) 104 = .ok (.iload_n 1, 1))) rfl rfl rfl
  · exact fun d lv M Q a0 => jx_ev_ci (jx_fok (by decide +kernel : decode (jx_mb 95) 105 = .ok (.invokevirtual 136, 3))) rfl (jx_ccV (As := [.int a0]) (rest := []) rfl rfl rfl rfl rfl rfl) (by decide)
  · exact fun d lv st M Q x => jx_k_b1n (jx_fok (by decide +kernel : decode (jx_mb 95) 108 = .ok (.ifCond .ne (-23), 3))) rfl jx_hNe
  · exact fun d lv st M Q => jx_ev_st (jx_fok (by decide +kernel : decode (jx_mb 95) 111 = .ok (.iconst 0, 1))) rfl rfl rfl
  · exact fun d lv M Q x => jx_k_rz (jx_fok (by decide +kernel : decode (jx_mb 95) 112 = .ok (.ireturn, 1))) rfl
  · exact fun d lv st M Q => jx_k_gf (jx_fok (by decide +kernel : decode (jx_mb 95) 114 = .ok (.getfield 122, 3))) rfl rfl rfl
  · exact fun d lv st M Q x => jx_k_b1 (jx_fok (by decide +kernel : decode (jx_mb 95) 117 = .ok (.ifCond .eq 20, 3))) rfl jx_hEq
  · exact fun d st M Q l1 x => jx_ev_st (jx_fok (by decide +kernel : decode (jx_mb 95) 120 = .ok (.aload_n 0, 1))) rfl rfl rfl
  · exact fun d lv st M Q => jx_k_gf (jx_fok (by decide +kernel : decode (jx_mb 95) 121 = .ok (.getfield 122, 3))) rfl rfl rfl
  · exact fun d lv st M Q => jx_ev_st (jx_fok (by decide +kernel : decode (jx_mb 95) 124 = .ok (.bipush 6, 2))) rfl rfl rfl
  · exact fun d lv st M Q x z => jx_k_b2 (jx_fok (by decide +kernel : decode (jx_mb 95) 126 = .ok (.if_icmp .ge 31, 3))) rfl jx_hGe
  · exact fun d st M Q l1 x => jx_ev_st (jx_fok (by decide +kernel : decode (jx_mb 95) 129 = .ok (.aload_n 0, 1))) rfl rfl rfl
  · exact fun d lv st M Q => jx_k_gf (jx_fok (by decide +kernel : decode (jx_mb 95) 130 = .ok (.getfield 83, 3))) rfl rfl rfl
  · exact fun d st M Q l0 x => jx_ev_st (jx_fok (by decide +kernel : decode (jx_mb 95) 133 = .ok (.iload_n 1, 1))) rfl rfl rfl
  · exact fun d lv st M Q x z => jx_k_b2 (jx_fok (by decide +kernel : decode (jx_mb 95) 134 = .ok (.if_icmp .ge 23, 3))) rfl jx_hGe
  · exact fun d st M Q l1 x => jx_ev_st (jx_fok (by decide +kernel : decode (jx_mb 95) 137 = .ok (.aload_n 0, 1))) rfl rfl rfl
  · exact fun d st M Q l0 x => jx_ev_st (jx_fok (by decide +kernel : decode (jx_mb 95) 138 = .ok (.iload_n 1, 1))) rfl rfl rfl
  · exact fun d lv st M Q => jx_ev_st (jx_fok (by decide +kernel : decode (jx_mb 95) 139 = .ok (.bipush 59, 2))) rfl rfl rfl
  · exact fun d lv M Q a0 a1 => jx_ev_ci (jx_fok (by decide +kernel : decode (jx_mb 95) 141 = .ok (.invokevirtual 128, 3))) rfl (jx_ccV (As := [.int a1, .int a0]) (rest := []) rfl rfl rfl rfl rfl rfl) (by decide)
  · exact fun d lv st M Q x => jx_k_b1 (jx_fok (by decide +kernel : decode (jx_mb 95) 144 = .ok (.ifCond .eq 11, 3))) rfl jx_hEq
  · exact fun d st M Q l1 x => jx_ev_st (jx_fok (by decide +kernel : decode (jx_mb 95) 147 = .ok (.aload_n 0, 1))) rfl rfl rfl
  · exact fun d st M Q l0 x => jx_ev_st (jx_fok (by decide +kernel : decode (jx_mb 95) 148 = .ok (.iload_n 1, 1))) rfl rfl rfl
  · exact fun d lv M Q a0 => jx_ev_ci (jx_fok (by decide +kernel : decode (jx_mb 95) 149 = .ok (.invokevirtual 139, 3))) rfl (jx_ccV (As := [.int a0]) (rest := []) rfl rfl rfl rfl rfl rfl) (by decide)
  · exact fun d lv st M Q x => jx_k_b1n (jx_fok (by decide +kernel : decode (jx_mb 95) 152 = .ok (.ifCond .ne (-39), 3))) rfl jx_hNe
  · exact fun d lv st M Q => jx_ev_st (jx_fok (by decide +kernel : decode (jx_mb 95) 155 = .ok (.iconst 0, 1))) rfl rfl rfl
  · exact fun d lv M Q x => jx_k_rz (jx_fok (by decide +kernel : decode (jx_mb 95) 156 = .ok (.ireturn, 1))) rfl
  · exact fun d st M Q l1 x => jx_ev_st (jx_fok (by decide +kernel : decode (jx_mb 95) 157 = .ok (.aload_n 0, 1))) rfl rfl rfl
  · exact fun d lv st M Q => jx_k_gf (jx_fok (by decide +kernel : decode (jx_mb 95) 158 = .ok (.getfield 83, 3))) rfl rfl rfl
  · exact fun d st M Q l0 x => jx_ev_st (jx_fok (by decide +kernel : decode (jx_mb 95) 161 = .ok (.iload_n 1, 1))) rfl rfl rfl
  · exact fun d lv st M Q x z => jx_k_b2n (jx_fok (by decide +kernel : decode (jx_mb 95) 162 = .ok (.if_icmp .ne 7, 3))) rfl jx_hNe
  · exact fun d lv st M Q => jx_ev_st (jx_fok (by decide +kernel : decode (jx_mb 95) 165 = .ok (.iconst 1, 1))) rfl rfl rfl
  · exact fun d lv st M Q => jx_k_goto (jx_fok (by decide +kernel : decode (jx_mb 95) 166 = .ok (.goto 4, 3))) rfl
  · exact fun d lv st M Q => jx_ev_st (jx_fok (by decide +kernel : decode (jx_mb 95) 169 = .ok (.iconst 0, 1))) rfl rfl rfl
  · exact fun d lv M Q x => jx_k_rz (jx_fok (by decide +kernel : decode (jx_mb 95) 170 = .ok (.ireturn, 1))) rfl
theorem eX8_readOffice_85 (d : Nat) (st : List Value) (M : jx_M) (Q : jx_Po) (l1 : Option Value) (x : Nat) : jx_Ev d 95 85 [some (.ref x), l1] st M Q ↔ jx_Ev d 95 86 [some (.ref x), l1] (.ref x :: st) M Q := jx_ev_st (jx_fok (by decide +kernel : decode (jx_mb 95) 85 = .ok (.aload_n 0, 1))) rfl rfl rfl
theorem eX8_readOffice_113 (d : Nat) (st : List Value) (M : jx_M) (Q : jx_Po) (l1 : Option Value) (x : Nat) : jx_Ev d 95 113 [some (.ref x), l1] st M Q ↔ jx_Ev d 95 114 [some (.ref x), l1] (.ref x :: st) M Q := jx_ev_st (jx_fok (by decide +kernel : decode (jx_mb 95) 113 = .ok (.aload_n 0, 1))) rfl rfl rfl
theorem kX8_readOffice (d : Nat) (M : jx_M) (q : Int32 → jx_M → Prop) (a0 a1 : Value) : jx_I d 95 [a0, a1] M q ↔ jx_Ev d 95 0 [some a0, some a1] [] M (jx_qI q) := Iff.rfl
set_option maxRecDepth 100000 in
theorem eX8_readPerson :
  (∀ (d : Nat) (st : List Value) (M : jx_M) (Q : jx_Po) (l1 : Option Value) (x : Nat), jx_Ev d 96 0 [some (.ref x), l1] st M Q ↔ jx_Ev d 96 1 [some (.ref x), l1] (.ref x :: st) M Q) ∧
  (∀ (d : Nat) (lv : List (Option Value)) (st : List Value) (M : jx_M) (Q : jx_Po), jx_Ev d 96 1 lv (.ref 36 :: st) M Q ↔ jx_Ev d 96 4 lv (.ref 45 :: st) M Q) ∧
  (∀ (d : Nat) (st : List Value) (M : jx_M) (Q : jx_Po) (l1 : Option Value) (x : Nat), jx_Ev d 96 4 [some (.ref x), l1] st M Q ↔ jx_Ev d 96 5 [some (.ref x), l1] (.ref x :: st) M Q) ∧
  (∀ (d : Nat) (lv : List (Option Value)) (st : List Value) (M : jx_M) (Q : jx_Po), jx_Ev d 96 5 lv (.ref 36 :: st) M Q ↔ jx_Ev d 96 8 lv (.int (M 36 17) :: st) M Q) ∧
  (∀ (d : Nat) (st : List Value) (M : jx_M) (Q : jx_Po) (l1 : Option Value) (x : Nat), jx_Ev d 96 8 [some (.ref x), l1] st M Q ↔ jx_Ev d 96 9 [some (.ref x), l1] (.ref x :: st) M Q) ∧
  (∀ (d : Nat) (st : List Value) (M : jx_M) (Q : jx_Po) (l0 : Option Value) (x : Int32), jx_Ev d 96 9 [l0, some (.int x)] st M Q ↔ jx_Ev d 96 10 [l0, some (.int x)] (.int x :: st) M Q) ∧
  (∀ (d : Nat) (lv : List (Option Value)) (st : List Value) (M : jx_M) (Q : jx_Po), jx_Ev d 96 10 lv st M Q ↔ jx_Ev d 96 11 lv (.int 0 :: st) M Q) ∧
  (∀ (d : Nat) (lv : List (Option Value)) (st : List Value) (M : jx_M) (Q : jx_Po), jx_Ev d 96 11 lv st M Q ↔ jx_Ev d 96 13 lv (.int 9 :: st) M Q) ∧
  (∀ (d : Nat) (lv : List (Option Value)) (M : jx_M) (Q : jx_Po) (a0 : Int32) (a1 : Int32) (a2 : Int32) (a4 : Int32) (a5 : Nat), jx_Ev (d + 1) 96 13 lv [.int a0, .int a1, .int a2, .ref 36, .int a4, .ref a5] M Q ↔ jx_I d 91 [.ref 36, .int a2, .int a1, .int a0] M (fun x M => jx_Ev (d + 1) 96 16 lv (.int x :: [.int a4, .ref a5]) M Q)) ∧
  (∀ (d : Nat) (lv : List (Option Value)) (st : List Value) (M : jx_M) (Q : jx_Po) (x z : Int32) (a : Nat) (ha : jx_cl a = 9), jx_Ev d 96 16 lv (.int z :: .int x :: .ref a :: st) M Q ↔ (vp_in x (jx_sz a) ∧ jx_Ev d 96 17 lv st (jx_up M a x.toNatClampNeg z) Q)) ∧
  (∀ (d : Nat) (st : List Value) (M : jx_M) (Q : jx_Po) (l1 : Option Value) (x : Nat), jx_Ev d 96 17 [some (.ref x), l1] st M Q ↔ jx_Ev d 96 18 [some (.ref x), l1] (.ref x :: st) M Q) ∧
  (∀ (d : Nat) (lv : List (Option Value)) (st : List Value) (M : jx_M) (Q : jx_Po), jx_Ev d 96 18 lv (.ref 36 :: st) M Q ↔ jx_Ev d 96 21 lv (.ref 45 :: st) M Q) ∧
  (∀ (d : Nat) (st : List Value) (M : jx_M) (Q : jx_Po) (l1 : Option Value) (x : Nat), jx_Ev d 96 21 [some (.ref x), l1] st M Q ↔ jx_Ev d 96 22 [some (.ref x), l1] (.ref x :: st) M Q) ∧
  (∀ (d : Nat) (lv : List (Option Value)) (st : List Value) (M : jx_M) (Q : jx_Po), jx_Ev d 96 22 lv (.ref 36 :: st) M Q ↔ jx_Ev d 96 25 lv (.int (M 36 17) :: st) M Q) ∧
  (∀ (d : Nat) (lv : List (Option Value)) (st : List Value) (M : jx_M) (Q : jx_Po) (x : Int32) (a : Nat) (ha : jx_cl a = 9), jx_Ev d 96 25 lv (.int x :: .ref a :: st) M Q ↔ (vp_in x (jx_sz a) ∧ jx_Ev d 96 26 lv (.int (M a x.toNatClampNeg) :: st) M Q)) ∧
  (∀ (d : Nat) (lv : List (Option Value)) (st : List Value) (M : jx_M) (Q : jx_Po), jx_Ev d 96 26 lv st M Q ↔ jx_Ev d 96 28 lv (.int (-9) :: st) M Q) ∧
  (∀ (d : Nat) (lv : List (Option Value)) (st : List Value) (M : jx_M) (Q : jx_Po) (x z : Int32), jx_Ev d 96 28 lv (.int z :: .int x :: st) M Q ↔ (if x = z then jx_Ev d 96 31 lv st M Q else jx_Ev d 96 33 lv st M Q)) ∧
  (∀ (d : Nat) (lv : List (Option Value)) (st : List Value) (M : jx_M) (Q : jx_Po), jx_Ev d 96 31 lv st M Q ↔ jx_Ev d 96 32 lv (.int 0 :: st) M Q) ∧
  (∀ (d : Nat) (lv : List (Option Value)) (M : jx_M) (Q : jx_Po) (x : Int32), jx_Ev d 96 32 lv [.int x] M Q ↔ ((x = 0 ∨ x = 1) ∧ Q [.int x] M)) ∧
  (∀ (d : Nat) (st : List Value) (M : jx_M) (Q : jx_Po) (l1 : Option Value) (x : Nat), jx_Ev d 96 33 [some (.ref x), l1] st M Q ↔ jx_Ev d 96 34 [some (.ref x), l1] (.ref x :: st) M Q) ∧
  (∀ (d : Nat) (lv : List (Option Value)) (st : List Value) (M : jx_M) (Q : jx_Po), jx_Ev d 96 34 lv (.ref 36 :: st) M Q ↔ jx_Ev d 96 37 lv (.ref 46 :: st) M Q) ∧
  (∀ (d : Nat) (st : List Value) (M : jx_M) (Q : jx_Po) (l1 : Option Value) (x : Nat), jx_Ev d 96 37 [some (.ref x), l1] st M Q ↔ jx_Ev d 96 38 [some (.ref x), l1] (.ref x :: st) M Q) ∧
  (∀ (d : Nat) (lv : List (Option Value)) (st : List Value) (M : jx_M) (Q : jx_Po), jx_Ev d 96 38 lv (.ref 36 :: st) M Q ↔ jx_Ev d 96 41 lv (.int (M 36 17) :: st) M Q) ∧
  (∀ (d : Nat) (st : List Value) (M : jx_M) (Q : jx_Po) (l1 : Option Value) (x : Nat), jx_Ev d 96 41 [some (.ref x), l1] st M Q ↔ jx_Ev d 96 42 [some (.ref x), l1] (.ref x :: st) M Q) ∧
  (∀ (d : Nat) (st : List Value) (M : jx_M) (Q : jx_Po) (l0 : Option Value) (x : Int32), jx_Ev d 96 42 [l0, some (.int x)] st M Q ↔ jx_Ev d 96 43 [l0, some (.int x)] (.int x :: st) M Q) ∧
  (∀ (d : Nat) (lv : List (Option Value)) (st : List Value) (M : jx_M) (Q : jx_Po), jx_Ev d 96 43 lv st M Q ↔ jx_Ev d 96 44 lv (.int 0 :: st) M Q) ∧
  (∀ (d : Nat) (lv : List (Option Value)) (st : List Value) (M : jx_M) (Q : jx_Po), jx_Ev d 96 44 lv st M Q ↔ jx_Ev d 96 45 lv (.int 5 :: st) M Q) ∧
  (∀ (d : Nat) (lv : List (Option Value)) (M : jx_M) (Q : jx_Po) (a0 : Int32) (a1 : Int32) (a2 : Int32) (a4 : Int32) (a5 : Nat), jx_Ev (d + 1) 96 45 lv [.int a0, .int a1, .int a2, .ref 36, .int a4, .ref a5] M Q ↔ jx_I d 91 [.ref 36, .int a2, .int a1, .int a0] M (fun x M => jx_Ev (d + 1) 96 48 lv (.int x :: [.int a4, .ref a5]) M Q)) ∧
  (∀ (d : Nat) (lv : List (Option Value)) (st : List Value) (M : jx_M) (Q : jx_Po) (x z : Int32) (a : Nat) (ha : jx_cl a = 9), jx_Ev d 96 48 lv (.int z :: .int x :: .ref a :: st) M Q ↔ (vp_in x (jx_sz a) ∧ jx_Ev d 96 49 lv st (jx_up M a x.toNatClampNeg z) Q)) ∧
  (∀ (d : Nat) (st : List Value) (M : jx_M) (Q : jx_Po) (l1 : Option Value) (x : Nat), jx_Ev d 96 49 [some (.ref x), l1] st M Q ↔ jx_Ev d 96 50 [some (.ref x), l1] (.ref x :: st) M Q) ∧
  (∀ (d : Nat) (lv : List (Option Value)) (st : List Value) (M : jx_M) (Q : jx_Po) (x : Nat), jx_Ev d 96 50 lv (.ref x :: st) M Q ↔ jx_Ev d 96 51 lv (.ref x :: .ref x :: st) M Q) ∧
  (∀ (d : Nat) (lv : List (Option Value)) (st : List Value) (M : jx_M) (Q : jx_Po), jx_Ev d 96 51 lv (.ref 36 :: st) M Q ↔ jx_Ev d 96 54 lv (.int (M 36 17) :: st) M Q) ∧
  (∀ (d : Nat) (lv : List (Option Value)) (st : List Value) (M : jx_M) (Q : jx_Po), jx_Ev d 96 54 lv st M Q ↔ jx_Ev d 96 55 lv (.int 1 :: st) M Q) ∧
  (∀ (d : Nat) (lv : List (Option Value)) (st : List Value) (M : jx_M) (Q : jx_Po) (x z : Int32), jx_Ev d 96 55 lv (.int z :: .int x :: st) M Q ↔ jx_Ev d 96 56 lv (.int (x + z) :: st) M Q) ∧
  (∀ (d : Nat) (lv : List (Option Value)) (st : List Value) (M : jx_M) (Q : jx_Po) (x : Int32), jx_Ev d 96 56 lv (.int x :: .ref 36 :: st) M Q ↔ jx_Ev d 96 59 lv st (jx_up M 36 17 x) Q) ∧
  (∀ (d : Nat) (st : List Value) (M : jx_M) (Q : jx_Po) (l1 : Option Value) (x : Nat), jx_Ev d 96 59 [some (.ref x), l1] st M Q ↔ jx_Ev d 96 60 [some (.ref x), l1] (.ref x :: st) M Q) ∧
  (∀ (d : Nat) (lv : List (Option Value)) (st : List Value) (M : jx_M) (Q : jx_Po), jx_Ev d 96 60 lv (.ref 36 :: st) M Q ↔ jx_Ev d 96 63 lv (.ref 46 :: st) M Q) ∧
  (∀ (d : Nat) (st : List Value) (M : jx_M) (Q : jx_Po) (l1 : Option Value) (x : Nat), jx_Ev d 96 63 [some (.ref x), l1] st M Q ↔ jx_Ev d 96 64 [some (.ref x), l1] (.ref x :: st) M Q) ∧
  (∀ (d : Nat) (lv : List (Option Value)) (st : List Value) (M : jx_M) (Q : jx_Po), jx_Ev d 96 64 lv (.ref 36 :: st) M Q ↔ jx_Ev d 96 67 lv (.int (M 36 17) :: st) M Q) ∧
  (∀ (d : Nat) (lv : List (Option Value)) (st : List Value) (M : jx_M) (Q : jx_Po), jx_Ev d 96 67 lv st M Q ↔ jx_Ev d 96 68 lv (.int 1 :: st) M Q) ∧
  (∀ (d : Nat) (lv : List (Option Value)) (st : List Value) (M : jx_M) (Q : jx_Po) (x z : Int32), jx_Ev d 96 68 lv (.int z :: .int x :: st) M Q ↔ jx_Ev d 96 69 lv (.int (x - z) :: st) M Q) ∧
  (∀ (d : Nat) (lv : List (Option Value)) (st : List Value) (M : jx_M) (Q : jx_Po) (x : Int32) (a : Nat) (ha : jx_cl a = 9), jx_Ev d 96 69 lv (.int x :: .ref a :: st) M Q ↔ (vp_in x (jx_sz a) ∧ jx_Ev d 96 70 lv (.int (M a x.toNatClampNeg) :: st) M Q)) ∧
  (∀ (d : Nat) (lv : List (Option Value)) (st : List Value) (M : jx_M) (Q : jx_Po), jx_Ev d 96 70 lv st M Q ↔ jx_Ev d 96 72 lv (.int (-9) :: st) M Q) ∧
  (∀ (d : Nat) (lv : List (Option Value)) (st : List Value) (M : jx_M) (Q : jx_Po) (x z : Int32), jx_Ev d 96 72 lv (.int z :: .int x :: st) M Q ↔ (if x = z then jx_Ev d 96 79 lv st M Q else jx_Ev d 96 75 lv st M Q)) ∧
  (∀ (d : Nat) (lv : List (Option Value)) (st : List Value) (M : jx_M) (Q : jx_Po), jx_Ev d 96 75 lv st M Q ↔ jx_Ev d 96 76 lv (.int 1 :: st) M Q) ∧
  (∀ (d : Nat) (lv : List (Option Value)) (st : List Value) (M : jx_M) (Q : jx_Po), jx_Ev d 96 76 lv st M Q ↔ jx_Ev d 96 80 lv st M Q) ∧
  (∀ (d : Nat) (lv : List (Option Value)) (st : List Value) (M : jx_M) (Q : jx_Po), jx_Ev d 96 79 lv st M Q ↔ jx_Ev d 96 80 lv (.int 0 :: st) M Q) ∧
  (∀ (d : Nat) (lv : List (Option Value)) (M : jx_M) (Q : jx_Po) (x : Int32), jx_Ev d 96 80 lv [.int x] M Q ↔ ((x = 0 ∨ x = 1) ∧ Q [.int x] M)) := by
  refine ⟨?_, ?_, ?_, ?_, ?_, ?_, ?_, ?_, ?_, ?_, ?_, ?_, ?_, ?_, ?_, ?_, ?_, ?_, ?_, ?_, ?_, ?_, ?_, ?_, ?_, ?_, ?_, ?_, ?_, ?_, ?_, ?_, ?_, ?_, ?_, ?_, ?_, ?_, ?_, ?_, ?_, ?_, ?_, ?_, ?_, ?_, ?_, ?_⟩
  · exact fun d st M Q l1 x => jx_ev_st (jx_fok (by decide +kernel : decode (jx_mb 96) 0 = .ok (.aload_n 0, 1))) rfl rfl rfl
  · exact fun d lv st M Q => jx_k_gf (jx_fok (by decide +kernel : decode (jx_mb 96) 1 = .ok (.getfield 34, 3))) rfl rfl rfl
  · exact fun d st M Q l1 x => jx_ev_st (jx_fok (by decide +kernel : decode (jx_mb 96) 4 = .ok (.aload_n 0, 1))) rfl rfl rfl
  · exact fun d lv st M Q => jx_k_gf (jx_fok (by decide +kernel : decode (jx_mb 96) 5 = .ok (.getfield 119, 3))) rfl rfl rfl
  · exact fun d st M Q l1 x => jx_ev_st (jx_fok (by decide +kernel : decode (jx_mb 96) 8 = .ok (.aload_n 0, 1))) rfl rfl rfl
  · exact fun d st M Q l0 x => jx_ev_st (jx_fok (by decide +kernel : decode (jx_mb 96) 9 = .ok (.iload_n 1, 1))) rfl rfl rfl
  · exact fun d lv st M Q => jx_ev_st (jx_fok (by decide +kernel : decode (jx_mb 96) 10 = .ok (.iconst 0, 1))) rfl rfl rfl
  · exact fun d lv st M Q => jx_ev_st (jx_fok (by decide +kernel : decode (jx_mb 96) 11 = .ok (.bipush 9, 2))) rfl rfl rfl
  · exact fun d lv M Q a0 a1 a2 a4 a5 => jx_ev_ci (jx_fok (by decide +kernel : decode (jx_mb 96) 13 = .ok (.invokevirtual 132, 3))) rfl (jx_ccV (As := [.int a2, .int a1, .int a0]) (rest := [.int a4, .ref a5]) rfl rfl rfl rfl rfl rfl) (by decide)
  · exact fun d lv st M Q x z a ha => jx_k_as (jx_fok (by decide +kernel : decode (jx_mb 96) 16 = .ok (.iastore, 1))) ha
  · exact fun d st M Q l1 x => jx_ev_st (jx_fok (by decide +kernel : decode (jx_mb 96) 17 = .ok (.aload_n 0, 1))) rfl rfl rfl
  · exact fun d lv st M Q => jx_k_gf (jx_fok (by decide +kernel : decode (jx_mb 96) 18 = .ok (.getfield 34, 3))) rfl rfl rfl
  · exact fun d st M Q l1 x => jx_ev_st (jx_fok (by decide +kernel : decode (jx_mb 96) 21 = .ok (.aload_n 0, 1))) rfl rfl rfl
  · exact fun d lv st M Q => jx_k_gf (jx_fok (by decide +kernel : decode (jx_mb 96) 22 = .ok (.getfield 119, 3))) rfl rfl rfl
  · exact fun d lv st M Q x a ha => jx_k_al (jx_fok (by decide +kernel : decode (jx_mb 96) 25 = .ok (.iaload, 1))) ha
  · exact fun d lv st M Q => jx_ev_st (jx_fok (by decide +kernel : decode (jx_mb 96) 26 = .ok (.bipush (-9), 2))) rfl rfl rfl
  · exact fun d lv st M Q x z => jx_k_b2n (jx_fok (by decide +kernel : decode (jx_mb 96) 28 = .ok (.if_icmp .ne 5, 3))) rfl jx_hNe
  · exact fun d lv st M Q => jx_ev_st (jx_fok (by decide +kernel : decode (jx_mb 96) 31 = .ok (.iconst 0, 1))) rfl rfl rfl
  · exact fun d lv M Q x => jx_k_rz (jx_fok (by decide +kernel : decode (jx_mb 96) 32 = .ok (.ireturn, 1))) rfl
  · exact fun d st M Q l1 x => jx_ev_st (jx_fok (by decide +kernel : decode (jx_mb 96) 33 = .ok (.aload_n 0, 1))) rfl rfl rfl
  · exact fun d lv st M Q => jx_k_gf (jx_fok (by decide +kernel : decode (jx_mb 96) 34 = .ok (.getfield 37, 3))) rfl rfl rfl
  · exact fun d st M Q l1 x => jx_ev_st (jx_fok (by decide +kernel : decode (jx_mb 96) 37 = .ok (.aload_n 0, 1))) rfl rfl rfl
  · exact fun d lv st M Q => jx_k_gf (jx_fok (by decide +kernel : decode (jx_mb 96) 38 = .ok (.getfield 119, 3))) rfl rfl rfl
  · exact fun d st M Q l1 x => jx_ev_st (jx_fok (by decide +kernel : decode (jx_mb 96) 41 = .ok (.aload_n 0, 1))) rfl rfl rfl
  · exact fun d st M Q l0 x => jx_ev_st (jx_fok (by decide +kernel : decode (jx_mb 96) 42 = .ok (.iload_n 1, 1))) rfl rfl rfl
  · exact fun d lv st M Q => jx_ev_st (jx_fok (by decide +kernel : decode (jx_mb 96) 43 = .ok (.iconst 0, 1))) rfl rfl rfl
  · exact fun d lv st M Q => jx_ev_st (jx_fok (by decide +kernel : decode (jx_mb 96) 44 = .ok (.iconst 5, 1))) rfl rfl rfl
  · exact fun d lv M Q a0 a1 a2 a4 a5 => jx_ev_ci (jx_fok (by decide +kernel : decode (jx_mb 96) 45 = .ok (.invokevirtual 132, 3))) rfl (jx_ccV (As := [.int a2, .int a1, .int a0]) (rest := [.int a4, .ref a5]) rfl rfl rfl rfl rfl rfl) (by decide)
  · exact fun d lv st M Q x z a ha => jx_k_as (jx_fok (by decide +kernel : decode (jx_mb 96) 48 = .ok (.iastore, 1))) ha
  · exact fun d st M Q l1 x => jx_ev_st (jx_fok (by decide +kernel : decode (jx_mb 96) 49 = .ok (.aload_n 0, 1))) rfl rfl rfl
  · exact fun d lv st M Q x => jx_ev_st (jx_fok (by decide +kernel : decode (jx_mb 96) 50 = .ok (.dup, 1))) rfl rfl rfl
  · exact fun d lv st M Q => jx_k_gf (jx_fok (by decide +kernel : decode (jx_mb 96) 51 = .ok (.getfield 119, 3))) rfl rfl rfl
  · exact fun d lv st M Q => jx_ev_st (jx_fok (by decide +kernel : decode (jx_mb 96) 54 = .ok (.iconst 1, 1))) rfl rfl rfl
  · exact fun d lv st M Q x z => jx_ev_st (jx_fok (by decide +kernel : decode (jx_mb 96) 55 = .ok (.iadd, 1))) rfl rfl rfl
  · exact fun d lv st M Q x => jx_k_pf0 (jx_fok (by decide +kernel : decode (jx_mb 96) 56 = .ok (.putfield 119, 3))) rfl rfl rfl
  · exact fun d st M Q l1 x => jx_ev_st (jx_fok (by decide +kernel : decode (jx_mb 96) 59 = .ok (.aload_n 0, 1))) rfl rfl rfl
  · exact fun d lv st M Q => jx_k_gf (jx_fok (by decide +kernel : decode (jx_mb 96) 60 = .ok (.getfield 37, 3))) rfl rfl rfl
  · exact fun d st M Q l1 x => jx_ev_st (jx_fok (by decide +kernel : decode (jx_mb 96) 63 = .ok (.aload_n 0, 1))) rfl rfl rfl
  · exact fun d lv st M Q => jx_k_gf (jx_fok (by decide +kernel : decode (jx_mb 96) 64 = .ok (.getfield 119, 3))) rfl rfl rfl
  · exact fun d lv st M Q => jx_ev_st (jx_fok (by decide +kernel : decode (jx_mb 96) 67 = .ok (.iconst 1, 1))) rfl rfl rfl
  · exact fun d lv st M Q x z => jx_ev_st (jx_fok (by decide +kernel : decode (jx_mb 96) 68 = .ok (.isub, 1))) rfl rfl rfl
  · exact fun d lv st M Q x a ha => jx_k_al (jx_fok (by decide +kernel : decode (jx_mb 96) 69 = .ok (.iaload, 1))) ha
  · exact fun d lv st M Q => jx_ev_st (jx_fok (by decide +kernel : decode (jx_mb 96) 70 = .ok (.bipush (-9), 2))) rfl rfl rfl
  · exact fun d lv st M Q x z => jx_k_b2 (jx_fok (by decide +kernel : decode (jx_mb 96) 72 = .ok (.if_icmp .eq 7, 3))) rfl jx_hEq
  · exact fun d lv st M Q => jx_ev_st (jx_fok (by decide +kernel : decode (jx_mb 96) 75 = .ok (.iconst 1, 1))) rfl rfl rfl
  · exact fun d lv st M Q => jx_k_goto (jx_fok (by decide +kernel : decode (jx_mb 96) 76 = .ok (.goto 4, 3))) rfl
  · exact fun d lv st M Q => jx_ev_st (jx_fok (by decide +kernel : decode (jx_mb 96) 79 = .ok (.iconst 0, 1))) rfl rfl rfl
  · exact fun d lv M Q x => jx_k_rz (jx_fok (by decide +kernel : decode (jx_mb 96) 80 = .ok (.ireturn, 1))) rfl
theorem kX8_readPerson (d : Nat) (M : jx_M) (q : Int32 → jx_M → Prop) (a0 a1 : Value) : jx_I d 96 [a0, a1] M q ↔ jx_Ev d 96 0 [some a0, some a1] [] M (jx_qI q) := Iff.rfl
set_option maxRecDepth 100000 in
theorem eX8_readClap :
  (∀ (d : Nat) (st : List Value) (M : jx_M) (Q : jx_Po) (l1 l2 : Option Value) (x : Nat), jx_Ev d 97 0 [some (.ref x), l1, l2] st M Q ↔ jx_Ev d 97 1 [some (.ref x), l1, l2] (.ref x :: st) M Q) ∧
  (∀ (d : Nat) (lv : List (Option Value)) (st : List Value) (M : jx_M) (Q : jx_Po), jx_Ev d 97 1 lv (.ref 36 :: st) M Q ↔ jx_Ev d 97 4 lv (.int (M 36 14) :: st) M Q) ∧
  (∀ (d : Nat) (st : List Value) (M : jx_M) (Q : jx_Po) (l0 l2 : Option Value) (x : Int32), jx_Ev d 97 4 [l0, some (.int x), l2] st M Q ↔ jx_Ev d 97 5 [l0, some (.int x), l2] (.int x :: st) M Q) ∧
  (∀ (d : Nat) (lv : List (Option Value)) (st : List Value) (M : jx_M) (Q : jx_Po) (x z : Int32), jx_Ev d 97 5 lv (.int z :: .int x :: st) M Q ↔ (if z ≤ x then jx_Ev d 97 20 lv st M Q else jx_Ev d 97 8 lv st M Q)) ∧
  (∀ (d : Nat) (st : List Value) (M : jx_M) (Q : jx_Po) (l1 l2 : Option Value) (x : Nat), jx_Ev d 97 8 [some (.ref x), l1, l2] st M Q ↔ jx_Ev d 97 9 [some (.ref x), l1, l2] (.ref x :: st) M Q) ∧
  (∀ (d : Nat) (lv : List (Option Value)) (st : List Value) (M : jx_M) (Q : jx_Po), jx_Ev d 97 9 lv (.ref 36 :: st) M Q ↔ jx_Ev d 97 12 lv (.ref 39 :: st) M Q) ∧
  (∀ (d : Nat) (st : List Value) (M : jx_M) (Q : jx_Po) (l1 l2 : Option Value) (x : Nat), jx_Ev d 97 12 [some (.ref x), l1, l2] st M Q ↔ jx_Ev d 97 13 [some (.ref x), l1, l2] (.ref x :: st) M Q) ∧
  (∀ (d : Nat) (lv : List (Option Value)) (st : List Value) (M : jx_M) (Q : jx_Po), jx_Ev d 97 13 lv (.ref 36 :: st) M Q ↔ jx_Ev d 97 16 lv (.int (M 36 14) :: st) M Q) ∧
  (∀ (d : Nat) (lv : List (Option Value)) (st : List Value) (M : jx_M) (Q : jx_Po) (x : Int32) (a : Nat) (ha : jx_cl a = 9), jx_Ev d 97 16 lv (.int x :: .ref a :: st) M Q ↔ (vp_in x (jx_sz a) ∧ jx_Ev d 97 17 lv (.int (M a x.toNatClampNeg) :: st) M Q)) ∧
  (∀ (d : Nat) (lv : List (Option Value)) (st : List Value) (M : jx_M) (Q : jx_Po), jx_Ev d 97 17 lv st M Q ↔ jx_Ev d 97 21 lv st M Q) ∧
  (∀ (d : Nat) (lv : List (Option Value)) (st : List Value) (M : jx_M) (Q : jx_Po), jx_Ev d 97 20 lv st M Q ↔ jx_Ev d 97 21 lv (.int 0 :: st) M Q) ∧
  (∀ (d : Nat) (st : List Value) (M : jx_M) (Q : jx_Po) (l0 l1 l2 : Option Value) (x : Int32), jx_Ev d 97 21 [l0, l1, l2] (.int x :: st) M Q ↔ jx_Ev d 97 22 [l0, l1, some (.int x)] st M Q) ∧
  (∀ (d : Nat) (st : List Value) (M : jx_M) (Q : jx_Po) (l1 l2 : Option Value) (x : Nat), jx_Ev d 97 22 [some (.ref x), l1, l2] st M Q ↔ jx_Ev d 97 23 [some (.ref x), l1, l2] (.ref x :: st) M Q) ∧
  (∀ (d : Nat) (lv : List (Option Value)) (st : List Value) (M : jx_M) (Q : jx_Po), jx_Ev d 97 23 lv (.ref 36 :: st) M Q ↔ jx_Ev d 97 26 lv (.ref 47 :: st) M Q) ∧
  (∀ (d : Nat) (st : List Value) (M : jx_M) (Q : jx_Po) (l1 l2 : Option Value) (x : Nat), jx_Ev d 97 26 [some (.ref x), l1, l2] st M Q ↔ jx_Ev d 97 27 [some (.ref x), l1, l2] (.ref x :: st) M Q) ∧
  (∀ (d : Nat) (lv : List (Option Value)) (st : List Value) (M : jx_M) (Q : jx_Po), jx_Ev d 97 27 lv (.ref 36 :: st) M Q ↔ jx_Ev d 97 30 lv (.int (M 36 18) :: st) M Q) ∧
  (∀ (d : Nat) (st : List Value) (M : jx_M) (Q : jx_Po) (l0 l1 : Option Value) (x : Int32), jx_Ev d 97 30 [l0, l1, some (.int x)] st M Q ↔ jx_Ev d 97 31 [l0, l1, some (.int x)] (.int x :: st) M Q) ∧
  (∀ (d : Nat) (lv : List (Option Value)) (st : List Value) (M : jx_M) (Q : jx_Po), jx_Ev d 97 31 lv st M Q ↔ jx_Ev d 97 33 lv (.int 99 :: st) M Q) ∧
  (∀ (d : Nat) (lv : List (Option Value)) (st : List Value) (M : jx_M) (Q : jx_Po) (x z : Int32), jx_Ev d 97 33 lv (.int z :: .int x :: st) M Q ↔ (if x = z then jx_Ev d 97 36 lv st M Q else jx_Ev d 97 40 lv st M Q)) ∧
  (∀ (d : Nat) (lv : List (Option Value)) (st : List Value) (M : jx_M) (Q : jx_Po), jx_Ev d 97 36 lv st M Q ↔ jx_Ev d 97 37 lv (.int 0 :: st) M Q) ∧
  (∀ (d : Nat) (lv : List (Option Value)) (st : List Value) (M : jx_M) (Q : jx_Po), jx_Ev d 97 37 lv st M Q ↔ jx_Ev d 97 62 lv st M Q) ∧
  (∀ (d : Nat) (st : List Value) (M : jx_M) (Q : jx_Po) (l0 l1 : Option Value) (x : Int32), jx_Ev d 97 40 [l0, l1, some (.int x)] st M Q ↔ jx_Ev d 97 41 [l0, l1, some (.int x)] (.int x :: st) M Q) ∧
  (∀ (d : Nat) (lv : List (Option Value)) (st : List Value) (M : jx_M) (Q : jx_Po), jx_Ev d 97 41 lv st M Q ↔ jx_Ev d 97 43 lv (.int 100 :: st) M Q) ∧
  (∀ (d : Nat) (lv : List (Option Value)) (st : List Value) (M : jx_M) (Q : jx_Po) (x z : Int32), jx_Ev d 97 43 lv (.int z :: .int x :: st) M Q ↔ (if x = z then jx_Ev d 97 46 lv st M Q else jx_Ev d 97 50 lv st M Q)) ∧
  (∀ (d : Nat) (lv : List (Option Value)) (st : List Value) (M : jx_M) (Q : jx_Po), jx_Ev d 97 46 lv st M Q ↔ jx_Ev d 97 47 lv (.int 1 :: st) M Q) ∧
  (∀ (d : Nat) (lv : List (Option Value)) (st : List Value) (M : jx_M) (Q : jx_Po), jx_Ev d 97 47 lv st M Q ↔ jx_Ev d 97 62 lv st M Q) ∧
  (∀ (d : Nat) (st : List Value) (M : jx_M) (Q : jx_Po) (l0 l1 : Option Value) (x : Int32), jx_Ev d 97 50 [l0, l1, some (.int x)] st M Q ↔ jx_Ev d 97 51 [l0, l1, some (.int x)] (.int x :: st) M Q) ∧
  (∀ (d : Nat) (lv : List (Option Value)) (st : List Value) (M : jx_M) (Q : jx_Po), jx_Ev d 97 51 lv st M Q ↔ jx_Ev d 97 53 lv (.int 98 :: st) M Q) ∧
  (∀ (d : Nat) (lv : List (Option Value)) (st : List Value) (M : jx_M) (Q : jx_Po) (x z : Int32), jx_Ev d 97 53 lv (.int z :: .int x :: st) M Q ↔ (if x = z then jx_Ev d 97 56 lv st M Q else jx_Ev d 97 60 lv st M Q)) ∧
  (∀ (d : Nat) (lv : List (Option Value)) (st : List Value) (M : jx_M) (Q : jx_Po), jx_Ev d 97 56 lv st M Q ↔ jx_Ev d 97 57 lv (.int 2 :: st) M Q) ∧
  (∀ (d : Nat) (lv : List (Option Value)) (st : List Value) (M : jx_M) (Q : jx_Po), jx_Ev d 97 57 lv st M Q ↔ jx_Ev d 97 62 lv st M Q) ∧
  (∀ (d : Nat) (lv : List (Option Value)) (st : List Value) (M : jx_M) (Q : jx_Po), jx_Ev d 97 60 lv st M Q ↔ jx_Ev d 97 62 lv (.int (-9) :: st) M Q) ∧
  (∀ (d : Nat) (lv : List (Option Value)) (st : List Value) (M : jx_M) (Q : jx_Po) (x z : Int32) (a : Nat) (ha : jx_cl a = 9), jx_Ev d 97 62 lv (.int z :: .int x :: .ref a :: st) M Q ↔ (vp_in x (jx_sz a) ∧ jx_Ev d 97 63 lv st (jx_up M a x.toNatClampNeg z) Q)) ∧
  (∀ (d : Nat) (st : List Value) (M : jx_M) (Q : jx_Po) (l1 l2 : Option Value) (x : Nat), jx_Ev d 97 63 [some (.ref x), l1, l2] st M Q ↔ jx_Ev d 97 64 [some (.ref x), l1, l2] (.ref x :: st) M Q) ∧
  (∀ (d : Nat) (lv : List (Option Value)) (st : List Value) (M : jx_M) (Q : jx_Po), jx_Ev d 97 64 lv (.ref 36 :: st) M Q ↔ jx_Ev d 97 67 lv (.ref 47 :: st) M Q) ∧
  (∀ (d : Nat) (st : List Value) (M : jx_M) (Q : jx_Po) (l1 l2 : Option Value) (x : Nat), jx_Ev d 97 67 [some (.ref x), l1, l2] st M Q ↔ jx_Ev d 97 68 [some (.ref x), l1, l2] (.ref x :: st) M Q) ∧
  (∀ (d : Nat) (lv : List (Option Value)) (st : List Value) (M : jx_M) (Q : jx_Po), jx_Ev d 97 68 lv (.ref 36 :: st) M Q ↔ jx_Ev d 97 71 lv (.int (M 36 18) :: st) M Q) ∧
  (∀ (d : Nat) (lv : List (Option Value)) (st : List Value) (M : jx_M) (Q : jx_Po) (x : Int32) (a : Nat) (ha : jx_cl a = 9), jx_Ev d 97 71 lv (.int x :: .ref a :: st) M Q ↔ (vp_in x (jx_sz a) ∧ jx_Ev d 97 72 lv (.int (M a x.toNatClampNeg) :: st) M Q)) ∧
  (∀ (d : Nat) (lv : List (Option Value)) (st : List Value) (M : jx_M) (Q : jx_Po), jx_Ev d 97 72 lv st M Q ↔ jx_Ev d 97 74 lv (.int (-9) :: st) M Q) ∧
  (∀ (d : Nat) (lv : List (Option Value)) (st : List Value) (M : jx_M) (Q : jx_Po) (x z : Int32), jx_Ev d 97 74 lv (.int z :: .int x :: st) M Q ↔ (if x = z then jx_Ev d 97 77 lv st M Q else jx_Ev d 97 79 lv st M Q)) ∧
  (∀ (d : Nat) (lv : List (Option Value)) (st : List Value) (M : jx_M) (Q : jx_Po), jx_Ev d 97 77 lv st M Q ↔ jx_Ev d 97 78 lv (.int 0 :: st) M Q) ∧
  (∀ (d : Nat) (lv : List (Option Value)) (M : jx_M) (Q : jx_Po) (x : Int32), jx_Ev d 97 78 lv [.int x] M Q ↔ ((x = 0 ∨ x = 1) ∧ Q [.int x] M)) ∧
  (∀ (d : Nat) (st : List Value) (M : jx_M) (Q : jx_Po) (l1 l2 : Option Value) (x : Nat), jx_Ev d 97 79 [some (.ref x), l1, l2] st M Q ↔ jx_Ev d 97 80 [some (.ref x), l1, l2] (.ref x :: st) M Q) ∧
  (∀ (d : Nat) (lv : List (Option Value)) (st : List Value) (M : jx_M) (Q : jx_Po) (x : Nat), jx_Ev d 97 80 lv (.ref x :: st) M Q ↔ jx_Ev d 97 81 lv (.ref x :: .ref x :: st) M Q) ∧
  (∀ (d : Nat) (lv : List (Option Value)) (st : List Value) (M : jx_M) (Q : jx_Po), jx_Ev d 97 81 lv (.ref 36 :: st) M Q ↔ jx_Ev d 97 84 lv (.int (M 36 14) :: st) M Q) ∧
  (∀ (d : Nat) (lv : List (Option Value)) (st : List Value) (M : jx_M) (Q : jx_Po), jx_Ev d 97 84 lv st M Q ↔ jx_Ev d 97 85 lv (.int 1 :: st) M Q) ∧
  (∀ (d : Nat) (lv : List (Option Value)) (st : List Value) (M : jx_M) (Q : jx_Po) (x z : Int32), jx_Ev d 97 85 lv (.int z :: .int x :: st) M Q ↔ jx_Ev d 97 86 lv (.int (x + z) :: st) M Q) ∧
  (∀ (d : Nat) (lv : List (Option Value)) (st : List Value) (M : jx_M) (Q : jx_Po) (x : Int32), jx_Ev d 97 86 lv (.int x :: .ref 36 :: st) M Q ↔ jx_Ev d 97 89 lv st (jx_up M 36 14 x) Q) ∧
  (∀ (d : Nat) (st : List Value) (M : jx_M) (Q : jx_Po) (l1 l2 : Option Value) (x : Nat), jx_Ev d 97 89 [some (.ref x), l1, l2] st M Q ↔ jx_Ev d 97 90 [some (.ref x), l1, l2] (.ref x :: st) M Q) ∧
  (∀ (d : Nat) (lv : List (Option Value)) (st : List Value) (M : jx_M) (Q : jx_Po), jx_Ev d 97 90 lv (.ref 36 :: st) M Q ↔ jx_Ev d 97 93 lv (.ref 48 :: st) M Q) ∧
  (∀ (d : Nat) (st : List Value) (M : jx_M) (Q : jx_Po) (l1 l2 : Option Value) (x : Nat), jx_Ev d 97 93 [some (.ref x), l1, l2] st M Q ↔ jx_Ev d 97 94 [some (.ref x), l1, l2] (.ref x :: st) M Q) ∧
  (∀ (d : Nat) (lv : List (Option Value)) (st : List Value) (M : jx_M) (Q : jx_Po), jx_Ev d 97 94 lv (.ref 36 :: st) M Q ↔ jx_Ev d 97 97 lv (.int (M 36 18) :: st) M Q) ∧
  (∀ (d : Nat) (st : List Value) (M : jx_M) (Q : jx_Po) (l1 l2 : Option Value) (x : Nat), jx_Ev d 97 97 [some (.ref x), l1, l2] st M Q ↔ jx_Ev d 97 98 [some (.ref x), l1, l2] (.ref x :: st) M Q) ∧
  (∀ (d : Nat) (st : List Value) (M : jx_M) (Q : jx_Po) (l0 l2 : Option Value) (x : Int32), jx_Ev d 97 98 [l0, some (.int x), l2] st M Q ↔ jx_Ev d 97 99 [l0, some (.int x), l2] (.int x :: st) M Q) ∧
  (∀ (d : Nat) (lv : List (Option Value)) (st : List Value) (M : jx_M) (Q : jx_Po), jx_Ev d 97 99 lv st M Q ↔ jx_Ev d 97 100 lv (.int 1 :: st) M Q) ∧
  (∀ (d : Nat) (lv : List (Option Value)) (st : List Value) (M : jx_M) (Q : jx_Po), jx_Ev d 97 100 lv st M Q ↔ jx_Ev d 97 102 lv (.int 9 :: st) M Q) ∧
  (∀ (d : Nat) (lv : List (Option Value)) (M : jx_M) (Q : jx_Po) (a0 : Int32) (a1 : Int32) (a2 : Int32) (a4 : Int32) (a5 : Nat), jx_Ev (d + 1) 97 102 lv [.int a0, .int a1, .int a2, .ref 36, .int a4, .ref a5] M Q ↔ jx_I d 91 [.ref 36, .int a2, .int a1, .int a0] M (fun x M => jx_Ev (d + 1) 97 105 lv (.int x :: [.int a4, .ref a5]) M Q)) ∧
  (∀ (d : Nat) (lv : List (Option Value)) (st : List Value) (M : jx_M) (Q : jx_Po) (x z : Int32) (a : Nat) (ha : jx_cl a = 9), jx_Ev d 97 105 lv (.int z :: .int x :: .ref a :: st) M Q ↔ (vp_in x (jx_sz a) ∧ jx_Ev d 97 106 lv st (jx_up M a x.toNatClampNeg z) Q)) ∧
  (∀ (d : Nat) (st : List Value) (M : jx_M) (Q : jx_Po) (l1 l2 : Option Value) (x : Nat), jx_Ev d 97 106 [some (.ref x), l1, l2] st M Q ↔ jx_Ev d 97 107 [some (.ref x), l1, l2] (.ref x :: st) M Q) ∧
  (∀ (d : Nat) (lv : List (Option Value)) (st : List Value) (M : jx_M) (Q : jx_Po), jx_Ev d 97 107 lv (.ref 36 :: st) M Q ↔ jx_Ev d 97 110 lv (.ref 48 :: st) M Q) ∧
  (∀ (d : Nat) (st : List Value) (M : jx_M) (Q : jx_Po) (l1 l2 : Option Value) (x : Nat), jx_Ev d 97 110 [some (.ref x), l1, l2] st M Q ↔ jx_Ev d 97 111 [some (.ref x), l1, l2] (.ref x :: st) M Q) ∧
  (∀ (d : Nat) (lv : List (Option Value)) (st : List Value) (M : jx_M) (Q : jx_Po), jx_Ev d 97 111 lv (.ref 36 :: st) M Q ↔ jx_Ev d 97 114 lv (.int (M 36 18) :: st) M Q) ∧
  (∀ (d : Nat) (lv : List (Option Value)) (st : List Value) (M : jx_M) (Q : jx_Po) (x : Int32) (a : Nat) (ha : jx_cl a = 9), jx_Ev d 97 114 lv (.int x :: .ref a :: st) M Q ↔ (vp_in x (jx_sz a) ∧ jx_Ev d 97 115 lv (.int (M a x.toNatClampNeg) :: st) M Q)) ∧
  (∀ (d : Nat) (lv : List (Option Value)) (st : List Value) (M : jx_M) (Q : jx_Po), jx_Ev d 97 115 lv st M Q ↔ jx_Ev d 97 117 lv (.int (-9) :: st) M Q) ∧
  (∀ (d : Nat) (lv : List (Option Value)) (st : List Value) (M : jx_M) (Q : jx_Po) (x z : Int32), jx_Ev d 97 117 lv (.int z :: .int x :: st) M Q ↔ (if x = z then jx_Ev d 97 120 lv st M Q else jx_Ev d 97 122 lv st M Q)) ∧
  (∀ (d : Nat) (lv : List (Option Value)) (st : List Value) (M : jx_M) (Q : jx_Po), jx_Ev d 97 120 lv st M Q ↔ jx_Ev d 97 121 lv (.int 0 :: st) M Q) ∧
  (∀ (d : Nat) (lv : List (Option Value)) (M : jx_M) (Q : jx_Po) (x : Int32), jx_Ev d 97 121 lv [.int x] M Q ↔ ((x = 0 ∨ x = 1) ∧ Q [.int x] M)) ∧
  (∀ (d : Nat) (st : List Value) (M : jx_M) (Q : jx_Po) (l1 l2 : Option Value) (x : Nat), jx_Ev d 97 122 [some (.ref x), l1, l2] st M Q ↔ jx_Ev d 97 123 [some (.ref x), l1, l2] (.ref x :: st) M Q) ∧
  (∀ (d : Nat) (lv : List (Option Value)) (st : List Value) (M : jx_M) (Q : jx_Po), jx_Ev d 97 123 lv (.ref 36 :: st) M Q ↔ jx_Ev d 97 126 lv (.ref 49 :: st) M Q) ∧
  (∀ (d : Nat) (st : List Value) (M : jx_M) (Q : jx_Po) (l1 l2 : Option Value) (x : Nat), jx_Ev d 97 126 [some (.ref x), l1, l2] st M Q ↔ jx_Ev d 97 127 [some (.ref x), l1, l2] (.ref x :: st) M Q) ∧
  (∀ (d : Nat) (lv : List (Option Value)) (st : List Value) (M : jx_M) (Q : jx_Po), jx_Ev d 97 127 lv (.ref 36 :: st) M Q ↔ jx_Ev d 97 130 lv (.int (M 36 18) :: st) M Q) ∧
  (∀ (d : Nat) (st : List Value) (M : jx_M) (Q : jx_Po) (l1 l2 : Option Value) (x : Nat), jx_Ev d 97 130 [some (.ref x), l1, l2] st M Q ↔ jx_Ev d 97 131 [some (.ref x), l1, l2] (.ref x :: st) M Q) ∧
  (∀ (d : Nat) (st : List Value) (M : jx_M) (Q : jx_Po) (l0 l2 : Option Value) (x : Int32), jx_Ev d 97 131 [l0, some (.int x), l2] st M Q ↔ jx_Ev d 97 132 [l0, some (.int x), l2] (.int x :: st) M Q) ∧
  (∀ (d : Nat) (lv : List (Option Value)) (st : List Value) (M : jx_M) (Q : jx_Po), jx_Ev d 97 132 lv st M Q ↔ jx_Ev d 97 133 lv (.int 0 :: st) M Q) ∧
  (∀ (d : Nat) (st : List Value) (M : jx_M) (Q : jx_Po) (l1 l2 : Option Value) (x : Nat), jx_Ev d 97 133 [some (.ref x), l1, l2] st M Q ↔ jx_Ev d 97 134 [some (.ref x), l1, l2] (.ref x :: st) M Q) ∧
  (∀ (d : Nat) (lv : List (Option Value)) (st : List Value) (M : jx_M) (Q : jx_Po), jx_Ev d 97 134 lv (.ref 36 :: st) M Q ↔ jx_Ev d 97 137 lv (.int (M 36 17) :: st) M Q) ∧
  (∀ (d : Nat) (lv : List (Option Value)) (st : List Value) (M : jx_M) (Q : jx_Po), jx_Ev d 97 137 lv st M Q ↔ jx_Ev d 97 138 lv (.int 1 :: st) M Q) ∧
  (∀ (d : Nat) (lv : List (Option Value)) (st : List Value) (M : jx_M) (Q : jx_Po) (x z : Int32), jx_Ev d 97 138 lv (.int z :: .int x :: st) M Q ↔ jx_Ev d 97 139 lv (.int (x - z) :: st) M Q) ∧
  (∀ (d : Nat) (lv : List (Option Value)) (M : jx_M) (Q : jx_Po) (a0 : Int32) (a1 : Int32) (a2 : Int32) (a4 : Int32) (a5 : Nat), jx_Ev (d + 1) 97 139 lv [.int a0, .int a1, .int a2, .ref 36, .int a4, .ref a5] M Q ↔ jx_I d 91 [.ref 36, .int a2, .int a1, .int a0] M (fun x M => jx_Ev (d + 1) 97 142 lv (.int x :: [.int a4, .ref a5]) M Q)) ∧
  (∀ (d : Nat) (lv : List (Option Value)) (st : List Value) (M : jx_M) (Q : jx_Po) (x z : Int32) (a : Nat) (ha : jx_cl a = 9), jx_Ev d 97 142 lv (.int z :: .int x :: .ref a :: st) M Q ↔ (vp_in x (jx_sz a) ∧ jx_Ev d 97 143 lv st (jx_up M a x.toNatClampNeg z) Q)) ∧
  (∀ (d : Nat) (st : List Value) (M : jx_M) (Q : jx_Po) (l1 l2 : Option Value) (x : Nat), jx_Ev d 97 143 [some (.ref x), l1, l2] st M Q ↔ jx_Ev d 97 144 [some (.ref x), l1, l2] (.ref x :: st) M Q) ∧
  (∀ (d : Nat) (lv : List (Option Value)) (st : List Value) (M : jx_M) (Q : jx_Po) (x : Nat), jx_Ev d 97 144 lv (.ref x :: st) M Q ↔ jx_Ev d 97 145 lv (.ref x :: .ref x :: st) M Q) ∧
  (∀ (d : Nat) (lv : List (Option Value)) (st : List Value) (M : jx_M) (Q : jx_Po), jx_Ev d 97 145 lv (.ref 36 :: st) M Q ↔ jx_Ev d 97 148 lv (.int (M 36 18) :: st) M Q) ∧
  (∀ (d : Nat) (lv : List (Option Value)) (st : List Value) (M : jx_M) (Q : jx_Po), jx_Ev d 97 148 lv st M Q ↔ jx_Ev d 97 149 lv (.int 1 :: st) M Q) ∧
  (∀ (d : Nat) (lv : List (Option Value)) (st : List Value) (M : jx_M) (Q : jx_Po) (x z : Int32), jx_Ev d 97 149 lv (.int z :: .int x :: st) M Q ↔ jx_Ev d 97 150 lv (.int (x + z) :: st) M Q) ∧
  (∀ (d : Nat) (lv : List (Option Value)) (st : List Value) (M : jx_M) (Q : jx_Po) (x : Int32), jx_Ev d 97 150 lv (.int x :: .ref 36 :: st) M Q ↔ jx_Ev d 97 153 lv st (jx_up M 36 18 x) Q) ∧
  (∀ (d : Nat) (st : List Value) (M : jx_M) (Q : jx_Po) (l1 l2 : Option Value) (x : Nat), jx_Ev d 97 153 [some (.ref x), l1, l2] st M Q ↔ jx_Ev d 97 154 [some (.ref x), l1, l2] (.ref x :: st) M Q) ∧
  (∀ (d : Nat) (lv : List (Option Value)) (st : List Value) (M : jx_M) (Q : jx_Po), jx_Ev d 97 154 lv (.ref 36 :: st) M Q ↔ jx_Ev d 97 157 lv (.ref 49 :: st) M Q) ∧
  (∀ (d : Nat) (st : List Value) (M : jx_M) (Q : jx_Po) (l1 l2 : Option Value) (x : Nat), jx_Ev d 97 157 [some (.ref x), l1, l2] st M Q ↔ jx_Ev d 97 158 [some (.ref x), l1, l2] (.ref x :: st) M Q) ∧
  (∀ (d : Nat) (lv : List (Option Value)) (st : List Value) (M : jx_M) (Q : jx_Po), jx_Ev d 97 158 lv (.ref 36 :: st) M Q ↔ jx_Ev d 97 161 lv (.int (M 36 18) :: st) M Q) ∧
  (∀ (d : Nat) (lv : List (Option Value)) (st : List Value) (M : jx_M) (Q : jx_Po), jx_Ev d 97 161 lv st M Q ↔ jx_Ev d 97 162 lv (.int 1 :: st) M Q) ∧
  (∀ (d : Nat) (lv : List (Option Value)) (st : List Value) (M : jx_M) (Q : jx_Po) (x z : Int32), jx_Ev d 97 162 lv (.int z :: .int x :: st) M Q ↔ jx_Ev d 97 163 lv (.int (x - z) :: st) M Q) ∧
  (∀ (d : Nat) (lv : List (Option Value)) (st : List Value) (M : jx_M) (Q : jx_Po) (x : Int32) (a : Nat) (ha : jx_cl a = 9), jx_Ev d 97 163 lv (.int x :: .ref a :: st) M Q ↔ (vp_in x (jx_sz a) ∧ jx_Ev d 97 164 lv (.int (M a x.toNatClampNeg) :: st) M Q)) ∧
  (∀ (d : Nat) (lv : List (Option Value)) (st : List Value) (M : jx_M) (Q : jx_Po), jx_Ev d 97 164 lv st M Q ↔ jx_Ev d 97 166 lv (.int (-9) :: st) M Q) ∧
  (∀ (d : Nat) (lv : List (Option Value)) (st : List Value) (M : jx_M) (Q : jx_Po) (x z : Int32), jx_Ev d 97 166 lv (.int z :: .int x :: st) M Q ↔ (if x = z then jx_Ev d 97 173 lv st M Q else jx_Ev d 97 169 lv st M Q)) ∧
  (∀ (d : Nat) (lv : List (Option Value)) (st : List Value) (M : jx_M) (Q : jx_Po), jx_Ev d 97 169 lv st M Q ↔ jx_Ev d 97 170 lv (.int 1 :: st) M Q) ∧
  (∀ (d : Nat) (lv : List (Option Value)) (st : List Value) (M : jx_M) (Q : jx_Po), jx_Ev d 97 170 lv st M Q ↔ jx_Ev d 97 174 lv st M Q) ∧
  (∀ (d : Nat) (lv : List (Option Value)) (st : List Value) (M : jx_M) (Q : jx_Po), jx_Ev d 97 173 lv st M Q ↔ jx_Ev d 97 174 lv (.int 0 :: st) M Q) ∧
  (∀ (d : Nat) (lv : List (Option Value)) (M : jx_M) (Q : jx_Po) (x : Int32), jx_Ev d 97 174 lv [.int x] M Q ↔ ((x = 0 ∨ x = 1) ∧ Q [.int x] M)) := by
  refine ⟨?_, ?_, ?_, ?_, ?_, ?_, ?_, ?_, ?_, ?_, ?_, ?_, ?_, ?_, ?_, ?_, ?_, ?_, ?_, ?_, ?_, ?_, ?_, ?_, ?_, ?_, ?_, ?_, ?_, ?_, ?_, ?_, ?_, ?_, ?_, ?_, ?_, ?_, ?_, ?_, ?_, ?_, ?_, ?_, ?_, ?_, ?_, ?_, ?_, ?_, ?_, ?_, ?_, ?_, ?_, ?_, ?_, ?_, ?_, ?_, ?_, ?_, ?_, ?_, ?_, ?_, ?_, ?_, ?_, ?_, ?_, ?_, ?_, ?_, ?_, ?_, ?_, ?_, ?_, ?_, ?_, ?_, ?_, ?_, ?_, ?_, ?_, ?_, ?_, ?_, ?_, ?_, ?_, ?_, ?_, ?_, ?_, ?_, ?_⟩
  · exact fun d st M Q l1 l2 x => jx_ev_st (jx_fok (by decide +kernel : decode (jx_mb 97) 0 = .ok (.aload_n 0, 1))) rfl rfl rfl
  · exact fun d lv st M Q => jx_k_gf (jx_fok (by decide +kernel : decode (jx_mb 97) 1 = .ok (.getfield 83, 3))) rfl rfl rfl
  · exact fun d st M Q l0 l2 x => jx_ev_st (jx_fok (by decide +kernel : decode (jx_mb 97) 4 = .ok (.iload_n 1, 1))) rfl rfl rfl
  · exact fun d lv st M Q x z => jx_k_b2 (jx_fok (by decide +kernel : decode (jx_mb 97) 5 = .ok (.if_icmp .ge 15, 3))) rfl jx_hGe
  · exact fun d st M Q l1 l2 x => jx_ev_st (jx_fok (by decide +kernel : decode (jx_mb 97) 8 = .ok (.aload_n 0, 1))) rfl rfl rfl
  · exact fun d lv st M Q => jx_k_gf (jx_fok (by decide +kernel : decode (jx_mb 97) 9 = .ok (.getfield 16, 3))) rfl rfl rfl
  · exact fun d st M Q l1 l2 x => jx_ev_st (jx_fok (by decide +kernel : decode (jx_mb 97) 12 = .ok (.aload_n 0, 1))) rfl rfl rfl
  · exact fun d lv st M Q => jx_k_gf (jx_fok (by decide +kernel : decode (jx_mb 97) 13 = .ok (.getfield 83, 3))) rfl rfl rfl
  · exact fun d lv st M Q x a ha => jx_k_al (jx_fok (by decide +kernel : decode (jx_mb 97) 16 = .ok (.iaload, 1))) ha
  · exact fun d lv st M Q => jx_k_goto (jx_fok (by decide +kernel : decode (jx_mb 97) 17 = .ok (.goto 4, 3))) rfl
  · exact fun d lv st M Q => jx_ev_st (jx_fok (by decide +kernel : decode (jx_mb 97) 20 = .ok (.iconst 0, 1))) rfl rfl rfl
  · exact fun d st M Q l0 l1 l2 x => jx_ev_st (jx_fok (by decide +kernel : decode (jx_mb 97) 21 = .ok (.istore_n 2, 1))) rfl rfl rfl
  · exact fun d st M Q l1 l2 x => jx_ev_st (jx_fok (by decide +kernel : decode (jx_mb 97) 22 = .ok (.aload_n 0, 1))) rfl rfl rfl
  · exact fun d lv st M Q => jx_k_gf (jx_fok (by decide +kernel : decode (jx_mb 97) 23 = .ok (.getfield 40, 3))) rfl rfl rfl
  · exact fun d st M Q l1 l2 x => jx_ev_st (jx_fok (by decide +kernel : decode (jx_mb 97) 26 = .ok (.aload_n 0, 1))) rfl rfl rfl
  · exact fun d lv st M Q => jx_k_gf (jx_fok (by decide +kernel : decode (jx_mb 97) 27 = .ok (.getfield 122, 3))) rfl rfl rfl
  · exact fun d st M Q l0 l1 x => jx_ev_st (jx_fok (by decide +kernel : decode (jx_mb 97) 30 = .ok (.iload_n 2, 1))) rfl rfl rfl
  · exact fun d lv st M Q => jx_ev_st (jx_fok (by decide +kernel : decode (jx_mb 97) 31 = .ok (.bipush 99, 2))) rfl rfl rfl
  · exact fun d lv st M Q x z => jx_k_b2n (jx_fok (by decide +kernel : decode (jx_mb 97) 33 = .ok (.if_icmp .ne 7, 3))) rfl jx_hNe
  · exact fun d lv st M Q => jx_ev_st (jx_fok (by decide +kernel : decode (jx_mb 97) 36 = .ok (.iconst 0, 1))) rfl rfl rfl
  · exact fun d lv st M Q => jx_k_goto (jx_fok (by decide +kernel : decode (jx_mb 97) 37 = .ok (.goto 25, 3))) rfl
  · exact fun d st M Q l0 l1 x => jx_ev_st (jx_fok (by decide +kernel : decode (jx_mb 97) 40 = .ok (.iload_n 2, 1))) rfl rfl rfl
  · exact fun d lv st M Q => jx_ev_st (jx_fok (by decide +kernel : decode (jx_mb 97) 41 = .ok (.bipush 100, 2))) rfl rfl rfl
  · exact fun d lv st M Q x z => jx_k_b2n (jx_fok (by decide +kernel : decode (jx_mb 97) 43 = .ok (.if_icmp .ne 7, 3))) rfl jx_hNe
  · exact fun d lv st M Q => jx_ev_st (jx_fok (by decide +kernel : decode (jx_mb 97) 46 = .ok (.iconst 1, 1))) rfl rfl rfl
  · exact fun d lv st M Q => jx_k_goto (jx_fok (by decide +kernel : decode (jx_mb 97) 47 = .ok (.goto 15, 3))) rfl
  · exact fun d st M Q l0 l1 x => jx_ev_st (jx_fok (by decide +kernel : decode (jx_mb 97) 50 = .ok (.iload_n 2, 1))) rfl rfl rfl
  · exact fun d lv st M Q => jx_ev_st (jx_fok (by decide +kernel : decode (jx_mb 97) 51 = .ok (.bipush 98, 2))) rfl rfl rfl
  · exact fun d lv st M Q x z => jx_k_b2n (jx_fok (by decide +kernel : decode (jx_mb 97) 53 = .ok (.if_icmp .ne 7, 3))) rfl jx_hNe
  · exact fun d lv st M Q => jx_ev_st (jx_fok (by decide +kernel : decode (jx_mb 97) 56 = .ok (.iconst 2, 1))) rfl rfl rfl
  · exact fun d lv st M Q => jx_k_goto (jx_fok (by decide +kernel : decode (jx_mb 97) 57 = .ok (.goto 5, 3))) rfl
  · exact fun d lv st M Q => jx_ev_st (jx_fok (by decide +kernel : decode (jx_mb 97) 60 = .ok (.bipush (-9), 2))) rfl rfl rfl
  · exact fun d lv st M Q x z a ha => jx_k_as (jx_fok (by decide +kernel : decode (jx_mb 97) 62 = .ok (.iastore, 1))) ha
  · exact fun d st M Q l1 l2 x => jx_ev_st (jx_fok (by decide +kernel : decode (jx_mb 97) 63 = .ok (.aload_n 0, 1))) rfl rfl rfl
  · exact fun d lv st M Q => jx_k_gf (jx_fok (by decide +kernel : decode (jx_mb 97) 64 = .ok (.getfield 40, 3))) rfl rfl rfl
  · exact fun d st M Q l1 l2 x => jx_ev_st (jx_fok (by decide +kernel : decode (jx_mb 97) 67 = .ok (.aload_n 0, 1))) rfl rfl rfl
  · exact fun d lv st M Q => jx_k_gf (jx_fok (by decide +kernel : decode (jx_mb 97) 68 = .ok (.getfield 122, 3))) rfl rfl rfl
  · exact fun d lv st M Q x a ha => jx_k_al (jx_fok (by decide +kernel : decode (jx_mb 97) 71 = .ok (.iaload, 1))) ha
  · exact fun d lv st M Q => jx_ev_st (jx_fok (by decide +kernel : decode (jx_mb 97) 72 = .ok (.bipush (-9), 2))) rfl rfl rfl
  · exact fun d lv st M Q x z => jx_k_b2n (jx_fok (by decide +kernel : decode (jx_mb 97) 74 = .ok (.if_icmp .ne 5, 3))) rfl jx_hNe
  · exact fun d lv st M Q => jx_ev_st (jx_fok (by decide +kernel : decode (jx_mb 97) 77 = .ok (.iconst 0, 1))) rfl rfl rfl
  · exact fun d lv M Q x => jx_k_rz (jx_fok (by decide +kernel : decode (jx_mb 97) 78 = .ok (.ireturn, 1))) rfl
  · exact fun d st M Q l1 l2 x => jx_ev_st (jx_fok (by decide +kernel : decode (jx_mb 97) 79 = .ok (.aload_n 0, 1))) rfl rfl rfl
  · exact fun d lv st M Q x => jx_ev_st (jx_fok (by decide +kernel : decode (jx_mb 97) 80 = .ok (.dup, 1))) rfl rfl rfl
  · exact fun d lv st M Q => jx_k_gf (jx_fok (by decide +kernel : decode (jx_mb 97) 81 = .ok (.getfield 83, 3))) rfl rfl rfl
  · exact fun d lv st M Q => jx_ev_st (jx_fok (by decide +kernel : decode (jx_mb 97) 84 = .ok (.iconst 1, 1))) rfl rfl rfl
  · exact fun d lv st M Q x z => jx_ev_st (jx_fok (by decide +kernel : decode (jx_mb 97) 85 = .ok (.iadd, 1))) rfl rfl rfl
  · exact fun d lv st M Q x => jx_k_pf0 (jx_fok (by decide +kernel : decode (jx_mb 97) 86 = .ok (.putfield 83, 3))) rfl rfl rfl
  · exact fun d st M Q l1 l2 x => jx_ev_st (jx_fok (by decide +kernel : decode (jx_mb 97) 89 = .ok (.aload_n 0, 1))) rfl rfl rfl
  · exact fun d lv st M Q => jx_k_gf (jx_fok (by decide +kernel : decode (jx_mb 97) 90 = .ok (.getfield 43, 3))) rfl rfl rfl
  · exact fun d st M Q l1 l2 x => jx_ev_st (jx_fok (by decide +kernel : decode (jx_mb 97) 93 = .ok (.aload_n 0, 1))) rfl rfl rfl
  · exact fun d lv st M Q => jx_k_gf (jx_fok (by decide +kernel : decode (jx_mb 97) 94 = .ok (.getfield 122, 3))) rfl rfl rfl
  · exact fun d st M Q l1 l2 x => jx_ev_st (jx_fok (by decide +kernel : decode (jx_mb 97) 97 = .ok (.aload_n 0, 1))) rfl rfl rfl
  · exact fun d st M Q l0 l2 x => jx_ev_st (jx_fok (by decide +kernel : decode (jx_mb 97) 98 = .ok (.iload_n 1, 1))) rfl rfl rfl
  · exact fun d lv st M Q => jx_ev_st (jx_fok (by decide +kernel : decode (jx_mb 97) 99 = .ok (.iconst 1, 1))) rfl rfl rfl
  · exact fun d lv st M Q => jx_ev_st (jx_fok (by decide +kernel : decode (jx_mb 97) 100 = .ok (.bipush 9, 2))) rfl rfl rfl
  · exact fun d lv M Q a0 a1 a2 a4 a5 => jx_ev_ci (jx_fok (by decide +kernel : decode (jx_mb 97) 102 = .ok (.invokevirtual 132, 3))) rfl (jx_ccV (As := [.int a2, .int a1, .int a0]) (rest := [.int a4, .ref a5]) rfl rfl rfl rfl rfl rfl) (by decide)
  · exact fun d lv st M Q x z a ha => jx_k_as (jx_fok (by decide +kernel : decode (jx_mb 97) 105 = .ok (.iastore, 1))) ha
  · exact fun d st M Q l1 l2 x => jx_ev_st (jx_fok (by decide +kernel : decode (jx_mb 97) 106 = .ok (.aload_n 0, 1))) rfl rfl rfl
  · exact fun d lv st M Q => jx_k_gf (jx_fok (by decide +kernel : decode (jx_mb 97) 107 = .ok (.getfield 43, 3))) rfl rfl rfl
  · exact fun d st M Q l1 l2 x => jx_ev_st (jx_fok (by decide +kernel : decode (jx_mb 97) 110 = .ok (.aload_n 0, 1))) rfl rfl rfl
  · exact fun d lv st M Q => jx_k_gf (jx_fok (by decide +kernel : decode (jx_mb 97) 111 = .ok (.getfield 122, 3))) rfl rfl rfl
  · exact fun d lv st M Q x a ha => jx_k_al (jx_fok (by decide +kernel : decode (jx_mb 97) 114 = .ok (.iaload, 1))) ha
  · exact fun d lv st M Q => jx_ev_st (jx_fok (by decide +kernel : decode (jx_mb 97) 115 = .ok (.bipush (-9), 2))) rfl rfl rfl
  · exact fun d lv st M Q x z => jx_k_b2n (jx_fok (by decide +kernel : decode (jx_mb 97) 117 = .ok (.if_icmp .ne 5, 3))) rfl jx_hNe
  · exact fun d lv st M Q => jx_ev_st (jx_fok (by decide +kernel : decode (jx_mb 97) 120 = .ok (.iconst 0, 1))) rfl rfl rfl
  · exact fun d lv M Q x => jx_k_rz (jx_fok (by decide +kernel : decode (jx_mb 97) 121 = .ok (.ireturn, 1))) rfl
  · exact fun d st M Q l1 l2 x => jx_ev_st (jx_fok (by decide +kernel : decode (jx_mb 97) 122 = .ok (.aload_n 0, 1))) rfl rfl rfl
  · exact fun d lv st M Q => jx_k_gf (jx_fok (by decide +kernel : decode (jx_mb 97) 123 = .ok (.getfield 46, 3))) rfl rfl rfl
  · exact fun d st M Q l1 l2 x => jx_ev_st (jx_fok (by decide +kernel : decode (jx_mb 97) 126 = .ok (.aload_n 0, 1))) rfl rfl rfl
  · exact fun d lv st M Q => jx_k_gf (jx_fok (by decide +kernel : decode (jx_mb 97) 127 = .ok (.getfield 122, 3))) rfl rfl rfl
  · exact fun d st M Q l1 l2 x => jx_ev_st (jx_fok (by decide +kernel : decode (jx_mb 97) 130 = .ok (.aload_n 0, 1))) rfl rfl rfl
  · exact fun d st M Q l0 l2 x => jx_ev_st (jx_fok (by decide +kernel : decode (jx_mb 97) 131 = .ok (.iload_n 1, 1))) rfl rfl rfl
  · exact fun d lv st M Q => jx_ev_st (jx_fok (by decide +kernel : decode (jx_mb 97) 132 = .ok (.iconst 0, 1))) rfl rfl rfl
  · exact fun d st M Q l1 l2 x => jx_ev_st (jx_fok (by decide +kernel : decode (jx_mb 97) 133 = .ok (.aload_n 0, 1))) rfl rfl rfl
  · exact fun d lv st M Q => jx_k_gf (jx_fok (by decide +kernel : decode (jx_mb 97) 134 = .ok (.getfield 119, 3))) rfl rfl rfl
  · exact fun d lv st M Q => jx_ev_st (jx_fok (by decide +kernel : decode (jx_mb 97) 137 = .ok (.iconst 1, 1))) rfl rfl rfl
  · exact fun d lv st M Q x z => jx_ev_st (jx_fok (by decide +kernel : decode (jx_mb 97) 138 = .ok (.isub, 1))) rfl rfl rfl
  · exact fun d lv M Q a0 a1 a2 a4 a5 => jx_ev_ci (jx_fok (by decide +kernel : decode (jx_mb 97) 139 = .ok (.invokevirtual 132, 3))) rfl (jx_ccV (As := [.int a2, .int a1, .int a0]) (rest := [.int a4, .ref a5]) rfl rfl rfl rfl rfl rfl) (by decide)
  · exact fun d lv st M Q x z a ha => jx_k_as (jx_fok (by decide +kernel : decode (jx_mb 97) 142 = .ok (.iastore, 1))) ha
  · exact fun d st M Q l1 l2 x => jx_ev_st (jx_fok (by decide +kernel : decode (jx_mb 97) 143 = .ok (.aload_n 0, 1))) rfl rfl rfl
  · exact fun d lv st M Q x => jx_ev_st (jx_fok (by decide +kernel : decode (jx_mb 97) 144 = .ok (.dup, 1))) rfl rfl rfl
  · exact fun d lv st M Q => jx_k_gf (jx_fok (by decide +kernel : decode (jx_mb 97) 145 = .ok (.getfield 122, 3))) rfl rfl rfl
  · exact fun d lv st M Q => jx_ev_st (jx_fok (by decide +kernel : decode (jx_mb 97) 148 = .ok (.iconst 1, 1))) rfl rfl rfl
  · exact fun d lv st M Q x z => jx_ev_st (jx_fok (by decide +kernel : decode (jx_mb 97) 149 = .ok (.iadd, 1))) rfl rfl rfl
  · exact fun d lv st M Q x => jx_k_pf0 (jx_fok (by decide +kernel : decode (jx_mb 97) 150 = .ok (.putfield 122, 3))) rfl rfl rfl
  · exact fun d st M Q l1 l2 x => jx_ev_st (jx_fok (by decide +kernel : decode (jx_mb 97) 153 = .ok (.aload_n 0, 1))) rfl rfl rfl
  · exact fun d lv st M Q => jx_k_gf (jx_fok (by decide +kernel : decode (jx_mb 97) 154 = .ok (.getfield 46, 3))) rfl rfl rfl
  · exact fun d st M Q l1 l2 x => jx_ev_st (jx_fok (by decide +kernel : decode (jx_mb 97) 157 = .ok (.aload_n 0, 1))) rfl rfl rfl
  · exact fun d lv st M Q => jx_k_gf (jx_fok (by decide +kernel : decode (jx_mb 97) 158 = .ok (.getfield 122, 3))) rfl rfl rfl
  · exact fun d lv st M Q => jx_ev_st (jx_fok (by decide +kernel : decode (jx_mb 97) 161 = .ok (.iconst 1, 1))) rfl rfl rfl
  · exact fun d lv st M Q x z => jx_ev_st (jx_fok (by decide +kernel : decode (jx_mb 97) 162 = .ok (.isub, 1))) rfl rfl rfl
  · exact fun d lv st M Q x a ha => jx_k_al (jx_fok (by decide +kernel : decode (jx_mb 97) 163 = .ok (.iaload, 1))) ha
  · exact fun d lv st M Q => jx_ev_st (jx_fok (by decide +kernel : decode (jx_mb 97) 164 = .ok (.bipush (-9), 2))) rfl rfl rfl
  · exact fun d lv st M Q x z => jx_k_b2 (jx_fok (by decide +kernel : decode (jx_mb 97) 166 = .ok (.if_icmp .eq 7, 3))) rfl jx_hEq
  · exact fun d lv st M Q => jx_ev_st (jx_fok (by decide +kernel : decode (jx_mb 97) 169 = .ok (.iconst 1, 1))) rfl rfl rfl
  · exact fun d lv st M Q => jx_k_goto (jx_fok (by decide +kernel : decode (jx_mb 97) 170 = .ok (.goto 4, 3))) rfl
  · exact fun d lv st M Q => jx_ev_st (jx_fok (by decide +kernel : decode (jx_mb 97) 173 = .ok (.iconst 0, 1))) rfl rfl rfl
  · exact fun d lv M Q x => jx_k_rz (jx_fok (by decide +kernel : decode (jx_mb 97) 174 = .ok (.ireturn, 1))) rfl
theorem kX8_readClap (d : Nat) (M : jx_M) (q : Int32 → jx_M → Prop) (a0 a1 : Value) : jx_I d 97 [a0, a1] M q ↔ jx_Ev d 97 0 [some a0, some a1, none] [] M (jx_qI q) := Iff.rfl
set_option maxRecDepth 100000 in
theorem eX8_clapsOf :
  (∀ (d : Nat) (lv : List (Option Value)) (st : List Value) (M : jx_M) (Q : jx_Po), jx_Ev d 98 0 lv st M Q ↔ jx_Ev d 98 1 lv (.int 0 :: st) M Q) ∧
  (∀ (d : Nat) (st : List Value) (M : jx_M) (Q : jx_Po) (l0 l1 l2 l3 : Option Value) (x : Int32), jx_Ev d 98 1 [l0, l1, l2, l3] (.int x :: st) M Q ↔ jx_Ev d 98 2 [l0, l1, some (.int x), l3] st M Q) ∧
  (∀ (d : Nat) (lv : List (Option Value)) (st : List Value) (M : jx_M) (Q : jx_Po), jx_Ev d 98 2 lv st M Q ↔ jx_Ev d 98 3 lv (.int 0 :: st) M Q) ∧
  (∀ (d : Nat) (st : List Value) (M : jx_M) (Q : jx_Po) (l0 l1 l2 l3 : Option Value) (x : Int32), jx_Ev d 98 3 [l0, l1, l2, l3] (.int x :: st) M Q ↔ jx_Ev d 98 4 [l0, l1, l2, some (.int x)] st M Q) ∧
  (∀ (d : Nat) (st : List Value) (M : jx_M) (Q : jx_Po) (l1 l2 l3 : Option Value) (x : Nat), jx_Ev d 98 5 [some (.ref x), l1, l2, l3] st M Q ↔ jx_Ev d 98 6 [some (.ref x), l1, l2, l3] (.ref x :: st) M Q) ∧
  (∀ (d : Nat) (lv : List (Option Value)) (st : List Value) (M : jx_M) (Q : jx_Po), jx_Ev d 98 6 lv (.ref 36 :: st) M Q ↔ jx_Ev d 98 9 lv (.int (M 36 6) :: st) M Q) ∧
  (∀ (d : Nat) (lv : List (Option Value)) (st : List Value) (M : jx_M) (Q : jx_Po) (x z : Int32), jx_Ev d 98 9 lv (.int z :: .int x :: st) M Q ↔ (if z ≤ x then jx_Ev d 98 38 lv st M Q else jx_Ev d 98 12 lv st M Q)) ∧
  (∀ (d : Nat) (st : List Value) (M : jx_M) (Q : jx_Po) (l0 l1 l3 : Option Value) (x : Int32), jx_Ev d 98 12 [l0, l1, some (.int x), l3] st M Q ↔ jx_Ev d 98 13 [l0, l1, some (.int x), l3] (.int x :: st) M Q) ∧
  (∀ (d : Nat) (st : List Value) (M : jx_M) (Q : jx_Po) (l1 l2 l3 : Option Value) (x : Nat), jx_Ev d 98 13 [some (.ref x), l1, l2, l3] st M Q ↔ jx_Ev d 98 14 [some (.ref x), l1, l2, l3] (.ref x :: st) M Q) ∧
  (∀ (d : Nat) (lv : List (Option Value)) (st : List Value) (M : jx_M) (Q : jx_Po), jx_Ev d 98 14 lv (.ref 36 :: st) M Q ↔ jx_Ev d 98 17 lv (.ref 44 :: st) M Q) ∧
  (∀ (d : Nat) (st : List Value) (M : jx_M) (Q : jx_Po) (l0 l1 l2 : Option Value) (x : Int32), jx_Ev d 98 17 [l0, l1, l2, some (.int x)] st M Q ↔ jx_Ev d 98 18 [l0, l1, l2, some (.int x)] (.int x :: st) M Q) ∧
  (∀ (d : Nat) (lv : List (Option Value)) (st : List Value) (M : jx_M) (Q : jx_Po) (x : Int32) (a : Nat) (ha : jx_cl a = 9), jx_Ev d 98 18 lv (.int x :: .ref a :: st) M Q ↔ (vp_in x (jx_sz a) ∧ jx_Ev d 98 19 lv (.int (M a x.toNatClampNeg) :: st) M Q)) ∧
  (∀ (d : Nat) (st : List Value) (M : jx_M) (Q : jx_Po) (l0 l2 l3 : Option Value) (x : Int32), jx_Ev d 98 19 [l0, some (.int x), l2, l3] st M Q ↔ jx_Ev d 98 20 [l0, some (.int x), l2, l3] (.int x :: st) M Q) ∧
  (∀ (d : Nat) (lv : List (Option Value)) (st : List Value) (M : jx_M) (Q : jx_Po) (x z : Int32), jx_Ev d 98 20 lv (.int z :: .int x :: st) M Q ↔ (if x = z then jx_Ev d 98 23 lv st M Q else jx_Ev d 98 29 lv st M Q)) ∧
  (∀ (d : Nat) (lv : List (Option Value)) (st : List Value) (M : jx_M) (Q : jx_Po), jx_Ev d 98 23 lv st M Q ↔ jx_Ev d 98 24 lv (.int 1 :: st) M Q) ∧
  (∀ (d : Nat) (st : List Value) (M : jx_M) (Q : jx_Po) (l0 l1 l2 : Option Value) (x : Int32), jx_Ev d 98 24 [l0, l1, l2, some (.int x)] st M Q ↔ jx_Ev d 98 25 [l0, l1, l2, some (.int x)] (.int x :: st) M Q) ∧
  (∀ (d : Nat) (lv : List (Option Value)) (st : List Value) (M : jx_M) (Q : jx_Po) (x z : Int32), jx_Ev d 98 25 lv (.int z :: .int x :: st) M Q ↔ jx_Ev d 98 26 lv (.int (x <<< (z &&& 31)) :: st) M Q) ∧
  (∀ (d : Nat) (lv : List (Option Value)) (st : List Value) (M : jx_M) (Q : jx_Po), jx_Ev d 98 26 lv st M Q ↔ jx_Ev d 98 30 lv st M Q) ∧
  (∀ (d : Nat) (lv : List (Option Value)) (st : List Value) (M : jx_M) (Q : jx_Po), jx_Ev d 98 29 lv st M Q ↔ jx_Ev d 98 30 lv (.int 0 :: st) M Q) ∧
  (∀ (d : Nat) (lv : List (Option Value)) (st : List Value) (M : jx_M) (Q : jx_Po) (x z : Int32), jx_Ev d 98 30 lv (.int z :: .int x :: st) M Q ↔ jx_Ev d 98 31 lv (.int (x ||| z) :: st) M Q) ∧
  (∀ (d : Nat) (st : List Value) (M : jx_M) (Q : jx_Po) (l0 l1 l2 l3 : Option Value) (x : Int32), jx_Ev d 98 31 [l0, l1, l2, l3] (.int x :: st) M Q ↔ jx_Ev d 98 32 [l0, l1, some (.int x), l3] st M Q) ∧
  (∀ (d : Nat) (st : List Value) (M : jx_M) (Q : jx_Po) (l0 l1 l2 : Option Value) (x : Int32), jx_Ev d 98 32 [l0, l1, l2, some (.int x)] st M Q ↔ jx_Ev d 98 35 [l0, l1, l2, some (.int (x + 1))] st M Q) ∧
  (∀ (d : Nat) (lv : List (Option Value)) (st : List Value) (M : jx_M) (Q : jx_Po), jx_Ev d 98 35 lv st M Q ↔ jx_Ev d 98 4 lv st M Q) ∧
  (∀ (d : Nat) (st : List Value) (M : jx_M) (Q : jx_Po) (l0 l1 l3 : Option Value) (x : Int32), jx_Ev d 98 38 [l0, l1, some (.int x), l3] st M Q ↔ jx_Ev d 98 39 [l0, l1, some (.int x), l3] (.int x :: st) M Q) ∧
  (∀ (d : Nat) (lv : List (Option Value)) (M : jx_M) (Q : jx_Po) (x : Int32), jx_Ev d 98 39 lv [.int x] M Q ↔ Q [.int x] M) := by
  refine ⟨?_, ?_, ?_, ?_, ?_, ?_, ?_, ?_, ?_, ?_, ?_, ?_, ?_, ?_, ?_, ?_, ?_, ?_, ?_, ?_, ?_, ?_, ?_, ?_, ?_⟩
  · exact fun d lv st M Q => jx_ev_st (jx_fok (by decide +kernel : decode (jx_mb 98) 0 = .ok (.iconst 0, 1))) rfl rfl rfl
  · exact fun d st M Q l0 l1 l2 l3 x => jx_ev_st (jx_fok (by decide +kernel : decode (jx_mb 98) 1 = .ok (.istore_n 2, 1))) rfl rfl rfl
  · exact fun d lv st M Q => jx_ev_st (jx_fok (by decide +kernel : decode (jx_mb 98) 2 = .ok (.iconst 0, 1))) rfl rfl rfl
  · exact fun d st M Q l0 l1 l2 l3 x => jx_ev_st (jx_fok (by decide +kernel : decode (jx_mb 98) 3 = .ok (.istore_n 3, 1))) rfl rfl rfl
  · exact fun d st M Q l1 l2 l3 x => jx_ev_st (jx_fok (by decide +kernel : decode (jx_mb 98) 5 = .ok (.aload_n 0, 1))) rfl rfl rfl
  · exact fun d lv st M Q => jx_k_gf (jx_fok (by decide +kernel : decode (jx_mb 98) 6 = .ok (.getfield 80, 3))) rfl rfl rfl
  · exact fun d lv st M Q x z => jx_k_b2 (jx_fok (by decide +kernel : decode (jx_mb 98) 9 = .ok (.if_icmp .ge 29, 3))) rfl jx_hGe
  · exact fun d st M Q l0 l1 l3 x => jx_ev_st (jx_fok (by decide +kernel : decode (jx_mb 98) 12 = .ok (.iload_n 2, 1))) rfl rfl rfl
  · exact fun d st M Q l1 l2 l3 x => jx_ev_st (jx_fok (by decide +kernel : decode (jx_mb 98) 13 = .ok (.aload_n 0, 1))) rfl rfl rfl
  · exact fun d lv st M Q => jx_k_gf (jx_fok (by decide +kernel : decode (jx_mb 98) 14 = .ok (.getfield 31, 3))) rfl rfl rfl
  · exact fun d st M Q l0 l1 l2 x => jx_ev_st (jx_fok (by decide +kernel : decode (jx_mb 98) 17 = .ok (.iload_n 3, 1))) rfl rfl rfl
  · exact fun d lv st M Q x a ha => jx_k_al (jx_fok (by decide +kernel : decode (jx_mb 98) 18 = .ok (.iaload, 1))) ha
  · exact fun d st M Q l0 l2 l3 x => jx_ev_st (jx_fok (by decide +kernel : decode (jx_mb 98) 19 = .ok (.iload_n 1, 1))) rfl rfl rfl
  · exact fun d lv st M Q x z => jx_k_b2n (jx_fok (by decide +kernel : decode (jx_mb 98) 20 = .ok (.if_icmp .ne 9, 3))) rfl jx_hNe
  · exact fun d lv st M Q => jx_ev_st (jx_fok (by decide +kernel : decode (jx_mb 98) 23 = .ok (.iconst 1, 1))) rfl rfl rfl
  · exact fun d st M Q l0 l1 l2 x => jx_ev_st (jx_fok (by decide +kernel : decode (jx_mb 98) 24 = .ok (.iload_n 3, 1))) rfl rfl rfl
  · exact fun d lv st M Q x z => jx_ev_st (jx_fok (by decide +kernel : decode (jx_mb 98) 25 = .ok (.ishl, 1))) rfl rfl rfl
  · exact fun d lv st M Q => jx_k_goto (jx_fok (by decide +kernel : decode (jx_mb 98) 26 = .ok (.goto 4, 3))) rfl
  · exact fun d lv st M Q => jx_ev_st (jx_fok (by decide +kernel : decode (jx_mb 98) 29 = .ok (.iconst 0, 1))) rfl rfl rfl
  · exact fun d lv st M Q x z => jx_ev_st (jx_fok (by decide +kernel : decode (jx_mb 98) 30 = .ok (.ior, 1))) rfl rfl rfl
  · exact fun d st M Q l0 l1 l2 l3 x => jx_ev_st (jx_fok (by decide +kernel : decode (jx_mb 98) 31 = .ok (.istore_n 2, 1))) rfl rfl rfl
  · exact fun d st M Q l0 l1 l2 x => jx_ev_st (jx_fok (by decide +kernel : decode (jx_mb 98) 32 = .ok (.iinc 3 1, 3))) rfl rfl rfl
  · exact fun d lv st M Q => jx_k_goto (jx_fok (by decide +kernel : decode (jx_mb 98) 35 = .ok (.goto (-31), 3))) rfl
  · exact fun d st M Q l0 l1 l3 x => jx_ev_st (jx_fok (by decide +kernel : decode (jx_mb 98) 38 = .ok (.iload_n 2, 1))) rfl rfl rfl
  · exact fun d lv M Q x => jx_k_ri (jx_fok (by decide +kernel : decode (jx_mb 98) 39 = .ok (.ireturn, 1))) rfl
theorem eX8_clapsOf_4 (d : Nat) (st : List Value) (M : jx_M) (Q : jx_Po) (l0 l1 l2 : Option Value) (x : Int32) : jx_Ev d 98 4 [l0, l1, l2, some (.int x)] st M Q ↔ jx_Ev d 98 5 [l0, l1, l2, some (.int x)] (.int x :: st) M Q := jx_ev_st (jx_fok (by decide +kernel : decode (jx_mb 98) 4 = .ok (.iload_n 3, 1))) rfl rfl rfl
theorem kX8_clapsOf (d : Nat) (M : jx_M) (q : Int32 → jx_M → Prop) (a0 a1 : Value) : jx_I d 98 [a0, a1] M q ↔ jx_Ev d 98 0 [some a0, some a1, none, none] [] M (jx_qI q) := Iff.rfl
set_option maxRecDepth 100000 in
theorem eX8_ofPerson :
  (∀ (d : Nat) (st : List Value) (M : jx_M) (Q : jx_Po) (l1 l2 : Option Value) (x : Nat), jx_Ev d 99 0 [some (.ref x), l1, l2] st M Q ↔ jx_Ev d 99 1 [some (.ref x), l1, l2] (.ref x :: st) M Q) ∧
  (∀ (d : Nat) (st : List Value) (M : jx_M) (Q : jx_Po) (l0 l2 : Option Value) (x : Int32), jx_Ev d 99 1 [l0, some (.int x), l2] st M Q ↔ jx_Ev d 99 2 [l0, some (.int x), l2] (.int x :: st) M Q) ∧
  (∀ (d : Nat) (lv : List (Option Value)) (M : jx_M) (Q : jx_Po) (a0 : Int32), jx_Ev (d + 1) 99 2 lv [.int a0, .ref 36] M Q ↔ jx_I d 89 [.ref 36, .int a0] M (fun x M => jx_Ev (d + 1) 99 5 lv (.int x :: []) M Q)) ∧
  (∀ (d : Nat) (lv : List (Option Value)) (st : List Value) (M : jx_M) (Q : jx_Po) (x : Int32), jx_Ev d 99 5 lv (.int x :: st) M Q ↔ (if x = 0 then jx_Ev d 99 8 lv st M Q else jx_Ev d 99 10 lv st M Q)) ∧
  (∀ (d : Nat) (lv : List (Option Value)) (st : List Value) (M : jx_M) (Q : jx_Po), jx_Ev d 99 8 lv st M Q ↔ jx_Ev d 99 9 lv (.int (-1) :: st) M Q) ∧
  (∀ (d : Nat) (lv : List (Option Value)) (M : jx_M) (Q : jx_Po) (x : Int32), jx_Ev d 99 9 lv [.int x] M Q ↔ Q [.int x] M) ∧
  (∀ (d : Nat) (st : List Value) (M : jx_M) (Q : jx_Po) (l0 l1 : Option Value) (x : Int32), jx_Ev d 99 10 [l0, l1, some (.int x)] st M Q ↔ jx_Ev d 99 11 [l0, l1, some (.int x)] (.int x :: st) M Q) ∧
  (∀ (d : Nat) (lv : List (Option Value)) (st : List Value) (M : jx_M) (Q : jx_Po) (x : Int32), jx_Ev d 99 11 lv (.int x :: st) M Q ↔ (if x = 0 then jx_Ev d 99 14 lv st M Q else jx_Ev d 99 23 lv st M Q)) ∧
  (∀ (d : Nat) (st : List Value) (M : jx_M) (Q : jx_Po) (l1 l2 : Option Value) (x : Nat), jx_Ev d 99 14 [some (.ref x), l1, l2] st M Q ↔ jx_Ev d 99 15 [some (.ref x), l1, l2] (.ref x :: st) M Q) ∧
  (∀ (d : Nat) (lv : List (Option Value)) (st : List Value) (M : jx_M) (Q : jx_Po), jx_Ev d 99 15 lv (.ref 36 :: st) M Q ↔ jx_Ev d 99 18 lv (.ref 40 :: st) M Q) ∧
  (∀ (d : Nat) (st : List Value) (M : jx_M) (Q : jx_Po) (l0 l2 : Option Value) (x : Int32), jx_Ev d 99 18 [l0, some (.int x), l2] st M Q ↔ jx_Ev d 99 19 [l0, some (.int x), l2] (.int x :: st) M Q) ∧
  (∀ (d : Nat) (lv : List (Option Value)) (st : List Value) (M : jx_M) (Q : jx_Po) (x : Int32) (a : Nat) (ha : jx_cl a = 9), jx_Ev d 99 19 lv (.int x :: .ref a :: st) M Q ↔ (vp_in x (jx_sz a) ∧ jx_Ev d 99 20 lv (.int (M a x.toNatClampNeg) :: st) M Q)) ∧
  (∀ (d : Nat) (lv : List (Option Value)) (st : List Value) (M : jx_M) (Q : jx_Po), jx_Ev d 99 20 lv st M Q ↔ jx_Ev d 99 52 lv st M Q) ∧
  (∀ (d : Nat) (st : List Value) (M : jx_M) (Q : jx_Po) (l0 l1 : Option Value) (x : Int32), jx_Ev d 99 23 [l0, l1, some (.int x)] st M Q ↔ jx_Ev d 99 24 [l0, l1, some (.int x)] (.int x :: st) M Q) ∧
  (∀ (d : Nat) (lv : List (Option Value)) (st : List Value) (M : jx_M) (Q : jx_Po), jx_Ev d 99 24 lv st M Q ↔ jx_Ev d 99 25 lv (.int 1 :: st) M Q) ∧
  (∀ (d : Nat) (lv : List (Option Value)) (st : List Value) (M : jx_M) (Q : jx_Po) (x z : Int32), jx_Ev d 99 25 lv (.int z :: .int x :: st) M Q ↔ (if x = z then jx_Ev d 99 28 lv st M Q else jx_Ev d 99 37 lv st M Q)) ∧
  (∀ (d : Nat) (st : List Value) (M : jx_M) (Q : jx_Po) (l1 l2 : Option Value) (x : Nat), jx_Ev d 99 28 [some (.ref x), l1, l2] st M Q ↔ jx_Ev d 99 29 [some (.ref x), l1, l2] (.ref x :: st) M Q) ∧
  (∀ (d : Nat) (lv : List (Option Value)) (st : List Value) (M : jx_M) (Q : jx_Po), jx_Ev d 99 29 lv (.ref 36 :: st) M Q ↔ jx_Ev d 99 32 lv (.ref 41 :: st) M Q) ∧
  (∀ (d : Nat) (st : List Value) (M : jx_M) (Q : jx_Po) (l0 l2 : Option Value) (x : Int32), jx_Ev d 99 32 [l0, some (.int x), l2] st M Q ↔ jx_Ev d 99 33 [l0, some (.int x), l2] (.int x :: st) M Q) ∧
  (∀ (d : Nat) (lv : List (Option Value)) (st : List Value) (M : jx_M) (Q : jx_Po) (x : Int32) (a : Nat) (ha : jx_cl a = 9), jx_Ev d 99 33 lv (.int x :: .ref a :: st) M Q ↔ (vp_in x (jx_sz a) ∧ jx_Ev d 99 34 lv (.int (M a x.toNatClampNeg) :: st) M Q)) ∧
  (∀ (d : Nat) (lv : List (Option Value)) (st : List Value) (M : jx_M) (Q : jx_Po), jx_Ev d 99 34 lv st M Q ↔ jx_Ev d 99 52 lv st M Q) ∧
  (∀ (d : Nat) (st : List Value) (M : jx_M) (Q : jx_Po) (l0 l1 : Option Value) (x : Int32), jx_Ev d 99 37 [l0, l1, some (.int x)] st M Q ↔ jx_Ev d 99 38 [l0, l1, some (.int x)] (.int x :: st) M Q) ∧
  (∀ (d : Nat) (lv : List (Option Value)) (st : List Value) (M : jx_M) (Q : jx_Po), jx_Ev d 99 38 lv st M Q ↔ jx_Ev d 99 39 lv (.int 2 :: st) M Q) ∧
  (∀ (d : Nat) (lv : List (Option Value)) (st : List Value) (M : jx_M) (Q : jx_Po) (x z : Int32), jx_Ev d 99 39 lv (.int z :: .int x :: st) M Q ↔ (if x = z then jx_Ev d 99 42 lv st M Q else jx_Ev d 99 50 lv st M Q)) ∧
  (∀ (d : Nat) (st : List Value) (M : jx_M) (Q : jx_Po) (l1 l2 : Option Value) (x : Nat), jx_Ev d 99 42 [some (.ref x), l1, l2] st M Q ↔ jx_Ev d 99 43 [some (.ref x), l1, l2] (.ref x :: st) M Q) ∧
  (∀ (d : Nat) (st : List Value) (M : jx_M) (Q : jx_Po) (l0 l2 : Option Value) (x : Int32), jx_Ev d 99 43 [l0, some (.int x), l2] st M Q ↔ jx_Ev d 99 44 [l0, some (.int x), l2] (.int x :: st) M Q) ∧
  (∀ (d : Nat) (lv : List (Option Value)) (M : jx_M) (Q : jx_Po) (a0 : Int32), jx_Ev (d + 1) 99 44 lv [.int a0, .ref 36] M Q ↔ jx_I d 98 [.ref 36, .int a0] M (fun x M => jx_Ev (d + 1) 99 47 lv (.int x :: []) M Q)) ∧
  (∀ (d : Nat) (lv : List (Option Value)) (st : List Value) (M : jx_M) (Q : jx_Po), jx_Ev d 99 47 lv st M Q ↔ jx_Ev d 99 52 lv st M Q) ∧
  (∀ (d : Nat) (lv : List (Option Value)) (st : List Value) (M : jx_M) (Q : jx_Po), jx_Ev d 99 50 lv st M Q ↔ jx_Ev d 99 52 lv (.int (-2) :: st) M Q) ∧
  (∀ (d : Nat) (lv : List (Option Value)) (M : jx_M) (Q : jx_Po) (x : Int32), jx_Ev d 99 52 lv [.int x] M Q ↔ Q [.int x] M) := by
  refine ⟨?_, ?_, ?_, ?_, ?_, ?_, ?_, ?_, ?_, ?_, ?_, ?_, ?_, ?_, ?_, ?_, ?_, ?_, ?_, ?_, ?_, ?_, ?_, ?_, ?_, ?_, ?_, ?_, ?_, ?_⟩
  · exact fun d st M Q l1 l2 x => jx_ev_st (jx_fok (by decide +kernel : decode (jx_mb 99) 0 = .ok (.aload_n 0, 1))) rfl rfl rfl
  · exact fun d st M Q l0 l2 x => jx_ev_st (jx_fok (by decide +kernel : decode (jx_mb 99) 1 = .ok (.iload_n 1, 1))) rfl rfl rfl
  · exact fun d lv M Q a0 => jx_ev_ci (jx_fok (by decide +kernel : decode (jx_mb 99) 2 = .ok (.invokevirtual 142, 3))) rfl (jx_ccV (As := [.int a0]) (rest := []) rfl rfl rfl rfl rfl rfl) (by decide)
  · exact fun d lv st M Q x => jx_k_b1n (jx_fok (by decide +kernel : decode (jx_mb 99) 5 = .ok (.ifCond .ne 5, 3))) rfl jx_hNe
  · exact fun d lv st M Q => jx_ev_st (jx_fok (by decide +kernel : decode (jx_mb 99) 8 = .ok (.iconst (-1), 1))) rfl rfl rfl
  · exact fun d lv M Q x => jx_k_ri (jx_fok (by decide +kernel : decode (jx_mb 99) 9 = .ok (.ireturn, 1))) rfl
  · exact fun d st M Q l0 l1 x => jx_ev_st (jx_fok (by decide +kernel : decode (jx_mb 99) 10 = .ok (.iload_n 2, 1))) rfl rfl rfl
  · exact fun d lv st M Q x => jx_k_b1n (jx_fok (by decide +kernel : decode (jx_mb 99) 11 = .ok (.ifCond .ne 12, 3))) rfl jx_hNe
  · exact fun d st M Q l1 l2 x => jx_ev_st (jx_fok (by decide +kernel : decode (jx_mb 99) 14 = .ok (.aload_n 0, 1))) rfl rfl rfl
  · exact fun d lv st M Q => jx_k_gf (jx_fok (by decide +kernel : decode (jx_mb 99) 15 = .ok (.getfield 19, 3))) rfl rfl rfl
  · exact fun d st M Q l0 l2 x => jx_ev_st (jx_fok (by decide +kernel : decode (jx_mb 99) 18 = .ok (.iload_n 1, 1))) rfl rfl rfl
  · exact fun d lv st M Q x a ha => jx_k_al (jx_fok (by decide +kernel : decode (jx_mb 99) 19 = .ok (.iaload, 1))) ha
  · exact fun d lv st M Q => jx_k_goto (jx_fok (by decide +kernel : decode (jx_mb 99) 20 = .ok (.goto 32, 3))) rfl
  · exact fun d st M Q l0 l1 x => jx_ev_st (jx_fok (by decide +kernel : decode (jx_mb 99) 23 = .ok (.iload_n 2, 1))) rfl rfl rfl
  · exact fun d lv st M Q => jx_ev_st (jx_fok (by decide +kernel : decode (jx_mb 99) 24 = .ok (.iconst 1, 1))) rfl rfl rfl
  · exact fun d lv st M Q x z => jx_k_b2n (jx_fok (by decide +kernel : decode (jx_mb 99) 25 = .ok (.if_icmp .ne 12, 3))) rfl jx_hNe
  · exact fun d st M Q l1 l2 x => jx_ev_st (jx_fok (by decide +kernel : decode (jx_mb 99) 28 = .ok (.aload_n 0, 1))) rfl rfl rfl
  · exact fun d lv st M Q => jx_k_gf (jx_fok (by decide +kernel : decode (jx_mb 99) 29 = .ok (.getfield 22, 3))) rfl rfl rfl
  · exact fun d st M Q l0 l2 x => jx_ev_st (jx_fok (by decide +kernel : decode (jx_mb 99) 32 = .ok (.iload_n 1, 1))) rfl rfl rfl
  · exact fun d lv st M Q x a ha => jx_k_al (jx_fok (by decide +kernel : decode (jx_mb 99) 33 = .ok (.iaload, 1))) ha
  · exact fun d lv st M Q => jx_k_goto (jx_fok (by decide +kernel : decode (jx_mb 99) 34 = .ok (.goto 18, 3))) rfl
  · exact fun d st M Q l0 l1 x => jx_ev_st (jx_fok (by decide +kernel : decode (jx_mb 99) 37 = .ok (.iload_n 2, 1))) rfl rfl rfl
  · exact fun d lv st M Q => jx_ev_st (jx_fok (by decide +kernel : decode (jx_mb 99) 38 = .ok (.iconst 2, 1))) rfl rfl rfl
  · exact fun d lv st M Q x z => jx_k_b2n (jx_fok (by decide +kernel : decode (jx_mb 99) 39 = .ok (.if_icmp .ne 11, 3))) rfl jx_hNe
  · exact fun d st M Q l1 l2 x => jx_ev_st (jx_fok (by decide +kernel : decode (jx_mb 99) 42 = .ok (.aload_n 0, 1))) rfl rfl rfl
  · exact fun d st M Q l0 l2 x => jx_ev_st (jx_fok (by decide +kernel : decode (jx_mb 99) 43 = .ok (.iload_n 1, 1))) rfl rfl rfl
  · exact fun d lv M Q a0 => jx_ev_ci (jx_fok (by decide +kernel : decode (jx_mb 99) 44 = .ok (.invokevirtual 145, 3))) rfl (jx_ccV (As := [.int a0]) (rest := []) rfl rfl rfl rfl rfl rfl) (by decide)
  · exact fun d lv st M Q => jx_k_goto (jx_fok (by decide +kernel : decode (jx_mb 99) 47 = .ok (.goto 5, 3))) rfl
  · exact fun d lv st M Q => jx_ev_st (jx_fok (by decide +kernel : decode (jx_mb 99) 50 = .ok (.bipush (-2), 2))) rfl rfl rfl
  · exact fun d lv M Q x => jx_k_ri (jx_fok (by decide +kernel : decode (jx_mb 99) 52 = .ok (.ireturn, 1))) rfl
theorem kX8_ofPerson (d : Nat) (M : jx_M) (q : Int32 → jx_M → Prop) (a0 a1 a2 : Value) : jx_I d 99 [a0, a1, a2] M q ↔ jx_Ev d 99 0 [some a0, some a1, some a2] [] M (jx_qI q) := Iff.rfl
set_option maxRecDepth 100000 in
theorem eX8_ofClap :
  (∀ (d : Nat) (st : List Value) (M : jx_M) (Q : jx_Po) (l1 l2 : Option Value) (x : Nat), jx_Ev d 100 0 [some (.ref x), l1, l2] st M Q ↔ jx_Ev d 100 1 [some (.ref x), l1, l2] (.ref x :: st) M Q) ∧
  (∀ (d : Nat) (st : List Value) (M : jx_M) (Q : jx_Po) (l0 l2 : Option Value) (x : Int32), jx_Ev d 100 1 [l0, some (.int x), l2] st M Q ↔ jx_Ev d 100 2 [l0, some (.int x), l2] (.int x :: st) M Q) ∧
  (∀ (d : Nat) (lv : List (Option Value)) (M : jx_M) (Q : jx_Po) (a0 : Int32), jx_Ev (d + 1) 100 2 lv [.int a0, .ref 36] M Q ↔ jx_I d 90 [.ref 36, .int a0] M (fun x M => jx_Ev (d + 1) 100 5 lv (.int x :: []) M Q)) ∧
  (∀ (d : Nat) (lv : List (Option Value)) (st : List Value) (M : jx_M) (Q : jx_Po) (x : Int32), jx_Ev d 100 5 lv (.int x :: st) M Q ↔ (if x = 0 then jx_Ev d 100 8 lv st M Q else jx_Ev d 100 10 lv st M Q)) ∧
  (∀ (d : Nat) (lv : List (Option Value)) (st : List Value) (M : jx_M) (Q : jx_Po), jx_Ev d 100 8 lv st M Q ↔ jx_Ev d 100 9 lv (.int (-1) :: st) M Q) ∧
  (∀ (d : Nat) (lv : List (Option Value)) (M : jx_M) (Q : jx_Po) (x : Int32), jx_Ev d 100 9 lv [.int x] M Q ↔ Q [.int x] M) ∧
  (∀ (d : Nat) (st : List Value) (M : jx_M) (Q : jx_Po) (l0 l1 : Option Value) (x : Int32), jx_Ev d 100 10 [l0, l1, some (.int x)] st M Q ↔ jx_Ev d 100 11 [l0, l1, some (.int x)] (.int x :: st) M Q) ∧
  (∀ (d : Nat) (lv : List (Option Value)) (st : List Value) (M : jx_M) (Q : jx_Po) (x : Int32), jx_Ev d 100 11 lv (.int x :: st) M Q ↔ (if x = 0 then jx_Ev d 100 14 lv st M Q else jx_Ev d 100 23 lv st M Q)) ∧
  (∀ (d : Nat) (st : List Value) (M : jx_M) (Q : jx_Po) (l1 l2 : Option Value) (x : Nat), jx_Ev d 100 14 [some (.ref x), l1, l2] st M Q ↔ jx_Ev d 100 15 [some (.ref x), l1, l2] (.ref x :: st) M Q) ∧
  (∀ (d : Nat) (lv : List (Option Value)) (st : List Value) (M : jx_M) (Q : jx_Po), jx_Ev d 100 15 lv (.ref 36 :: st) M Q ↔ jx_Ev d 100 18 lv (.ref 42 :: st) M Q) ∧
  (∀ (d : Nat) (st : List Value) (M : jx_M) (Q : jx_Po) (l0 l2 : Option Value) (x : Int32), jx_Ev d 100 18 [l0, some (.int x), l2] st M Q ↔ jx_Ev d 100 19 [l0, some (.int x), l2] (.int x :: st) M Q) ∧
  (∀ (d : Nat) (lv : List (Option Value)) (st : List Value) (M : jx_M) (Q : jx_Po) (x : Int32) (a : Nat) (ha : jx_cl a = 9), jx_Ev d 100 19 lv (.int x :: .ref a :: st) M Q ↔ (vp_in x (jx_sz a) ∧ jx_Ev d 100 20 lv (.int (M a x.toNatClampNeg) :: st) M Q)) ∧
  (∀ (d : Nat) (lv : List (Option Value)) (st : List Value) (M : jx_M) (Q : jx_Po), jx_Ev d 100 20 lv st M Q ↔ jx_Ev d 100 53 lv st M Q) ∧
  (∀ (d : Nat) (st : List Value) (M : jx_M) (Q : jx_Po) (l0 l1 : Option Value) (x : Int32), jx_Ev d 100 23 [l0, l1, some (.int x)] st M Q ↔ jx_Ev d 100 24 [l0, l1, some (.int x)] (.int x :: st) M Q) ∧
  (∀ (d : Nat) (lv : List (Option Value)) (st : List Value) (M : jx_M) (Q : jx_Po), jx_Ev d 100 24 lv st M Q ↔ jx_Ev d 100 25 lv (.int 1 :: st) M Q) ∧
  (∀ (d : Nat) (lv : List (Option Value)) (st : List Value) (M : jx_M) (Q : jx_Po) (x z : Int32), jx_Ev d 100 25 lv (.int z :: .int x :: st) M Q ↔ (if x = z then jx_Ev d 100 28 lv st M Q else jx_Ev d 100 37 lv st M Q)) ∧
  (∀ (d : Nat) (st : List Value) (M : jx_M) (Q : jx_Po) (l1 l2 : Option Value) (x : Nat), jx_Ev d 100 28 [some (.ref x), l1, l2] st M Q ↔ jx_Ev d 100 29 [some (.ref x), l1, l2] (.ref x :: st) M Q) ∧
  (∀ (d : Nat) (lv : List (Option Value)) (st : List Value) (M : jx_M) (Q : jx_Po), jx_Ev d 100 29 lv (.ref 36 :: st) M Q ↔ jx_Ev d 100 32 lv (.ref 43 :: st) M Q) ∧
  (∀ (d : Nat) (st : List Value) (M : jx_M) (Q : jx_Po) (l0 l2 : Option Value) (x : Int32), jx_Ev d 100 32 [l0, some (.int x), l2] st M Q ↔ jx_Ev d 100 33 [l0, some (.int x), l2] (.int x :: st) M Q) ∧
  (∀ (d : Nat) (lv : List (Option Value)) (st : List Value) (M : jx_M) (Q : jx_Po) (x : Int32) (a : Nat) (ha : jx_cl a = 9), jx_Ev d 100 33 lv (.int x :: .ref a :: st) M Q ↔ (vp_in x (jx_sz a) ∧ jx_Ev d 100 34 lv (.int (M a x.toNatClampNeg) :: st) M Q)) ∧
  (∀ (d : Nat) (lv : List (Option Value)) (st : List Value) (M : jx_M) (Q : jx_Po), jx_Ev d 100 34 lv st M Q ↔ jx_Ev d 100 53 lv st M Q) ∧
  (∀ (d : Nat) (st : List Value) (M : jx_M) (Q : jx_Po) (l0 l1 : Option Value) (x : Int32), jx_Ev d 100 37 [l0, l1, some (.int x)] st M Q ↔ jx_Ev d 100 38 [l0, l1, some (.int x)] (.int x :: st) M Q) ∧
  (∀ (d : Nat) (lv : List (Option Value)) (st : List Value) (M : jx_M) (Q : jx_Po), jx_Ev d 100 38 lv st M Q ↔ jx_Ev d 100 39 lv (.int 2 :: st) M Q) ∧
  (∀ (d : Nat) (lv : List (Option Value)) (st : List Value) (M : jx_M) (Q : jx_Po) (x z : Int32), jx_Ev d 100 39 lv (.int z :: .int x :: st) M Q ↔ (if x = z then jx_Ev d 100 42 lv st M Q else jx_Ev d 100 51 lv st M Q)) ∧
  (∀ (d : Nat) (st : List Value) (M : jx_M) (Q : jx_Po) (l1 l2 : Option Value) (x : Nat), jx_Ev d 100 42 [some (.ref x), l1, l2] st M Q ↔ jx_Ev d 100 43 [some (.ref x), l1, l2] (.ref x :: st) M Q) ∧
  (∀ (d : Nat) (lv : List (Option Value)) (st : List Value) (M : jx_M) (Q : jx_Po), jx_Ev d 100 43 lv (.ref 36 :: st) M Q ↔ jx_Ev d 100 46 lv (.ref 44 :: st) M Q) ∧
  (∀ (d : Nat) (st : List Value) (M : jx_M) (Q : jx_Po) (l0 l2 : Option Value) (x : Int32), jx_Ev d 100 46 [l0, some (.int x), l2] st M Q ↔ jx_Ev d 100 47 [l0, some (.int x), l2] (.int x :: st) M Q) ∧
  (∀ (d : Nat) (lv : List (Option Value)) (st : List Value) (M : jx_M) (Q : jx_Po) (x : Int32) (a : Nat) (ha : jx_cl a = 9), jx_Ev d 100 47 lv (.int x :: .ref a :: st) M Q ↔ (vp_in x (jx_sz a) ∧ jx_Ev d 100 48 lv (.int (M a x.toNatClampNeg) :: st) M Q)) ∧
  (∀ (d : Nat) (lv : List (Option Value)) (st : List Value) (M : jx_M) (Q : jx_Po), jx_Ev d 100 48 lv st M Q ↔ jx_Ev d 100 53 lv st M Q) ∧
  (∀ (d : Nat) (lv : List (Option Value)) (st : List Value) (M : jx_M) (Q : jx_Po), jx_Ev d 100 51 lv st M Q ↔ jx_Ev d 100 53 lv (.int (-2) :: st) M Q) ∧
  (∀ (d : Nat) (lv : List (Option Value)) (M : jx_M) (Q : jx_Po) (x : Int32), jx_Ev d 100 53 lv [.int x] M Q ↔ Q [.int x] M) := by
  refine ⟨?_, ?_, ?_, ?_, ?_, ?_, ?_, ?_, ?_, ?_, ?_, ?_, ?_, ?_, ?_, ?_, ?_, ?_, ?_, ?_, ?_, ?_, ?_, ?_, ?_, ?_, ?_, ?_, ?_, ?_, ?_⟩
  · exact fun d st M Q l1 l2 x => jx_ev_st (jx_fok (by decide +kernel : decode (jx_mb 100) 0 = .ok (.aload_n 0, 1))) rfl rfl rfl
  · exact fun d st M Q l0 l2 x => jx_ev_st (jx_fok (by decide +kernel : decode (jx_mb 100) 1 = .ok (.iload_n 1, 1))) rfl rfl rfl
  · exact fun d lv M Q a0 => jx_ev_ci (jx_fok (by decide +kernel : decode (jx_mb 100) 2 = .ok (.invokevirtual 148, 3))) rfl (jx_ccV (As := [.int a0]) (rest := []) rfl rfl rfl rfl rfl rfl) (by decide)
  · exact fun d lv st M Q x => jx_k_b1n (jx_fok (by decide +kernel : decode (jx_mb 100) 5 = .ok (.ifCond .ne 5, 3))) rfl jx_hNe
  · exact fun d lv st M Q => jx_ev_st (jx_fok (by decide +kernel : decode (jx_mb 100) 8 = .ok (.iconst (-1), 1))) rfl rfl rfl
  · exact fun d lv M Q x => jx_k_ri (jx_fok (by decide +kernel : decode (jx_mb 100) 9 = .ok (.ireturn, 1))) rfl
  · exact fun d st M Q l0 l1 x => jx_ev_st (jx_fok (by decide +kernel : decode (jx_mb 100) 10 = .ok (.iload_n 2, 1))) rfl rfl rfl
  · exact fun d lv st M Q x => jx_k_b1n (jx_fok (by decide +kernel : decode (jx_mb 100) 11 = .ok (.ifCond .ne 12, 3))) rfl jx_hNe
  · exact fun d st M Q l1 l2 x => jx_ev_st (jx_fok (by decide +kernel : decode (jx_mb 100) 14 = .ok (.aload_n 0, 1))) rfl rfl rfl
  · exact fun d lv st M Q => jx_k_gf (jx_fok (by decide +kernel : decode (jx_mb 100) 15 = .ok (.getfield 25, 3))) rfl rfl rfl
  · exact fun d st M Q l0 l2 x => jx_ev_st (jx_fok (by decide +kernel : decode (jx_mb 100) 18 = .ok (.iload_n 1, 1))) rfl rfl rfl
  · exact fun d lv st M Q x a ha => jx_k_al (jx_fok (by decide +kernel : decode (jx_mb 100) 19 = .ok (.iaload, 1))) ha
  · exact fun d lv st M Q => jx_k_goto (jx_fok (by decide +kernel : decode (jx_mb 100) 20 = .ok (.goto 33, 3))) rfl
  · exact fun d st M Q l0 l1 x => jx_ev_st (jx_fok (by decide +kernel : decode (jx_mb 100) 23 = .ok (.iload_n 2, 1))) rfl rfl rfl
  · exact fun d lv st M Q => jx_ev_st (jx_fok (by decide +kernel : decode (jx_mb 100) 24 = .ok (.iconst 1, 1))) rfl rfl rfl
  · exact fun d lv st M Q x z => jx_k_b2n (jx_fok (by decide +kernel : decode (jx_mb 100) 25 = .ok (.if_icmp .ne 12, 3))) rfl jx_hNe
  · exact fun d st M Q l1 l2 x => jx_ev_st (jx_fok (by decide +kernel : decode (jx_mb 100) 28 = .ok (.aload_n 0, 1))) rfl rfl rfl
  · exact fun d lv st M Q => jx_k_gf (jx_fok (by decide +kernel : decode (jx_mb 100) 29 = .ok (.getfield 28, 3))) rfl rfl rfl
  · exact fun d st M Q l0 l2 x => jx_ev_st (jx_fok (by decide +kernel : decode (jx_mb 100) 32 = .ok (.iload_n 1, 1))) rfl rfl rfl
  · exact fun d lv st M Q x a ha => jx_k_al (jx_fok (by decide +kernel : decode (jx_mb 100) 33 = .ok (.iaload, 1))) ha
  · exact fun d lv st M Q => jx_k_goto (jx_fok (by decide +kernel : decode (jx_mb 100) 34 = .ok (.goto 19, 3))) rfl
  · exact fun d st M Q l0 l1 x => jx_ev_st (jx_fok (by decide +kernel : decode (jx_mb 100) 37 = .ok (.iload_n 2, 1))) rfl rfl rfl
  · exact fun d lv st M Q => jx_ev_st (jx_fok (by decide +kernel : decode (jx_mb 100) 38 = .ok (.iconst 2, 1))) rfl rfl rfl
  · exact fun d lv st M Q x z => jx_k_b2n (jx_fok (by decide +kernel : decode (jx_mb 100) 39 = .ok (.if_icmp .ne 12, 3))) rfl jx_hNe
  · exact fun d st M Q l1 l2 x => jx_ev_st (jx_fok (by decide +kernel : decode (jx_mb 100) 42 = .ok (.aload_n 0, 1))) rfl rfl rfl
  · exact fun d lv st M Q => jx_k_gf (jx_fok (by decide +kernel : decode (jx_mb 100) 43 = .ok (.getfield 31, 3))) rfl rfl rfl
  · exact fun d st M Q l0 l2 x => jx_ev_st (jx_fok (by decide +kernel : decode (jx_mb 100) 46 = .ok (.iload_n 1, 1))) rfl rfl rfl
  · exact fun d lv st M Q x a ha => jx_k_al (jx_fok (by decide +kernel : decode (jx_mb 100) 47 = .ok (.iaload, 1))) ha
  · exact fun d lv st M Q => jx_k_goto (jx_fok (by decide +kernel : decode (jx_mb 100) 48 = .ok (.goto 5, 3))) rfl
  · exact fun d lv st M Q => jx_ev_st (jx_fok (by decide +kernel : decode (jx_mb 100) 51 = .ok (.bipush (-2), 2))) rfl rfl rfl
  · exact fun d lv M Q x => jx_k_ri (jx_fok (by decide +kernel : decode (jx_mb 100) 53 = .ok (.ireturn, 1))) rfl
theorem kX8_ofClap (d : Nat) (M : jx_M) (q : Int32 → jx_M → Prop) (a0 a1 a2 : Value) : jx_I d 100 [a0, a1, a2] M q ↔ jx_Ev d 100 0 [some a0, some a1, some a2] [] M (jx_qI q) := Iff.rfl
set_option maxRecDepth 100000 in
theorem eX8_nerve :
  (∀ (d : Nat) (st : List Value) (M : jx_M) (Q : jx_Po) (l1 l2 l3 : Option Value) (x : Nat), jx_Ev d 101 0 [some (.ref x), l1, l2, l3] st M Q ↔ jx_Ev d 101 1 [some (.ref x), l1, l2, l3] (.ref x :: st) M Q) ∧
  (∀ (d : Nat) (st : List Value) (M : jx_M) (Q : jx_Po) (l0 l2 l3 : Option Value) (x : Int32), jx_Ev d 101 1 [l0, some (.int x), l2, l3] st M Q ↔ jx_Ev d 101 2 [l0, some (.int x), l2, l3] (.int x :: st) M Q) ∧
  (∀ (d : Nat) (lv : List (Option Value)) (M : jx_M) (Q : jx_Po) (a0 : Int32), jx_Ev (d + 1) 101 2 lv [.int a0, .ref 36] M Q ↔ jx_I d 89 [.ref 36, .int a0] M (fun x M => jx_Ev (d + 1) 101 5 lv (.int x :: []) M Q)) ∧
  (∀ (d : Nat) (lv : List (Option Value)) (st : List Value) (M : jx_M) (Q : jx_Po) (x : Int32), jx_Ev d 101 5 lv (.int x :: st) M Q ↔ (if x = 0 then jx_Ev d 101 8 lv st M Q else jx_Ev d 101 10 lv st M Q)) ∧
  (∀ (d : Nat) (lv : List (Option Value)) (st : List Value) (M : jx_M) (Q : jx_Po), jx_Ev d 101 8 lv st M Q ↔ jx_Ev d 101 9 lv (.int (-1) :: st) M Q) ∧
  (∀ (d : Nat) (lv : List (Option Value)) (M : jx_M) (Q : jx_Po) (x : Int32), jx_Ev d 101 9 lv [.int x] M Q ↔ Q [.int x] M) ∧
  (∀ (d : Nat) (st : List Value) (M : jx_M) (Q : jx_Po) (l0 l1 l3 : Option Value) (x : Int32), jx_Ev d 101 10 [l0, l1, some (.int x), l3] st M Q ↔ jx_Ev d 101 11 [l0, l1, some (.int x), l3] (.int x :: st) M Q) ∧
  (∀ (d : Nat) (lv : List (Option Value)) (st : List Value) (M : jx_M) (Q : jx_Po), jx_Ev d 101 11 lv st M Q ↔ jx_Ev d 101 12 lv (.int 0 :: st) M Q) ∧
  (∀ (d : Nat) (lv : List (Option Value)) (st : List Value) (M : jx_M) (Q : jx_Po), jx_Ev d 101 12 lv st M Q ↔ jx_Ev d 101 14 lv (.int 9 :: st) M Q) ∧
  (∀ (d : Nat) (lv : List (Option Value)) (M : jx_M) (Q : jx_Po) (a0 : Int32) (a1 : Int32) (a2 : Int32), jx_Ev (d + 1) 101 14 lv [.int a0, .int a1, .int a2] M Q ↔ jx_I d 85 [.int a2, .int a1, .int a0] M (fun x M => jx_Ev (d + 1) 101 17 lv (.int x :: []) M Q)) ∧
  (∀ (d : Nat) (lv : List (Option Value)) (st : List Value) (M : jx_M) (Q : jx_Po) (x : Int32), jx_Ev d 101 17 lv (.int x :: st) M Q ↔ (if x = 0 then jx_Ev d 101 20 lv st M Q else jx_Ev d 101 23 lv st M Q)) ∧
  (∀ (d : Nat) (lv : List (Option Value)) (st : List Value) (M : jx_M) (Q : jx_Po), jx_Ev d 101 20 lv st M Q ↔ jx_Ev d 101 22 lv (.int (-2) :: st) M Q) ∧
  (∀ (d : Nat) (lv : List (Option Value)) (M : jx_M) (Q : jx_Po) (x : Int32), jx_Ev d 101 22 lv [.int x] M Q ↔ Q [.int x] M) ∧
  (∀ (d : Nat) (st : List Value) (M : jx_M) (Q : jx_Po) (l1 l2 l3 : Option Value) (x : Nat), jx_Ev d 101 23 [some (.ref x), l1, l2, l3] st M Q ↔ jx_Ev d 101 24 [some (.ref x), l1, l2, l3] (.ref x :: st) M Q) ∧
  (∀ (d : Nat) (lv : List (Option Value)) (st : List Value) (M : jx_M) (Q : jx_Po), jx_Ev d 101 24 lv (.ref 36 :: st) M Q ↔ jx_Ev d 101 27 lv (.ref 40 :: st) M Q) ∧
  (∀ (d : Nat) (st : List Value) (M : jx_M) (Q : jx_Po) (l0 l2 l3 : Option Value) (x : Int32), jx_Ev d 101 27 [l0, some (.int x), l2, l3] st M Q ↔ jx_Ev d 101 28 [l0, some (.int x), l2, l3] (.int x :: st) M Q) ∧
  (∀ (d : Nat) (lv : List (Option Value)) (st : List Value) (M : jx_M) (Q : jx_Po) (x : Int32) (a : Nat) (ha : jx_cl a = 9), jx_Ev d 101 28 lv (.int x :: .ref a :: st) M Q ↔ (vp_in x (jx_sz a) ∧ jx_Ev d 101 29 lv (.int (M a x.toNatClampNeg) :: st) M Q)) ∧
  (∀ (d : Nat) (st : List Value) (M : jx_M) (Q : jx_Po) (l0 l1 l2 l3 : Option Value) (x : Int32), jx_Ev d 101 29 [l0, l1, l2, l3] (.int x :: st) M Q ↔ jx_Ev d 101 30 [l0, l1, l2, some (.int x)] st M Q) ∧
  (∀ (d : Nat) (st : List Value) (M : jx_M) (Q : jx_Po) (l1 l2 l3 : Option Value) (x : Nat), jx_Ev d 101 30 [some (.ref x), l1, l2, l3] st M Q ↔ jx_Ev d 101 31 [some (.ref x), l1, l2, l3] (.ref x :: st) M Q) ∧
  (∀ (d : Nat) (lv : List (Option Value)) (st : List Value) (M : jx_M) (Q : jx_Po), jx_Ev d 101 31 lv (.ref 36 :: st) M Q ↔ jx_Ev d 101 34 lv (.ref 40 :: st) M Q) ∧
  (∀ (d : Nat) (st : List Value) (M : jx_M) (Q : jx_Po) (l0 l2 l3 : Option Value) (x : Int32), jx_Ev d 101 34 [l0, some (.int x), l2, l3] st M Q ↔ jx_Ev d 101 35 [l0, some (.int x), l2, l3] (.int x :: st) M Q) ∧
  (∀ (d : Nat) (st : List Value) (M : jx_M) (Q : jx_Po) (l0 l1 l3 : Option Value) (x : Int32), jx_Ev d 101 35 [l0, l1, some (.int x), l3] st M Q ↔ jx_Ev d 101 36 [l0, l1, some (.int x), l3] (.int x :: st) M Q) ∧
  (∀ (d : Nat) (lv : List (Option Value)) (st : List Value) (M : jx_M) (Q : jx_Po) (x z : Int32) (a : Nat) (ha : jx_cl a = 9), jx_Ev d 101 36 lv (.int z :: .int x :: .ref a :: st) M Q ↔ (vp_in x (jx_sz a) ∧ jx_Ev d 101 37 lv st (jx_up M a x.toNatClampNeg z) Q)) ∧
  (∀ (d : Nat) (st : List Value) (M : jx_M) (Q : jx_Po) (l0 l1 l2 : Option Value) (x : Int32), jx_Ev d 101 37 [l0, l1, l2, some (.int x)] st M Q ↔ jx_Ev d 101 38 [l0, l1, l2, some (.int x)] (.int x :: st) M Q) ∧
  (∀ (d : Nat) (lv : List (Option Value)) (M : jx_M) (Q : jx_Po) (x : Int32), jx_Ev d 101 38 lv [.int x] M Q ↔ Q [.int x] M) := by
  refine ⟨?_, ?_, ?_, ?_, ?_, ?_, ?_, ?_, ?_, ?_, ?_, ?_, ?_, ?_, ?_, ?_, ?_, ?_, ?_, ?_, ?_, ?_, ?_, ?_, ?_⟩
  · exact fun d st M Q l1 l2 l3 x => jx_ev_st (jx_fok (by decide +kernel : decode (jx_mb 101) 0 = .ok (.aload_n 0, 1))) rfl rfl rfl
  · exact fun d st M Q l0 l2 l3 x => jx_ev_st (jx_fok (by decide +kernel : decode (jx_mb 101) 1 = .ok (.iload_n 1, 1))) rfl rfl rfl
  · exact fun d lv M Q a0 => jx_ev_ci (jx_fok (by decide +kernel : decode (jx_mb 101) 2 = .ok (.invokevirtual 142, 3))) rfl (jx_ccV (As := [.int a0]) (rest := []) rfl rfl rfl rfl rfl rfl) (by decide)
  · exact fun d lv st M Q x => jx_k_b1n (jx_fok (by decide +kernel : decode (jx_mb 101) 5 = .ok (.ifCond .ne 5, 3))) rfl jx_hNe
  · exact fun d lv st M Q => jx_ev_st (jx_fok (by decide +kernel : decode (jx_mb 101) 8 = .ok (.iconst (-1), 1))) rfl rfl rfl
  · exact fun d lv M Q x => jx_k_ri (jx_fok (by decide +kernel : decode (jx_mb 101) 9 = .ok (.ireturn, 1))) rfl
  · exact fun d st M Q l0 l1 l3 x => jx_ev_st (jx_fok (by decide +kernel : decode (jx_mb 101) 10 = .ok (.iload_n 2, 1))) rfl rfl rfl
  · exact fun d lv st M Q => jx_ev_st (jx_fok (by decide +kernel : decode (jx_mb 101) 11 = .ok (.iconst 0, 1))) rfl rfl rfl
  · exact fun d lv st M Q => jx_ev_st (jx_fok (by decide +kernel : decode (jx_mb 101) 12 = .ok (.bipush 9, 2))) rfl rfl rfl
  · exact fun d lv M Q a0 a1 a2 => jx_ev_ci (jx_fok (by decide +kernel : decode (jx_mb 101) 14 = .ok (.invokestatic 73, 3))) rfl (jx_ccS (As := [.int a2, .int a1, .int a0]) (rest := []) rfl rfl rfl rfl rfl) (by decide)
  · exact fun d lv st M Q x => jx_k_b1n (jx_fok (by decide +kernel : decode (jx_mb 101) 17 = .ok (.ifCond .ne 6, 3))) rfl jx_hNe
  · exact fun d lv st M Q => jx_ev_st (jx_fok (by decide +kernel : decode (jx_mb 101) 20 = .ok (.bipush (-2), 2))) rfl rfl rfl
  · exact fun d lv M Q x => jx_k_ri (jx_fok (by decide +kernel : decode (jx_mb 101) 22 = .ok (.ireturn, 1))) rfl
  · exact fun d st M Q l1 l2 l3 x => jx_ev_st (jx_fok (by decide +kernel : decode (jx_mb 101) 23 = .ok (.aload_n 0, 1))) rfl rfl rfl
  · exact fun d lv st M Q => jx_k_gf (jx_fok (by decide +kernel : decode (jx_mb 101) 24 = .ok (.getfield 19, 3))) rfl rfl rfl
  · exact fun d st M Q l0 l2 l3 x => jx_ev_st (jx_fok (by decide +kernel : decode (jx_mb 101) 27 = .ok (.iload_n 1, 1))) rfl rfl rfl
  · exact fun d lv st M Q x a ha => jx_k_al (jx_fok (by decide +kernel : decode (jx_mb 101) 28 = .ok (.iaload, 1))) ha
  · exact fun d st M Q l0 l1 l2 l3 x => jx_ev_st (jx_fok (by decide +kernel : decode (jx_mb 101) 29 = .ok (.istore_n 3, 1))) rfl rfl rfl
  · exact fun d st M Q l1 l2 l3 x => jx_ev_st (jx_fok (by decide +kernel : decode (jx_mb 101) 30 = .ok (.aload_n 0, 1))) rfl rfl rfl
  · exact fun d lv st M Q => jx_k_gf (jx_fok (by decide +kernel : decode (jx_mb 101) 31 = .ok (.getfield 19, 3))) rfl rfl rfl
  · exact fun d st M Q l0 l2 l3 x => jx_ev_st (jx_fok (by decide +kernel : decode (jx_mb 101) 34 = .ok (.iload_n 1, 1))) rfl rfl rfl
  · exact fun d st M Q l0 l1 l3 x => jx_ev_st (jx_fok (by decide +kernel : decode (jx_mb 101) 35 = .ok (.iload_n 2, 1))) rfl rfl rfl
  · exact fun d lv st M Q x z a ha => jx_k_as (jx_fok (by decide +kernel : decode (jx_mb 101) 36 = .ok (.iastore, 1))) ha
  · exact fun d st M Q l0 l1 l2 x => jx_ev_st (jx_fok (by decide +kernel : decode (jx_mb 101) 37 = .ok (.iload_n 3, 1))) rfl rfl rfl
  · exact fun d lv M Q x => jx_k_ri (jx_fok (by decide +kernel : decode (jx_mb 101) 38 = .ok (.ireturn, 1))) rfl
theorem kX8_nerve (d : Nat) (M : jx_M) (q : Int32 → jx_M → Prop) (a0 a1 a2 : Value) : jx_I d 101 [a0, a1, a2] M q ↔ jx_Ev d 101 0 [some a0, some a1, some a2, none] [] M (jx_qI q) := Iff.rfl
set_option maxRecDepth 100000 in
theorem eX8_damp :
  (∀ (d : Nat) (st : List Value) (M : jx_M) (Q : jx_Po) (l0 l2 : Option Value) (x : Int32), jx_Ev d 102 0 [l0, some (.int x), l2] st M Q ↔ jx_Ev d 102 1 [l0, some (.int x), l2] (.int x :: st) M Q) ∧
  (∀ (d : Nat) (lv : List (Option Value)) (st : List Value) (M : jx_M) (Q : jx_Po), jx_Ev d 102 1 lv st M Q ↔ jx_Ev d 102 2 lv (.int 0 :: st) M Q) ∧
  (∀ (d : Nat) (lv : List (Option Value)) (st : List Value) (M : jx_M) (Q : jx_Po), jx_Ev d 102 2 lv st M Q ↔ jx_Ev d 102 3 lv (.int 3 :: st) M Q) ∧
  (∀ (d : Nat) (lv : List (Option Value)) (M : jx_M) (Q : jx_Po) (a0 : Int32) (a1 : Int32) (a2 : Int32), jx_Ev (d + 1) 102 3 lv [.int a0, .int a1, .int a2] M Q ↔ jx_I d 85 [.int a2, .int a1, .int a0] M (fun x M => jx_Ev (d + 1) 102 6 lv (.int x :: []) M Q)) ∧
  (∀ (d : Nat) (lv : List (Option Value)) (st : List Value) (M : jx_M) (Q : jx_Po) (x : Int32), jx_Ev d 102 6 lv (.int x :: st) M Q ↔ (if x = 0 then jx_Ev d 102 9 lv st M Q else jx_Ev d 102 12 lv st M Q)) ∧
  (∀ (d : Nat) (lv : List (Option Value)) (st : List Value) (M : jx_M) (Q : jx_Po), jx_Ev d 102 9 lv st M Q ↔ jx_Ev d 102 11 lv (.int (-2) :: st) M Q) ∧
  (∀ (d : Nat) (lv : List (Option Value)) (M : jx_M) (Q : jx_Po) (x : Int32), jx_Ev d 102 11 lv [.int x] M Q ↔ Q [.int x] M) ∧
  (∀ (d : Nat) (st : List Value) (M : jx_M) (Q : jx_Po) (l1 l2 : Option Value) (x : Nat), jx_Ev d 102 12 [some (.ref x), l1, l2] st M Q ↔ jx_Ev d 102 13 [some (.ref x), l1, l2] (.ref x :: st) M Q) ∧
  (∀ (d : Nat) (lv : List (Option Value)) (st : List Value) (M : jx_M) (Q : jx_Po), jx_Ev d 102 13 lv (.ref 36 :: st) M Q ↔ jx_Ev d 102 16 lv (.int (M 36 6) :: st) M Q) ∧
  (∀ (d : Nat) (lv : List (Option Value)) (st : List Value) (M : jx_M) (Q : jx_Po) (x : Int32), jx_Ev d 102 16 lv (.int x :: st) M Q ↔ (if x = 0 then jx_Ev d 102 19 lv st M Q else jx_Ev d 102 22 lv st M Q)) ∧
  (∀ (d : Nat) (lv : List (Option Value)) (st : List Value) (M : jx_M) (Q : jx_Po), jx_Ev d 102 19 lv st M Q ↔ jx_Ev d 102 21 lv (.int (-3) :: st) M Q) ∧
  (∀ (d : Nat) (lv : List (Option Value)) (M : jx_M) (Q : jx_Po) (x : Int32), jx_Ev d 102 21 lv [.int x] M Q ↔ Q [.int x] M) ∧
  (∀ (d : Nat) (st : List Value) (M : jx_M) (Q : jx_Po) (l1 l2 : Option Value) (x : Nat), jx_Ev d 102 22 [some (.ref x), l1, l2] st M Q ↔ jx_Ev d 102 23 [some (.ref x), l1, l2] (.ref x :: st) M Q) ∧
  (∀ (d : Nat) (lv : List (Option Value)) (st : List Value) (M : jx_M) (Q : jx_Po), jx_Ev d 102 23 lv (.ref 36 :: st) M Q ↔ jx_Ev d 102 26 lv (.int (M 36 7) :: st) M Q) ∧
  (∀ (d : Nat) (st : List Value) (M : jx_M) (Q : jx_Po) (l0 l1 l2 : Option Value) (x : Int32), jx_Ev d 102 26 [l0, l1, l2] (.int x :: st) M Q ↔ jx_Ev d 102 27 [l0, l1, some (.int x)] st M Q) ∧
  (∀ (d : Nat) (st : List Value) (M : jx_M) (Q : jx_Po) (l1 l2 : Option Value) (x : Nat), jx_Ev d 102 27 [some (.ref x), l1, l2] st M Q ↔ jx_Ev d 102 28 [some (.ref x), l1, l2] (.ref x :: st) M Q) ∧
  (∀ (d : Nat) (st : List Value) (M : jx_M) (Q : jx_Po) (l0 l2 : Option Value) (x : Int32), jx_Ev d 102 28 [l0, some (.int x), l2] st M Q ↔ jx_Ev d 102 29 [l0, some (.int x), l2] (.int x :: st) M Q) ∧
  (∀ (d : Nat) (lv : List (Option Value)) (st : List Value) (M : jx_M) (Q : jx_Po) (x : Int32), jx_Ev d 102 29 lv (.int x :: .ref 36 :: st) M Q ↔ jx_Ev d 102 32 lv st (jx_up M 36 7 x) Q) ∧
  (∀ (d : Nat) (st : List Value) (M : jx_M) (Q : jx_Po) (l0 l1 : Option Value) (x : Int32), jx_Ev d 102 32 [l0, l1, some (.int x)] st M Q ↔ jx_Ev d 102 33 [l0, l1, some (.int x)] (.int x :: st) M Q) ∧
  (∀ (d : Nat) (lv : List (Option Value)) (M : jx_M) (Q : jx_Po) (x : Int32), jx_Ev d 102 33 lv [.int x] M Q ↔ Q [.int x] M) := by
  refine ⟨?_, ?_, ?_, ?_, ?_, ?_, ?_, ?_, ?_, ?_, ?_, ?_, ?_, ?_, ?_, ?_, ?_, ?_, ?_, ?_⟩
  · exact fun d st M Q l0 l2 x => jx_ev_st (jx_fok (by decide +kernel : decode (jx_mb 102) 0 = .ok (.iload_n 1, 1))) rfl rfl rfl
  · exact fun d lv st M Q => jx_ev_st (jx_fok (by decide +kernel : decode (jx_mb 102) 1 = .ok (.iconst 0, 1))) rfl rfl rfl
  · exact fun d lv st M Q => jx_ev_st (jx_fok (by decide +kernel : decode (jx_mb 102) 2 = .ok (.iconst 3, 1))) rfl rfl rfl
  · exact fun d lv M Q a0 a1 a2 => jx_ev_ci (jx_fok (by decide +kernel : decode (jx_mb 102) 3 = .ok (.invokestatic 73, 3))) rfl (jx_ccS (As := [.int a2, .int a1, .int a0]) (rest := []) rfl rfl rfl rfl rfl) (by decide)
  · exact fun d lv st M Q x => jx_k_b1n (jx_fok (by decide +kernel : decode (jx_mb 102) 6 = .ok (.ifCond .ne 6, 3))) rfl jx_hNe
  · exact fun d lv st M Q => jx_ev_st (jx_fok (by decide +kernel : decode (jx_mb 102) 9 = .ok (.bipush (-2), 2))) rfl rfl rfl
  · exact fun d lv M Q x => jx_k_ri (jx_fok (by decide +kernel : decode (jx_mb 102) 11 = .ok (.ireturn, 1))) rfl
  · exact fun d st M Q l1 l2 x => jx_ev_st (jx_fok (by decide +kernel : decode (jx_mb 102) 12 = .ok (.aload_n 0, 1))) rfl rfl rfl
  · exact fun d lv st M Q => jx_k_gf (jx_fok (by decide +kernel : decode (jx_mb 102) 13 = .ok (.getfield 80, 3))) rfl rfl rfl
  · exact fun d lv st M Q x => jx_k_b1n (jx_fok (by decide +kernel : decode (jx_mb 102) 16 = .ok (.ifCond .ne 6, 3))) rfl jx_hNe
  · exact fun d lv st M Q => jx_ev_st (jx_fok (by decide +kernel : decode (jx_mb 102) 19 = .ok (.bipush (-3), 2))) rfl rfl rfl
  · exact fun d lv M Q x => jx_k_ri (jx_fok (by decide +kernel : decode (jx_mb 102) 21 = .ok (.ireturn, 1))) rfl
  · exact fun d st M Q l1 l2 x => jx_ev_st (jx_fok (by decide +kernel : decode (jx_mb 102) 22 = .ok (.aload_n 0, 1))) rfl rfl rfl
  · exact fun d lv st M Q => jx_k_gf (jx_fok (by decide +kernel : decode (jx_mb 102) 23 = .ok (.getfield 110, 3))) rfl rfl rfl
  · exact fun d st M Q l0 l1 l2 x => jx_ev_st (jx_fok (by decide +kernel : decode (jx_mb 102) 26 = .ok (.istore_n 2, 1))) rfl rfl rfl
  · exact fun d st M Q l1 l2 x => jx_ev_st (jx_fok (by decide +kernel : decode (jx_mb 102) 27 = .ok (.aload_n 0, 1))) rfl rfl rfl
  · exact fun d st M Q l0 l2 x => jx_ev_st (jx_fok (by decide +kernel : decode (jx_mb 102) 28 = .ok (.iload_n 1, 1))) rfl rfl rfl
  · exact fun d lv st M Q x => jx_k_pf0 (jx_fok (by decide +kernel : decode (jx_mb 102) 29 = .ok (.putfield 110, 3))) rfl rfl rfl
  · exact fun d st M Q l0 l1 x => jx_ev_st (jx_fok (by decide +kernel : decode (jx_mb 102) 32 = .ok (.iload_n 2, 1))) rfl rfl rfl
  · exact fun d lv M Q x => jx_k_ri (jx_fok (by decide +kernel : decode (jx_mb 102) 33 = .ok (.ireturn, 1))) rfl
theorem kX8_damp (d : Nat) (M : jx_M) (q : Int32 → jx_M → Prop) (a0 a1 : Value) : jx_I d 102 [a0, a1] M q ↔ jx_Ev d 102 0 [some a0, some a1, none] [] M (jx_qI q) := Iff.rfl
set_option maxRecDepth 100000 in
theorem eX8_send :
  (∀ (d : Nat) (st : List Value) (M : jx_M) (Q : jx_Po) (l1 l2 l3 : Option Value) (x : Nat), jx_Ev d 103 0 [some (.ref x), l1, l2, l3] st M Q ↔ jx_Ev d 103 1 [some (.ref x), l1, l2, l3] (.ref x :: st) M Q) ∧
  (∀ (d : Nat) (st : List Value) (M : jx_M) (Q : jx_Po) (l0 l2 l3 : Option Value) (x : Int32), jx_Ev d 103 1 [l0, some (.int x), l2, l3] st M Q ↔ jx_Ev d 103 2 [l0, some (.int x), l2, l3] (.int x :: st) M Q) ∧
  (∀ (d : Nat) (lv : List (Option Value)) (M : jx_M) (Q : jx_Po) (a0 : Int32), jx_Ev (d + 1) 103 2 lv [.int a0, .ref 36] M Q ↔ jx_I d 90 [.ref 36, .int a0] M (fun x M => jx_Ev (d + 1) 103 5 lv (.int x :: []) M Q)) ∧
  (∀ (d : Nat) (lv : List (Option Value)) (st : List Value) (M : jx_M) (Q : jx_Po) (x : Int32), jx_Ev d 103 5 lv (.int x :: st) M Q ↔ (if x = 0 then jx_Ev d 103 16 lv st M Q else jx_Ev d 103 8 lv st M Q)) ∧
  (∀ (d : Nat) (st : List Value) (M : jx_M) (Q : jx_Po) (l1 l2 l3 : Option Value) (x : Nat), jx_Ev d 103 8 [some (.ref x), l1, l2, l3] st M Q ↔ jx_Ev d 103 9 [some (.ref x), l1, l2, l3] (.ref x :: st) M Q) ∧
  (∀ (d : Nat) (st : List Value) (M : jx_M) (Q : jx_Po) (l0 l1 l3 : Option Value) (x : Int32), jx_Ev d 103 9 [l0, l1, some (.int x), l3] st M Q ↔ jx_Ev d 103 10 [l0, l1, some (.int x), l3] (.int x :: st) M Q) ∧
  (∀ (d : Nat) (lv : List (Option Value)) (M : jx_M) (Q : jx_Po) (a0 : Int32), jx_Ev (d + 1) 103 10 lv [.int a0, .ref 36] M Q ↔ jx_I d 89 [.ref 36, .int a0] M (fun x M => jx_Ev (d + 1) 103 13 lv (.int x :: []) M Q)) ∧
  (∀ (d : Nat) (lv : List (Option Value)) (st : List Value) (M : jx_M) (Q : jx_Po) (x : Int32), jx_Ev d 103 13 lv (.int x :: st) M Q ↔ (if x = 0 then jx_Ev d 103 16 lv st M Q else jx_Ev d 103 18 lv st M Q)) ∧
  (∀ (d : Nat) (lv : List (Option Value)) (st : List Value) (M : jx_M) (Q : jx_Po), jx_Ev d 103 16 lv st M Q ↔ jx_Ev d 103 17 lv (.int (-1) :: st) M Q) ∧
  (∀ (d : Nat) (lv : List (Option Value)) (M : jx_M) (Q : jx_Po) (x : Int32), jx_Ev d 103 17 lv [.int x] M Q ↔ Q [.int x] M) ∧
  (∀ (d : Nat) (st : List Value) (M : jx_M) (Q : jx_Po) (l1 l2 l3 : Option Value) (x : Nat), jx_Ev d 103 18 [some (.ref x), l1, l2, l3] st M Q ↔ jx_Ev d 103 19 [some (.ref x), l1, l2, l3] (.ref x :: st) M Q) ∧
  (∀ (d : Nat) (lv : List (Option Value)) (st : List Value) (M : jx_M) (Q : jx_Po), jx_Ev d 103 19 lv (.ref 36 :: st) M Q ↔ jx_Ev d 103 22 lv (.ref 44 :: st) M Q) ∧
  (∀ (d : Nat) (st : List Value) (M : jx_M) (Q : jx_Po) (l0 l2 l3 : Option Value) (x : Int32), jx_Ev d 103 22 [l0, some (.int x), l2, l3] st M Q ↔ jx_Ev d 103 23 [l0, some (.int x), l2, l3] (.int x :: st) M Q) ∧
  (∀ (d : Nat) (lv : List (Option Value)) (st : List Value) (M : jx_M) (Q : jx_Po) (x : Int32) (a : Nat) (ha : jx_cl a = 9), jx_Ev d 103 23 lv (.int x :: .ref a :: st) M Q ↔ (vp_in x (jx_sz a) ∧ jx_Ev d 103 24 lv (.int (M a x.toNatClampNeg) :: st) M Q)) ∧
  (∀ (d : Nat) (st : List Value) (M : jx_M) (Q : jx_Po) (l0 l1 l2 l3 : Option Value) (x : Int32), jx_Ev d 103 24 [l0, l1, l2, l3] (.int x :: st) M Q ↔ jx_Ev d 103 25 [l0, l1, l2, some (.int x)] st M Q) ∧
  (∀ (d : Nat) (st : List Value) (M : jx_M) (Q : jx_Po) (l1 l2 l3 : Option Value) (x : Nat), jx_Ev d 103 25 [some (.ref x), l1, l2, l3] st M Q ↔ jx_Ev d 103 26 [some (.ref x), l1, l2, l3] (.ref x :: st) M Q) ∧
  (∀ (d : Nat) (lv : List (Option Value)) (st : List Value) (M : jx_M) (Q : jx_Po), jx_Ev d 103 26 lv (.ref 36 :: st) M Q ↔ jx_Ev d 103 29 lv (.ref 44 :: st) M Q) ∧
  (∀ (d : Nat) (st : List Value) (M : jx_M) (Q : jx_Po) (l0 l2 l3 : Option Value) (x : Int32), jx_Ev d 103 29 [l0, some (.int x), l2, l3] st M Q ↔ jx_Ev d 103 30 [l0, some (.int x), l2, l3] (.int x :: st) M Q) ∧
  (∀ (d : Nat) (st : List Value) (M : jx_M) (Q : jx_Po) (l0 l1 l3 : Option Value) (x : Int32), jx_Ev d 103 30 [l0, l1, some (.int x), l3] st M Q ↔ jx_Ev d 103 31 [l0, l1, some (.int x), l3] (.int x :: st) M Q) ∧
  (∀ (d : Nat) (lv : List (Option Value)) (st : List Value) (M : jx_M) (Q : jx_Po) (x z : Int32) (a : Nat) (ha : jx_cl a = 9), jx_Ev d 103 31 lv (.int z :: .int x :: .ref a :: st) M Q ↔ (vp_in x (jx_sz a) ∧ jx_Ev d 103 32 lv st (jx_up M a x.toNatClampNeg z) Q)) ∧
  (∀ (d : Nat) (st : List Value) (M : jx_M) (Q : jx_Po) (l0 l1 l2 : Option Value) (x : Int32), jx_Ev d 103 32 [l0, l1, l2, some (.int x)] st M Q ↔ jx_Ev d 103 33 [l0, l1, l2, some (.int x)] (.int x :: st) M Q) ∧
  (∀ (d : Nat) (lv : List (Option Value)) (M : jx_M) (Q : jx_Po) (x : Int32), jx_Ev d 103 33 lv [.int x] M Q ↔ Q [.int x] M) := by
  refine ⟨?_, ?_, ?_, ?_, ?_, ?_, ?_, ?_, ?_, ?_, ?_, ?_, ?_, ?_, ?_, ?_, ?_, ?_, ?_, ?_, ?_, ?_⟩
  · exact fun d st M Q l1 l2 l3 x => jx_ev_st (jx_fok (by decide +kernel : decode (jx_mb 103) 0 = .ok (.aload_n 0, 1))) rfl rfl rfl
  · exact fun d st M Q l0 l2 l3 x => jx_ev_st (jx_fok (by decide +kernel : decode (jx_mb 103) 1 = .ok (.iload_n 1, 1))) rfl rfl rfl
  · exact fun d lv M Q a0 => jx_ev_ci (jx_fok (by decide +kernel : decode (jx_mb 103) 2 = .ok (.invokevirtual 148, 3))) rfl (jx_ccV (As := [.int a0]) (rest := []) rfl rfl rfl rfl rfl rfl) (by decide)
  · exact fun d lv st M Q x => jx_k_b1 (jx_fok (by decide +kernel : decode (jx_mb 103) 5 = .ok (.ifCond .eq 11, 3))) rfl jx_hEq
  · exact fun d st M Q l1 l2 l3 x => jx_ev_st (jx_fok (by decide +kernel : decode (jx_mb 103) 8 = .ok (.aload_n 0, 1))) rfl rfl rfl
  · exact fun d st M Q l0 l1 l3 x => jx_ev_st (jx_fok (by decide +kernel : decode (jx_mb 103) 9 = .ok (.iload_n 2, 1))) rfl rfl rfl
  · exact fun d lv M Q a0 => jx_ev_ci (jx_fok (by decide +kernel : decode (jx_mb 103) 10 = .ok (.invokevirtual 142, 3))) rfl (jx_ccV (As := [.int a0]) (rest := []) rfl rfl rfl rfl rfl rfl) (by decide)
  · exact fun d lv st M Q x => jx_k_b1n (jx_fok (by decide +kernel : decode (jx_mb 103) 13 = .ok (.ifCond .ne 5, 3))) rfl jx_hNe
  · exact fun d lv st M Q => jx_ev_st (jx_fok (by decide +kernel : decode (jx_mb 103) 16 = .ok (.iconst (-1), 1))) rfl rfl rfl
  · exact fun d lv M Q x => jx_k_ri (jx_fok (by decide +kernel : decode (jx_mb 103) 17 = .ok (.ireturn, 1))) rfl
  · exact fun d st M Q l1 l2 l3 x => jx_ev_st (jx_fok (by decide +kernel : decode (jx_mb 103) 18 = .ok (.aload_n 0, 1))) rfl rfl rfl
  · exact fun d lv st M Q => jx_k_gf (jx_fok (by decide +kernel : decode (jx_mb 103) 19 = .ok (.getfield 31, 3))) rfl rfl rfl
  · exact fun d st M Q l0 l2 l3 x => jx_ev_st (jx_fok (by decide +kernel : decode (jx_mb 103) 22 = .ok (.iload_n 1, 1))) rfl rfl rfl
  · exact fun d lv st M Q x a ha => jx_k_al (jx_fok (by decide +kernel : decode (jx_mb 103) 23 = .ok (.iaload, 1))) ha
  · exact fun d st M Q l0 l1 l2 l3 x => jx_ev_st (jx_fok (by decide +kernel : decode (jx_mb 103) 24 = .ok (.istore_n 3, 1))) rfl rfl rfl
  · exact fun d st M Q l1 l2 l3 x => jx_ev_st (jx_fok (by decide +kernel : decode (jx_mb 103) 25 = .ok (.aload_n 0, 1))) rfl rfl rfl
  · exact fun d lv st M Q => jx_k_gf (jx_fok (by decide +kernel : decode (jx_mb 103) 26 = .ok (.getfield 31, 3))) rfl rfl rfl
  · exact fun d st M Q l0 l2 l3 x => jx_ev_st (jx_fok (by decide +kernel : decode (jx_mb 103) 29 = .ok (.iload_n 1, 1))) rfl rfl rfl
  · exact fun d st M Q l0 l1 l3 x => jx_ev_st (jx_fok (by decide +kernel : decode (jx_mb 103) 30 = .ok (.iload_n 2, 1))) rfl rfl rfl
  · exact fun d lv st M Q x z a ha => jx_k_as (jx_fok (by decide +kernel : decode (jx_mb 103) 31 = .ok (.iastore, 1))) ha
  · exact fun d st M Q l0 l1 l2 x => jx_ev_st (jx_fok (by decide +kernel : decode (jx_mb 103) 32 = .ok (.iload_n 3, 1))) rfl rfl rfl
  · exact fun d lv M Q x => jx_k_ri (jx_fok (by decide +kernel : decode (jx_mb 103) 33 = .ok (.ireturn, 1))) rfl
theorem kX8_send (d : Nat) (M : jx_M) (q : Int32 → jx_M → Prop) (a0 a1 a2 : Value) : jx_I d 103 [a0, a1, a2] M q ↔ jx_Ev d 103 0 [some a0, some a1, some a2, none] [] M (jx_qI q) := Iff.rfl
set_option maxRecDepth 100000 in
theorem eX8_loudOf :
  (∀ (d : Nat) (st : List Value) (M : jx_M) (Q : jx_Po) (l1 l2 l3 : Option Value) (x : Nat), jx_Ev d 104 0 [some (.ref x), l1, l2, l3] st M Q ↔ jx_Ev d 104 1 [some (.ref x), l1, l2, l3] (.ref x :: st) M Q) ∧
  (∀ (d : Nat) (lv : List (Option Value)) (st : List Value) (M : jx_M) (Q : jx_Po), jx_Ev d 104 1 lv (.ref 36 :: st) M Q ↔ jx_Ev d 104 4 lv (.ref 43 :: st) M Q) ∧
  (∀ (d : Nat) (st : List Value) (M : jx_M) (Q : jx_Po) (l0 l2 l3 : Option Value) (x : Int32), jx_Ev d 104 4 [l0, some (.int x), l2, l3] st M Q ↔ jx_Ev d 104 5 [l0, some (.int x), l2, l3] (.int x :: st) M Q) ∧
  (∀ (d : Nat) (lv : List (Option Value)) (st : List Value) (M : jx_M) (Q : jx_Po) (x : Int32) (a : Nat) (ha : jx_cl a = 9), jx_Ev d 104 5 lv (.int x :: .ref a :: st) M Q ↔ (vp_in x (jx_sz a) ∧ jx_Ev d 104 6 lv (.int (M a x.toNatClampNeg) :: st) M Q)) ∧
  (∀ (d : Nat) (st : List Value) (M : jx_M) (Q : jx_Po) (l1 l2 l3 : Option Value) (x : Nat), jx_Ev d 104 6 [some (.ref x), l1, l2, l3] st M Q ↔ jx_Ev d 104 7 [some (.ref x), l1, l2, l3] (.ref x :: st) M Q) ∧
  (∀ (d : Nat) (lv : List (Option Value)) (st : List Value) (M : jx_M) (Q : jx_Po), jx_Ev d 104 7 lv (.ref 36 :: st) M Q ↔ jx_Ev d 104 10 lv (.int (M 36 7) :: st) M Q) ∧
  (∀ (d : Nat) (st : List Value) (M : jx_M) (Q : jx_Po) (l0 l1 l3 : Option Value) (x : Int32), jx_Ev d 104 10 [l0, l1, some (.int x), l3] st M Q ↔ jx_Ev d 104 11 [l0, l1, some (.int x), l3] (.int x :: st) M Q) ∧
  (∀ (d : Nat) (lv : List (Option Value)) (st : List Value) (M : jx_M) (Q : jx_Po) (x z : Int32), jx_Ev d 104 11 lv (.int z :: .int x :: st) M Q ↔ jx_Ev d 104 12 lv (.int (x * z) :: st) M Q) ∧
  (∀ (d : Nat) (lv : List (Option Value)) (st : List Value) (M : jx_M) (Q : jx_Po) (x z : Int32), jx_Ev d 104 12 lv (.int z :: .int x :: st) M Q ↔ jx_Ev d 104 13 lv (.int (x + z) :: st) M Q) ∧
  (∀ (d : Nat) (st : List Value) (M : jx_M) (Q : jx_Po) (l0 l1 l2 l3 : Option Value) (x : Int32), jx_Ev d 104 13 [l0, l1, l2, l3] (.int x :: st) M Q ↔ jx_Ev d 104 14 [l0, l1, l2, some (.int x)] st M Q) ∧
  (∀ (d : Nat) (st : List Value) (M : jx_M) (Q : jx_Po) (l1 l2 l3 : Option Value) (x : Nat), jx_Ev d 104 14 [some (.ref x), l1, l2, l3] st M Q ↔ jx_Ev d 104 15 [some (.ref x), l1, l2, l3] (.ref x :: st) M Q) ∧
  (∀ (d : Nat) (lv : List (Option Value)) (st : List Value) (M : jx_M) (Q : jx_Po), jx_Ev d 104 15 lv (.ref 36 :: st) M Q ↔ jx_Ev d 104 18 lv (.ref 42 :: st) M Q) ∧
  (∀ (d : Nat) (st : List Value) (M : jx_M) (Q : jx_Po) (l0 l2 l3 : Option Value) (x : Int32), jx_Ev d 104 18 [l0, some (.int x), l2, l3] st M Q ↔ jx_Ev d 104 19 [l0, some (.int x), l2, l3] (.int x :: st) M Q) ∧
  (∀ (d : Nat) (lv : List (Option Value)) (st : List Value) (M : jx_M) (Q : jx_Po) (x : Int32) (a : Nat) (ha : jx_cl a = 9), jx_Ev d 104 19 lv (.int x :: .ref a :: st) M Q ↔ (vp_in x (jx_sz a) ∧ jx_Ev d 104 20 lv (.int (M a x.toNatClampNeg) :: st) M Q)) ∧
  (∀ (d : Nat) (lv : List (Option Value)) (st : List Value) (M : jx_M) (Q : jx_Po) (x : Int32), jx_Ev d 104 20 lv (.int x :: st) M Q ↔ (if x = 0 then jx_Ev d 104 23 lv st M Q else jx_Ev d 104 27 lv st M Q)) ∧
  (∀ (d : Nat) (st : List Value) (M : jx_M) (Q : jx_Po) (l0 l1 l2 : Option Value) (x : Int32), jx_Ev d 104 23 [l0, l1, l2, some (.int x)] st M Q ↔ jx_Ev d 104 24 [l0, l1, l2, some (.int x)] (.int x :: st) M Q) ∧
  (∀ (d : Nat) (lv : List (Option Value)) (st : List Value) (M : jx_M) (Q : jx_Po), jx_Ev d 104 24 lv st M Q ↔ jx_Ev d 104 46 lv st M Q) ∧
  (∀ (d : Nat) (st : List Value) (M : jx_M) (Q : jx_Po) (l1 l2 l3 : Option Value) (x : Nat), jx_Ev d 104 27 [some (.ref x), l1, l2, l3] st M Q ↔ jx_Ev d 104 28 [some (.ref x), l1, l2, l3] (.ref x :: st) M Q) ∧
  (∀ (d : Nat) (lv : List (Option Value)) (st : List Value) (M : jx_M) (Q : jx_Po), jx_Ev d 104 28 lv (.ref 36 :: st) M Q ↔ jx_Ev d 104 31 lv (.ref 42 :: st) M Q) ∧
  (∀ (d : Nat) (st : List Value) (M : jx_M) (Q : jx_Po) (l0 l2 l3 : Option Value) (x : Int32), jx_Ev d 104 31 [l0, some (.int x), l2, l3] st M Q ↔ jx_Ev d 104 32 [l0, some (.int x), l2, l3] (.int x :: st) M Q) ∧
  (∀ (d : Nat) (lv : List (Option Value)) (st : List Value) (M : jx_M) (Q : jx_Po) (x : Int32) (a : Nat) (ha : jx_cl a = 9), jx_Ev d 104 32 lv (.int x :: .ref a :: st) M Q ↔ (vp_in x (jx_sz a) ∧ jx_Ev d 104 33 lv (.int (M a x.toNatClampNeg) :: st) M Q)) ∧
  (∀ (d : Nat) (lv : List (Option Value)) (st : List Value) (M : jx_M) (Q : jx_Po), jx_Ev d 104 33 lv st M Q ↔ jx_Ev d 104 34 lv (.int 1 :: st) M Q) ∧
  (∀ (d : Nat) (lv : List (Option Value)) (st : List Value) (M : jx_M) (Q : jx_Po) (x z : Int32), jx_Ev d 104 34 lv (.int z :: .int x :: st) M Q ↔ (if x = z then jx_Ev d 104 37 lv st M Q else jx_Ev d 104 43 lv st M Q)) ∧
  (∀ (d : Nat) (st : List Value) (M : jx_M) (Q : jx_Po) (l0 l1 l2 : Option Value) (x : Int32), jx_Ev d 104 37 [l0, l1, l2, some (.int x)] st M Q ↔ jx_Ev d 104 38 [l0, l1, l2, some (.int x)] (.int x :: st) M Q) ∧
  (∀ (d : Nat) (lv : List (Option Value)) (st : List Value) (M : jx_M) (Q : jx_Po), jx_Ev d 104 38 lv st M Q ↔ jx_Ev d 104 39 lv (.int 1 :: st) M Q) ∧
  (∀ (d : Nat) (lv : List (Option Value)) (st : List Value) (M : jx_M) (Q : jx_Po) (x z : Int32), jx_Ev d 104 39 lv (.int z :: .int x :: st) M Q ↔ jx_Ev d 104 40 lv (.int (x - z) :: st) M Q) ∧
  (∀ (d : Nat) (lv : List (Option Value)) (st : List Value) (M : jx_M) (Q : jx_Po), jx_Ev d 104 40 lv st M Q ↔ jx_Ev d 104 46 lv st M Q) ∧
  (∀ (d : Nat) (lv : List (Option Value)) (st : List Value) (M : jx_M) (Q : jx_Po), jx_Ev d 104 43 lv st M Q ↔ jx_Ev d 104 44 lv (.int 2 :: st) M Q) ∧
  (∀ (d : Nat) (st : List Value) (M : jx_M) (Q : jx_Po) (l0 l1 l2 : Option Value) (x : Int32), jx_Ev d 104 44 [l0, l1, l2, some (.int x)] st M Q ↔ jx_Ev d 104 45 [l0, l1, l2, some (.int x)] (.int x :: st) M Q) ∧
  (∀ (d : Nat) (lv : List (Option Value)) (st : List Value) (M : jx_M) (Q : jx_Po) (x z : Int32), jx_Ev d 104 45 lv (.int z :: .int x :: st) M Q ↔ jx_Ev d 104 46 lv (.int (x * z) :: st) M Q) ∧
  (∀ (d : Nat) (lv : List (Option Value)) (M : jx_M) (Q : jx_Po) (x : Int32), jx_Ev d 104 46 lv [.int x] M Q ↔ Q [.int x] M) := by
  refine ⟨?_, ?_, ?_, ?_, ?_, ?_, ?_, ?_, ?_, ?_, ?_, ?_, ?_, ?_, ?_, ?_, ?_, ?_, ?_, ?_, ?_, ?_, ?_, ?_, ?_, ?_, ?_, ?_, ?_, ?_, ?_⟩
  · exact fun d st M Q l1 l2 l3 x => jx_ev_st (jx_fok (by decide +kernel : decode (jx_mb 104) 0 = .ok (.aload_n 0, 1))) rfl rfl rfl
  · exact fun d lv st M Q => jx_k_gf (jx_fok (by decide +kernel : decode (jx_mb 104) 1 = .ok (.getfield 28, 3))) rfl rfl rfl
  · exact fun d st M Q l0 l2 l3 x => jx_ev_st (jx_fok (by decide +kernel : decode (jx_mb 104) 4 = .ok (.iload_n 1, 1))) rfl rfl rfl
  · exact fun d lv st M Q x a ha => jx_k_al (jx_fok (by decide +kernel : decode (jx_mb 104) 5 = .ok (.iaload, 1))) ha
  · exact fun d st M Q l1 l2 l3 x => jx_ev_st (jx_fok (by decide +kernel : decode (jx_mb 104) 6 = .ok (.aload_n 0, 1))) rfl rfl rfl
  · exact fun d lv st M Q => jx_k_gf (jx_fok (by decide +kernel : decode (jx_mb 104) 7 = .ok (.getfield 110, 3))) rfl rfl rfl
  · exact fun d st M Q l0 l1 l3 x => jx_ev_st (jx_fok (by decide +kernel : decode (jx_mb 104) 10 = .ok (.iload_n 2, 1))) rfl rfl rfl
  · exact fun d lv st M Q x z => jx_ev_st (jx_fok (by decide +kernel : decode (jx_mb 104) 11 = .ok (.imul, 1))) rfl rfl rfl
  · exact fun d lv st M Q x z => jx_ev_st (jx_fok (by decide +kernel : decode (jx_mb 104) 12 = .ok (.iadd, 1))) rfl rfl rfl
  · exact fun d st M Q l0 l1 l2 l3 x => jx_ev_st (jx_fok (by decide +kernel : decode (jx_mb 104) 13 = .ok (.istore_n 3, 1))) rfl rfl rfl
  · exact fun d st M Q l1 l2 l3 x => jx_ev_st (jx_fok (by decide +kernel : decode (jx_mb 104) 14 = .ok (.aload_n 0, 1))) rfl rfl rfl
  · exact fun d lv st M Q => jx_k_gf (jx_fok (by decide +kernel : decode (jx_mb 104) 15 = .ok (.getfield 25, 3))) rfl rfl rfl
  · exact fun d st M Q l0 l2 l3 x => jx_ev_st (jx_fok (by decide +kernel : decode (jx_mb 104) 18 = .ok (.iload_n 1, 1))) rfl rfl rfl
  · exact fun d lv st M Q x a ha => jx_k_al (jx_fok (by decide +kernel : decode (jx_mb 104) 19 = .ok (.iaload, 1))) ha
  · exact fun d lv st M Q x => jx_k_b1n (jx_fok (by decide +kernel : decode (jx_mb 104) 20 = .ok (.ifCond .ne 7, 3))) rfl jx_hNe
  · exact fun d st M Q l0 l1 l2 x => jx_ev_st (jx_fok (by decide +kernel : decode (jx_mb 104) 23 = .ok (.iload_n 3, 1))) rfl rfl rfl
  · exact fun d lv st M Q => jx_k_goto (jx_fok (by decide +kernel : decode (jx_mb 104) 24 = .ok (.goto 22, 3))) rfl
  · exact fun d st M Q l1 l2 l3 x => jx_ev_st (jx_fok (by decide +kernel : decode (jx_mb 104) 27 = .ok (.aload_n 0, 1))) rfl rfl rfl
  · exact fun d lv st M Q => jx_k_gf (jx_fok (by decide +kernel : decode (jx_mb 104) 28 = .ok (.getfield 25, 3))) rfl rfl rfl
  · exact fun d st M Q l0 l2 l3 x => jx_ev_st (jx_fok (by decide +kernel : decode (jx_mb 104) 31 = .ok (.iload_n 1, 1))) rfl rfl rfl
  · exact fun d lv st M Q x a ha => jx_k_al (jx_fok (by decide +kernel : decode (jx_mb 104) 32 = .ok (.iaload, 1))) ha
  · exact fun d lv st M Q => jx_ev_st (jx_fok (by decide +kernel : decode (jx_mb 104) 33 = .ok (.iconst 1, 1))) rfl rfl rfl
  · exact fun d lv st M Q x z => jx_k_b2n (jx_fok (by decide +kernel : decode (jx_mb 104) 34 = .ok (.if_icmp .ne 9, 3))) rfl jx_hNe
  · exact fun d st M Q l0 l1 l2 x => jx_ev_st (jx_fok (by decide +kernel : decode (jx_mb 104) 37 = .ok (.iload_n 3, 1))) rfl rfl rfl
  · exact fun d lv st M Q => jx_ev_st (jx_fok (by decide +kernel : decode (jx_mb 104) 38 = .ok (.iconst 1, 1))) rfl rfl rfl
  · exact fun d lv st M Q x z => jx_ev_st (jx_fok (by decide +kernel : decode (jx_mb 104) 39 = .ok (.isub, 1))) rfl rfl rfl
  · exact fun d lv st M Q => jx_k_goto (jx_fok (by decide +kernel : decode (jx_mb 104) 40 = .ok (.goto 6, 3))) rfl
  · exact fun d lv st M Q => jx_ev_st (jx_fok (by decide +kernel : decode (jx_mb 104) 43 = .ok (.iconst 2, 1))) rfl rfl rfl
  · exact fun d st M Q l0 l1 l2 x => jx_ev_st (jx_fok (by decide +kernel : decode (jx_mb 104) 44 = .ok (.iload_n 3, 1))) rfl rfl rfl
  · exact fun d lv st M Q x z => jx_ev_st (jx_fok (by decide +kernel : decode (jx_mb 104) 45 = .ok (.imul, 1))) rfl rfl rfl
  · exact fun d lv M Q x => jx_k_ri (jx_fok (by decide +kernel : decode (jx_mb 104) 46 = .ok (.ireturn, 1))) rfl
theorem kX8_loudOf (d : Nat) (M : jx_M) (q : Int32 → jx_M → Prop) (a0 a1 a2 : Value) : jx_I d 104 [a0, a1, a2] M q ↔ jx_Ev d 104 0 [some a0, some a1, some a2, none] [] M (jx_qI q) := Iff.rfl
set_option maxRecDepth 100000 in
theorem eX8_isMonths :
  (∀ (d : Nat) (st : List Value) (M : jx_M) (Q : jx_Po) (x : Int32), jx_Ev d 105 0 [some (.int x)] st M Q ↔ jx_Ev d 105 1 [some (.int x)] (.int x :: st) M Q) ∧
  (∀ (d : Nat) (lv : List (Option Value)) (st : List Value) (M : jx_M) (Q : jx_Po), jx_Ev d 105 1 lv st M Q ↔ jx_Ev d 105 2 lv (.int 0 :: st) M Q) ∧
  (∀ (d : Nat) (lv : List (Option Value)) (st : List Value) (M : jx_M) (Q : jx_Po), jx_Ev d 105 2 lv st M Q ↔ jx_Ev d 105 4 lv (.int 9 :: st) M Q) ∧
  (∀ (d : Nat) (lv : List (Option Value)) (M : jx_M) (Q : jx_Po) (a0 : Int32) (a1 : Int32) (a2 : Int32), jx_Ev (d + 1) 105 4 lv [.int a0, .int a1, .int a2] M Q ↔ jx_I d 85 [.int a2, .int a1, .int a0] M (fun x M => jx_Ev (d + 1) 105 7 lv (.int x :: []) M Q)) ∧
  (∀ (d : Nat) (lv : List (Option Value)) (M : jx_M) (Q : jx_Po) (x : Int32), jx_Ev d 105 7 lv [.int x] M Q ↔ ((x = 0 ∨ x = 1) ∧ Q [.int x] M)) := by
  refine ⟨?_, ?_, ?_, ?_, ?_⟩
  · exact fun d st M Q x => jx_ev_st (jx_fok (by decide +kernel : decode (jx_mb 105) 0 = .ok (.iload_n 0, 1))) rfl rfl rfl
  · exact fun d lv st M Q => jx_ev_st (jx_fok (by decide +kernel : decode (jx_mb 105) 1 = .ok (.iconst 0, 1))) rfl rfl rfl
  · exact fun d lv st M Q => jx_ev_st (jx_fok (by decide +kernel : decode (jx_mb 105) 2 = .ok (.bipush 9, 2))) rfl rfl rfl
  · exact fun d lv M Q a0 a1 a2 => jx_ev_ci (jx_fok (by decide +kernel : decode (jx_mb 105) 4 = .ok (.invokestatic 73, 3))) rfl (jx_ccS (As := [.int a2, .int a1, .int a0]) (rest := []) rfl rfl rfl rfl rfl) (by decide)
  · exact fun d lv M Q x => jx_k_rz (jx_fok (by decide +kernel : decode (jx_mb 105) 7 = .ok (.ireturn, 1))) rfl
theorem kX8_isMonths (d : Nat) (M : jx_M) (q : Int32 → jx_M → Prop) (a0 : Value) : jx_I d 105 [a0] M q ↔ jx_Ev d 105 0 [some a0] [] M (jx_qI q) := Iff.rfl
set_option maxRecDepth 100000 in
theorem eX8_loud :
  (∀ (d : Nat) (st : List Value) (M : jx_M) (Q : jx_Po) (l1 l2 : Option Value) (x : Nat), jx_Ev d 106 0 [some (.ref x), l1, l2] st M Q ↔ jx_Ev d 106 1 [some (.ref x), l1, l2] (.ref x :: st) M Q) ∧
  (∀ (d : Nat) (st : List Value) (M : jx_M) (Q : jx_Po) (l0 l2 : Option Value) (x : Int32), jx_Ev d 106 1 [l0, some (.int x), l2] st M Q ↔ jx_Ev d 106 2 [l0, some (.int x), l2] (.int x :: st) M Q) ∧
  (∀ (d : Nat) (lv : List (Option Value)) (M : jx_M) (Q : jx_Po) (a0 : Int32), jx_Ev (d + 1) 106 2 lv [.int a0, .ref 36] M Q ↔ jx_I d 90 [.ref 36, .int a0] M (fun x M => jx_Ev (d + 1) 106 5 lv (.int x :: []) M Q)) ∧
  (∀ (d : Nat) (lv : List (Option Value)) (st : List Value) (M : jx_M) (Q : jx_Po) (x : Int32), jx_Ev d 106 5 lv (.int x :: st) M Q ↔ (if x = 0 then jx_Ev d 106 8 lv st M Q else jx_Ev d 106 10 lv st M Q)) ∧
  (∀ (d : Nat) (lv : List (Option Value)) (st : List Value) (M : jx_M) (Q : jx_Po), jx_Ev d 106 8 lv st M Q ↔ jx_Ev d 106 9 lv (.int (-1) :: st) M Q) ∧
  (∀ (d : Nat) (lv : List (Option Value)) (M : jx_M) (Q : jx_Po) (x : Int32), jx_Ev d 106 9 lv [.int x] M Q ↔ Q [.int x] M) ∧
  (∀ (d : Nat) (st : List Value) (M : jx_M) (Q : jx_Po) (l0 l1 : Option Value) (x : Int32), jx_Ev d 106 10 [l0, l1, some (.int x)] st M Q ↔ jx_Ev d 106 11 [l0, l1, some (.int x)] (.int x :: st) M Q) ∧
  (∀ (d : Nat) (lv : List (Option Value)) (M : jx_M) (Q : jx_Po) (a0 : Int32), jx_Ev (d + 1) 106 11 lv [.int a0] M Q ↔ jx_I d 105 [.int a0] M (fun x M => jx_Ev (d + 1) 106 14 lv (.int x :: []) M Q)) ∧
  (∀ (d : Nat) (lv : List (Option Value)) (st : List Value) (M : jx_M) (Q : jx_Po) (x : Int32), jx_Ev d 106 14 lv (.int x :: st) M Q ↔ (if x = 0 then jx_Ev d 106 26 lv st M Q else jx_Ev d 106 17 lv st M Q)) ∧
  (∀ (d : Nat) (st : List Value) (M : jx_M) (Q : jx_Po) (l1 l2 : Option Value) (x : Nat), jx_Ev d 106 17 [some (.ref x), l1, l2] st M Q ↔ jx_Ev d 106 18 [some (.ref x), l1, l2] (.ref x :: st) M Q) ∧
  (∀ (d : Nat) (st : List Value) (M : jx_M) (Q : jx_Po) (l0 l2 : Option Value) (x : Int32), jx_Ev d 106 18 [l0, some (.int x), l2] st M Q ↔ jx_Ev d 106 19 [l0, some (.int x), l2] (.int x :: st) M Q) ∧
  (∀ (d : Nat) (st : List Value) (M : jx_M) (Q : jx_Po) (l0 l1 : Option Value) (x : Int32), jx_Ev d 106 19 [l0, l1, some (.int x)] st M Q ↔ jx_Ev d 106 20 [l0, l1, some (.int x)] (.int x :: st) M Q) ∧
  (∀ (d : Nat) (lv : List (Option Value)) (M : jx_M) (Q : jx_Po) (a0 : Int32) (a1 : Int32), jx_Ev (d + 1) 106 20 lv [.int a0, .int a1, .ref 36] M Q ↔ jx_I d 104 [.ref 36, .int a1, .int a0] M (fun x M => jx_Ev (d + 1) 106 23 lv (.int x :: []) M Q)) ∧
  (∀ (d : Nat) (lv : List (Option Value)) (st : List Value) (M : jx_M) (Q : jx_Po), jx_Ev d 106 23 lv st M Q ↔ jx_Ev d 106 28 lv st M Q) ∧
  (∀ (d : Nat) (lv : List (Option Value)) (st : List Value) (M : jx_M) (Q : jx_Po), jx_Ev d 106 26 lv st M Q ↔ jx_Ev d 106 28 lv (.int (-2) :: st) M Q) ∧
  (∀ (d : Nat) (lv : List (Option Value)) (M : jx_M) (Q : jx_Po) (x : Int32), jx_Ev d 106 28 lv [.int x] M Q ↔ Q [.int x] M) := by
  refine ⟨?_, ?_, ?_, ?_, ?_, ?_, ?_, ?_, ?_, ?_, ?_, ?_, ?_, ?_, ?_, ?_⟩
  · exact fun d st M Q l1 l2 x => jx_ev_st (jx_fok (by decide +kernel : decode (jx_mb 106) 0 = .ok (.aload_n 0, 1))) rfl rfl rfl
  · exact fun d st M Q l0 l2 x => jx_ev_st (jx_fok (by decide +kernel : decode (jx_mb 106) 1 = .ok (.iload_n 1, 1))) rfl rfl rfl
  · exact fun d lv M Q a0 => jx_ev_ci (jx_fok (by decide +kernel : decode (jx_mb 106) 2 = .ok (.invokevirtual 148, 3))) rfl (jx_ccV (As := [.int a0]) (rest := []) rfl rfl rfl rfl rfl rfl) (by decide)
  · exact fun d lv st M Q x => jx_k_b1n (jx_fok (by decide +kernel : decode (jx_mb 106) 5 = .ok (.ifCond .ne 5, 3))) rfl jx_hNe
  · exact fun d lv st M Q => jx_ev_st (jx_fok (by decide +kernel : decode (jx_mb 106) 8 = .ok (.iconst (-1), 1))) rfl rfl rfl
  · exact fun d lv M Q x => jx_k_ri (jx_fok (by decide +kernel : decode (jx_mb 106) 9 = .ok (.ireturn, 1))) rfl
  · exact fun d st M Q l0 l1 x => jx_ev_st (jx_fok (by decide +kernel : decode (jx_mb 106) 10 = .ok (.iload_n 2, 1))) rfl rfl rfl
  · exact fun d lv M Q a0 => jx_ev_ci (jx_fok (by decide +kernel : decode (jx_mb 106) 11 = .ok (.invokestatic 151, 3))) rfl (jx_ccS (As := [.int a0]) (rest := []) rfl rfl rfl rfl rfl) (by decide)
  · exact fun d lv st M Q x => jx_k_b1 (jx_fok (by decide +kernel : decode (jx_mb 106) 14 = .ok (.ifCond .eq 12, 3))) rfl jx_hEq
  · exact fun d st M Q l1 l2 x => jx_ev_st (jx_fok (by decide +kernel : decode (jx_mb 106) 17 = .ok (.aload_n 0, 1))) rfl rfl rfl
  · exact fun d st M Q l0 l2 x => jx_ev_st (jx_fok (by decide +kernel : decode (jx_mb 106) 18 = .ok (.iload_n 1, 1))) rfl rfl rfl
  · exact fun d st M Q l0 l1 x => jx_ev_st (jx_fok (by decide +kernel : decode (jx_mb 106) 19 = .ok (.iload_n 2, 1))) rfl rfl rfl
  · exact fun d lv M Q a0 a1 => jx_ev_ci (jx_fok (by decide +kernel : decode (jx_mb 106) 20 = .ok (.invokevirtual 154, 3))) rfl (jx_ccV (As := [.int a1, .int a0]) (rest := []) rfl rfl rfl rfl rfl rfl) (by decide)
  · exact fun d lv st M Q => jx_k_goto (jx_fok (by decide +kernel : decode (jx_mb 106) 23 = .ok (.goto 5, 3))) rfl
  · exact fun d lv st M Q => jx_ev_st (jx_fok (by decide +kernel : decode (jx_mb 106) 26 = .ok (.bipush (-2), 2))) rfl rfl rfl
  · exact fun d lv M Q x => jx_k_ri (jx_fok (by decide +kernel : decode (jx_mb 106) 28 = .ok (.ireturn, 1))) rfl
theorem kX8_loud (d : Nat) (M : jx_M) (q : Int32 → jx_M → Prop) (a0 a1 a2 : Value) : jx_I d 106 [a0, a1, a2] M q ↔ jx_Ev d 106 0 [some a0, some a1, some a2] [] M (jx_qI q) := Iff.rfl
set_option maxRecDepth 100000 in
theorem eX8_ownerOf :
  (∀ (d : Nat) (lv : List (Option Value)) (st : List Value) (M : jx_M) (Q : jx_Po), jx_Ev d 107 0 lv st M Q ↔ jx_Ev d 107 1 lv (.int 0 :: st) M Q) ∧
  (∀ (d : Nat) (st : List Value) (M : jx_M) (Q : jx_Po) (l0 l1 l2 l3 l4 l5 : Option Value) (x : Int32), jx_Ev d 107 1 [l0, l1, l2, l3, l4, l5] (.int x :: st) M Q ↔ jx_Ev d 107 3 [l0, l1, l2, l3, some (.int x), l5] st M Q) ∧
  (∀ (d : Nat) (st : List Value) (M : jx_M) (Q : jx_Po) (l1 l2 l3 l4 l5 : Option Value) (x : Nat), jx_Ev d 107 3 [some (.ref x), l1, l2, l3, l4, l5] st M Q ↔ jx_Ev d 107 4 [some (.ref x), l1, l2, l3, l4, l5] (.ref x :: st) M Q) ∧
  (∀ (d : Nat) (lv : List (Option Value)) (st : List Value) (M : jx_M) (Q : jx_Po), jx_Ev d 107 4 lv (.ref 36 :: st) M Q ↔ jx_Ev d 107 7 lv (.ref 44 :: st) M Q) ∧
  (∀ (d : Nat) (st : List Value) (M : jx_M) (Q : jx_Po) (l0 l2 l3 l4 l5 : Option Value) (x : Int32), jx_Ev d 107 7 [l0, some (.int x), l2, l3, l4, l5] st M Q ↔ jx_Ev d 107 8 [l0, some (.int x), l2, l3, l4, l5] (.int x :: st) M Q) ∧
  (∀ (d : Nat) (lv : List (Option Value)) (st : List Value) (M : jx_M) (Q : jx_Po) (x : Int32) (a : Nat) (ha : jx_cl a = 9), jx_Ev d 107 8 lv (.int x :: .ref a :: st) M Q ↔ (vp_in x (jx_sz a) ∧ jx_Ev d 107 9 lv (.int (M a x.toNatClampNeg) :: st) M Q)) ∧
  (∀ (d : Nat) (st : List Value) (M : jx_M) (Q : jx_Po) (l0 l1 l2 l3 l4 l5 : Option Value) (x : Int32), jx_Ev d 107 9 [l0, l1, l2, l3, l4, l5] (.int x :: st) M Q ↔ jx_Ev d 107 11 [l0, l1, l2, l3, l4, some (.int x)] st M Q) ∧
  (∀ (d : Nat) (st : List Value) (M : jx_M) (Q : jx_Po) (l0 l1 l2 l3 l4 : Option Value) (x : Int32), jx_Ev d 107 12 [l0, l1, l2, l3, l4, some (.int x)] st M Q ↔ jx_Ev d 107 14 [l0, l1, l2, l3, l4, some (.int x)] (.int x :: st) M Q) ∧
  (∀ (d : Nat) (lv : List (Option Value)) (M : jx_M) (Q : jx_Po) (a0 : Int32), jx_Ev (d + 1) 107 14 lv [.int a0, .ref 36] M Q ↔ jx_I d 89 [.ref 36, .int a0] M (fun x M => jx_Ev (d + 1) 107 17 lv (.int x :: []) M Q)) ∧
  (∀ (d : Nat) (lv : List (Option Value)) (st : List Value) (M : jx_M) (Q : jx_Po) (x : Int32), jx_Ev d 107 17 lv (.int x :: st) M Q ↔ (if x = 0 then jx_Ev d 107 79 lv st M Q else jx_Ev d 107 20 lv st M Q)) ∧
  (∀ (d : Nat) (st : List Value) (M : jx_M) (Q : jx_Po) (l0 l1 l2 l3 l5 : Option Value) (x : Int32), jx_Ev d 107 20 [l0, l1, l2, l3, some (.int x), l5] st M Q ↔ jx_Ev d 107 22 [l0, l1, l2, l3, some (.int x), l5] (.int x :: st) M Q) ∧
  (∀ (d : Nat) (st : List Value) (M : jx_M) (Q : jx_Po) (l0 l1 l2 l3 l4 : Option Value) (x : Int32), jx_Ev d 107 22 [l0, l1, l2, l3, l4, some (.int x)] st M Q ↔ jx_Ev d 107 24 [l0, l1, l2, l3, l4, some (.int x)] (.int x :: st) M Q) ∧
  (∀ (d : Nat) (lv : List (Option Value)) (st : List Value) (M : jx_M) (Q : jx_Po) (x z : Int32), jx_Ev d 107 24 lv (.int z :: .int x :: st) M Q ↔ jx_Ev d 107 25 lv (.int (x >>> (z &&& 31)) :: st) M Q) ∧
  (∀ (d : Nat) (lv : List (Option Value)) (st : List Value) (M : jx_M) (Q : jx_Po), jx_Ev d 107 25 lv st M Q ↔ jx_Ev d 107 26 lv (.int 1 :: st) M Q) ∧
  (∀ (d : Nat) (lv : List (Option Value)) (st : List Value) (M : jx_M) (Q : jx_Po) (x z : Int32), jx_Ev d 107 26 lv (.int z :: .int x :: st) M Q ↔ jx_Ev d 107 27 lv (.int (x &&& z) :: st) M Q) ∧
  (∀ (d : Nat) (lv : List (Option Value)) (st : List Value) (M : jx_M) (Q : jx_Po) (x : Int32), jx_Ev d 107 27 lv (.int x :: st) M Q ↔ (if x = 0 then jx_Ev d 107 30 lv st M Q else jx_Ev d 107 79 lv st M Q)) ∧
  (∀ (d : Nat) (st : List Value) (M : jx_M) (Q : jx_Po) (l0 l1 l2 l4 l5 : Option Value) (x : Int32), jx_Ev d 107 30 [l0, l1, l2, some (.int x), l4, l5] st M Q ↔ jx_Ev d 107 31 [l0, l1, l2, some (.int x), l4, l5] (.int x :: st) M Q) ∧
  (∀ (d : Nat) (st : List Value) (M : jx_M) (Q : jx_Po) (l0 l1 l2 l3 l4 : Option Value) (x : Int32), jx_Ev d 107 31 [l0, l1, l2, l3, l4, some (.int x)] st M Q ↔ jx_Ev d 107 33 [l0, l1, l2, l3, l4, some (.int x)] (.int x :: st) M Q) ∧
  (∀ (d : Nat) (lv : List (Option Value)) (st : List Value) (M : jx_M) (Q : jx_Po) (x z : Int32), jx_Ev d 107 33 lv (.int z :: .int x :: st) M Q ↔ jx_Ev d 107 34 lv (.int (x >>> (z &&& 31)) :: st) M Q) ∧
  (∀ (d : Nat) (lv : List (Option Value)) (st : List Value) (M : jx_M) (Q : jx_Po), jx_Ev d 107 34 lv st M Q ↔ jx_Ev d 107 35 lv (.int 1 :: st) M Q) ∧
  (∀ (d : Nat) (lv : List (Option Value)) (st : List Value) (M : jx_M) (Q : jx_Po) (x z : Int32), jx_Ev d 107 35 lv (.int z :: .int x :: st) M Q ↔ jx_Ev d 107 36 lv (.int (x &&& z) :: st) M Q) ∧
  (∀ (d : Nat) (lv : List (Option Value)) (st : List Value) (M : jx_M) (Q : jx_Po) (x : Int32), jx_Ev d 107 36 lv (.int x :: st) M Q ↔ (if x = 0 then jx_Ev d 107 39 lv st M Q else jx_Ev d 107 58 lv st M Q)) ∧
  (∀ (d : Nat) (st : List Value) (M : jx_M) (Q : jx_Po) (l1 l2 l3 l4 l5 : Option Value) (x : Nat), jx_Ev d 107 39 [some (.ref x), l1, l2, l3, l4, l5] st M Q ↔ jx_Ev d 107 40 [some (.ref x), l1, l2, l3, l4, l5] (.ref x :: st) M Q) ∧
  (∀ (d : Nat) (st : List Value) (M : jx_M) (Q : jx_Po) (l0 l2 l3 l4 l5 : Option Value) (x : Int32), jx_Ev d 107 40 [l0, some (.int x), l2, l3, l4, l5] st M Q ↔ jx_Ev d 107 41 [l0, some (.int x), l2, l3, l4, l5] (.int x :: st) M Q) ∧
  (∀ (d : Nat) (st : List Value) (M : jx_M) (Q : jx_Po) (l0 l1 l3 l4 l5 : Option Value) (x : Int32), jx_Ev d 107 41 [l0, l1, some (.int x), l3, l4, l5] st M Q ↔ jx_Ev d 107 42 [l0, l1, some (.int x), l3, l4, l5] (.int x :: st) M Q) ∧
  (∀ (d : Nat) (lv : List (Option Value)) (M : jx_M) (Q : jx_Po) (a0 : Int32) (a1 : Int32), jx_Ev (d + 1) 107 42 lv [.int a0, .int a1, .ref 36] M Q ↔ jx_I d 104 [.ref 36, .int a1, .int a0] M (fun x M => jx_Ev (d + 1) 107 45 lv (.int x :: []) M Q)) ∧
  (∀ (d : Nat) (st : List Value) (M : jx_M) (Q : jx_Po) (l1 l2 l3 l4 l5 : Option Value) (x : Nat), jx_Ev d 107 45 [some (.ref x), l1, l2, l3, l4, l5] st M Q ↔ jx_Ev d 107 46 [some (.ref x), l1, l2, l3, l4, l5] (.ref x :: st) M Q) ∧
  (∀ (d : Nat) (lv : List (Option Value)) (st : List Value) (M : jx_M) (Q : jx_Po), jx_Ev d 107 46 lv (.ref 36 :: st) M Q ↔ jx_Ev d 107 49 lv (.ref 40 :: st) M Q) ∧
  (∀ (d : Nat) (st : List Value) (M : jx_M) (Q : jx_Po) (l0 l1 l2 l3 l4 : Option Value) (x : Int32), jx_Ev d 107 49 [l0, l1, l2, l3, l4, some (.int x)] st M Q ↔ jx_Ev d 107 51 [l0, l1, l2, l3, l4, some (.int x)] (.int x :: st) M Q) ∧
  (∀ (d : Nat) (lv : List (Option Value)) (st : List Value) (M : jx_M) (Q : jx_Po) (x : Int32) (a : Nat) (ha : jx_cl a = 9), jx_Ev d 107 51 lv (.int x :: .ref a :: st) M Q ↔ (vp_in x (jx_sz a) ∧ jx_Ev d 107 52 lv (.int (M a x.toNatClampNeg) :: st) M Q)) ∧
  (∀ (d : Nat) (lv : List (Option Value)) (st : List Value) (M : jx_M) (Q : jx_Po) (x z : Int32), jx_Ev d 107 52 lv (.int z :: .int x :: st) M Q ↔ (if z < x then jx_Ev d 107 58 lv st M Q else jx_Ev d 107 55 lv st M Q)) ∧
  (∀ (d : Nat) (st : List Value) (M : jx_M) (Q : jx_Po) (l0 l1 l2 l3 l4 : Option Value) (x : Int32), jx_Ev d 107 55 [l0, l1, l2, l3, l4, some (.int x)] st M Q ↔ jx_Ev d 107 57 [l0, l1, l2, l3, l4, some (.int x)] (.int x :: st) M Q) ∧
  (∀ (d : Nat) (lv : List (Option Value)) (M : jx_M) (Q : jx_Po) (x : Int32), jx_Ev d 107 57 lv [.int x] M Q ↔ Q [.int x] M) ∧
  (∀ (d : Nat) (st : List Value) (M : jx_M) (Q : jx_Po) (l0 l1 l2 l3 l5 : Option Value) (x : Int32), jx_Ev d 107 58 [l0, l1, l2, l3, some (.int x), l5] st M Q ↔ jx_Ev d 107 60 [l0, l1, l2, l3, some (.int x), l5] (.int x :: st) M Q) ∧
  (∀ (d : Nat) (lv : List (Option Value)) (st : List Value) (M : jx_M) (Q : jx_Po), jx_Ev d 107 60 lv st M Q ↔ jx_Ev d 107 61 lv (.int 1 :: st) M Q) ∧
  (∀ (d : Nat) (st : List Value) (M : jx_M) (Q : jx_Po) (l0 l1 l2 l3 l4 : Option Value) (x : Int32), jx_Ev d 107 61 [l0, l1, l2, l3, l4, some (.int x)] st M Q ↔ jx_Ev d 107 63 [l0, l1, l2, l3, l4, some (.int x)] (.int x :: st) M Q) ∧
  (∀ (d : Nat) (lv : List (Option Value)) (st : List Value) (M : jx_M) (Q : jx_Po) (x z : Int32), jx_Ev d 107 63 lv (.int z :: .int x :: st) M Q ↔ jx_Ev d 107 64 lv (.int (x <<< (z &&& 31)) :: st) M Q) ∧
  (∀ (d : Nat) (lv : List (Option Value)) (st : List Value) (M : jx_M) (Q : jx_Po) (x z : Int32), jx_Ev d 107 64 lv (.int z :: .int x :: st) M Q ↔ jx_Ev d 107 65 lv (.int (x ||| z) :: st) M Q) ∧
  (∀ (d : Nat) (st : List Value) (M : jx_M) (Q : jx_Po) (l0 l1 l2 l3 l4 l5 : Option Value) (x : Int32), jx_Ev d 107 65 [l0, l1, l2, l3, l4, l5] (.int x :: st) M Q ↔ jx_Ev d 107 67 [l0, l1, l2, l3, some (.int x), l5] st M Q) ∧
  (∀ (d : Nat) (st : List Value) (M : jx_M) (Q : jx_Po) (l1 l2 l3 l4 l5 : Option Value) (x : Nat), jx_Ev d 107 67 [some (.ref x), l1, l2, l3, l4, l5] st M Q ↔ jx_Ev d 107 68 [some (.ref x), l1, l2, l3, l4, l5] (.ref x :: st) M Q) ∧
  (∀ (d : Nat) (lv : List (Option Value)) (st : List Value) (M : jx_M) (Q : jx_Po), jx_Ev d 107 68 lv (.ref 36 :: st) M Q ↔ jx_Ev d 107 71 lv (.ref 41 :: st) M Q) ∧
  (∀ (d : Nat) (st : List Value) (M : jx_M) (Q : jx_Po) (l0 l1 l2 l3 l4 : Option Value) (x : Int32), jx_Ev d 107 71 [l0, l1, l2, l3, l4, some (.int x)] st M Q ↔ jx_Ev d 107 73 [l0, l1, l2, l3, l4, some (.int x)] (.int x :: st) M Q) ∧
  (∀ (d : Nat) (lv : List (Option Value)) (st : List Value) (M : jx_M) (Q : jx_Po) (x : Int32) (a : Nat) (ha : jx_cl a = 9), jx_Ev d 107 73 lv (.int x :: .ref a :: st) M Q ↔ (vp_in x (jx_sz a) ∧ jx_Ev d 107 74 lv (.int (M a x.toNatClampNeg) :: st) M Q)) ∧
  (∀ (d : Nat) (st : List Value) (M : jx_M) (Q : jx_Po) (l0 l1 l2 l3 l4 l5 : Option Value) (x : Int32), jx_Ev d 107 74 [l0, l1, l2, l3, l4, l5] (.int x :: st) M Q ↔ jx_Ev d 107 76 [l0, l1, l2, l3, l4, some (.int x)] st M Q) ∧
  (∀ (d : Nat) (lv : List (Option Value)) (st : List Value) (M : jx_M) (Q : jx_Po), jx_Ev d 107 76 lv st M Q ↔ jx_Ev d 107 11 lv st M Q) ∧
  (∀ (d : Nat) (lv : List (Option Value)) (st : List Value) (M : jx_M) (Q : jx_Po), jx_Ev d 107 79 lv st M Q ↔ jx_Ev d 107 81 lv (.int (-9) :: st) M Q) ∧
  (∀ (d : Nat) (lv : List (Option Value)) (M : jx_M) (Q : jx_Po) (x : Int32), jx_Ev d 107 81 lv [.int x] M Q ↔ Q [.int x] M) := by
  refine ⟨?_, ?_, ?_, ?_, ?_, ?_, ?_, ?_, ?_, ?_, ?_, ?_, ?_, ?_, ?_, ?_, ?_, ?_, ?_, ?_, ?_, ?_, ?_, ?_, ?_, ?_, ?_, ?_, ?_, ?_, ?_, ?_, ?_, ?_, ?_, ?_, ?_, ?_, ?_, ?_, ?_, ?_, ?_, ?_, ?_, ?_, ?_⟩
  · exact fun d lv st M Q => jx_ev_st (jx_fok (by decide +kernel : decode (jx_mb 107) 0 = .ok (.iconst 0, 1))) rfl rfl rfl
  · exact fun d st M Q l0 l1 l2 l3 l4 l5 x => jx_ev_st (jx_fok (by decide +kernel : decode (jx_mb 107) 1 = .ok (.istore 4, 2))) rfl rfl rfl
  · exact fun d st M Q l1 l2 l3 l4 l5 x => jx_ev_st (jx_fok (by decide +kernel : decode (jx_mb 107) 3 = .ok (.aload_n 0, 1))) rfl rfl rfl
  · exact fun d lv st M Q => jx_k_gf (jx_fok (by decide +kernel : decode (jx_mb 107) 4 = .ok (.getfield 31, 3))) rfl rfl rfl
  · exact fun d st M Q l0 l2 l3 l4 l5 x => jx_ev_st (jx_fok (by decide +kernel : decode (jx_mb 107) 7 = .ok (.iload_n 1, 1))) rfl rfl rfl
  · exact fun d lv st M Q x a ha => jx_k_al (jx_fok (by decide +kernel : decode (jx_mb 107) 8 = .ok (.iaload, 1))) ha
  · exact fun d st M Q l0 l1 l2 l3 l4 l5 x => jx_ev_st (jx_fok (by decide +kernel : decode (jx_mb 107) 9 = .ok (.istore 5, 2))) rfl rfl rfl
  · exact fun d st M Q l0 l1 l2 l3 l4 x => jx_ev_st (jx_fok (by decide +kernel : decode (jx_mb 107) 12 = .ok (.iload 5, 2))) rfl rfl rfl
  · exact fun d lv M Q a0 => jx_ev_ci (jx_fok (by decide +kernel : decode (jx_mb 107) 14 = .ok (.invokevirtual 142, 3))) rfl (jx_ccV (As := [.int a0]) (rest := []) rfl rfl rfl rfl rfl rfl) (by decide)
  · exact fun d lv st M Q x => jx_k_b1 (jx_fok (by decide +kernel : decode (jx_mb 107) 17 = .ok (.ifCond .eq 62, 3))) rfl jx_hEq
  · exact fun d st M Q l0 l1 l2 l3 l5 x => jx_ev_st (jx_fok (by decide +kernel : decode (jx_mb 107) 20 = .ok (.iload 4, 2))) rfl rfl rfl
  · exact fun d st M Q l0 l1 l2 l3 l4 x => jx_ev_st (jx_fok (by decide +kernel : decode (jx_mb 107) 22 = .ok (.iload 5, 2))) rfl rfl rfl
  · exact fun d lv st M Q x z => jx_ev_st (jx_fok (by decide +kernel : decode (jx_mb 107) 24 = .ok (.ishr, 1))) rfl rfl rfl
  · exact fun d lv st M Q => jx_ev_st (jx_fok (by decide +kernel : decode (jx_mb 107) 25 = .ok (.iconst 1, 1))) rfl rfl rfl
  · exact fun d lv st M Q x z => jx_ev_st (jx_fok (by decide +kernel : decode (jx_mb 107) 26 = .ok (.iand, 1))) rfl rfl rfl
  · exact fun d lv st M Q x => jx_k_b1n (jx_fok (by decide +kernel : decode (jx_mb 107) 27 = .ok (.ifCond .ne 52, 3))) rfl jx_hNe
  · exact fun d st M Q l0 l1 l2 l4 l5 x => jx_ev_st (jx_fok (by decide +kernel : decode (jx_mb 107) 30 = .ok (.iload_n 3, 1))) rfl rfl rfl
  · exact fun d st M Q l0 l1 l2 l3 l4 x => jx_ev_st (jx_fok (by decide +kernel : decode (jx_mb 107) 31 = .ok (.iload 5, 2))) rfl rfl rfl
  · exact fun d lv st M Q x z => jx_ev_st (jx_fok (by decide +kernel : decode (jx_mb 107) 33 = .ok (.ishr, 1))) rfl rfl rfl
  · exact fun d lv st M Q => jx_ev_st (jx_fok (by decide +kernel : decode (jx_mb 107) 34 = .ok (.iconst 1, 1))) rfl rfl rfl
  · exact fun d lv st M Q x z => jx_ev_st (jx_fok (by decide +kernel : decode (jx_mb 107) 35 = .ok (.iand, 1))) rfl rfl rfl
  · exact fun d lv st M Q x => jx_k_b1n (jx_fok (by decide +kernel : decode (jx_mb 107) 36 = .ok (.ifCond .ne 22, 3))) rfl jx_hNe
  · exact fun d st M Q l1 l2 l3 l4 l5 x => jx_ev_st (jx_fok (by decide +kernel : decode (jx_mb 107) 39 = .ok (.aload_n 0, 1))) rfl rfl rfl
  · exact fun d st M Q l0 l2 l3 l4 l5 x => jx_ev_st (jx_fok (by decide +kernel : decode (jx_mb 107) 40 = .ok (.iload_n 1, 1))) rfl rfl rfl
  · exact fun d st M Q l0 l1 l3 l4 l5 x => jx_ev_st (jx_fok (by decide +kernel : decode (jx_mb 107) 41 = .ok (.iload_n 2, 1))) rfl rfl rfl
  · exact fun d lv M Q a0 a1 => jx_ev_ci (jx_fok (by decide +kernel : decode (jx_mb 107) 42 = .ok (.invokevirtual 154, 3))) rfl (jx_ccV (As := [.int a1, .int a0]) (rest := []) rfl rfl rfl rfl rfl rfl) (by decide)
  · exact fun d st M Q l1 l2 l3 l4 l5 x => jx_ev_st (jx_fok (by decide +kernel : decode (jx_mb 107) 45 = .ok (.aload_n 0, 1))) rfl rfl rfl
  · exact fun d lv st M Q => jx_k_gf (jx_fok (by decide +kernel : decode (jx_mb 107) 46 = .ok (.getfield 19, 3))) rfl rfl rfl
  · exact fun d st M Q l0 l1 l2 l3 l4 x => jx_ev_st (jx_fok (by decide +kernel : decode (jx_mb 107) 49 = .ok (.iload 5, 2))) rfl rfl rfl
  · exact fun d lv st M Q x a ha => jx_k_al (jx_fok (by decide +kernel : decode (jx_mb 107) 51 = .ok (.iaload, 1))) ha
  · exact fun d lv st M Q x z => jx_k_b2 (jx_fok (by decide +kernel : decode (jx_mb 107) 52 = .ok (.if_icmp .gt 6, 3))) rfl jx_hGt
  · exact fun d st M Q l0 l1 l2 l3 l4 x => jx_ev_st (jx_fok (by decide +kernel : decode (jx_mb 107) 55 = .ok (.iload 5, 2))) rfl rfl rfl
  · exact fun d lv M Q x => jx_k_ri (jx_fok (by decide +kernel : decode (jx_mb 107) 57 = .ok (.ireturn, 1))) rfl
  · exact fun d st M Q l0 l1 l2 l3 l5 x => jx_ev_st (jx_fok (by decide +kernel : decode (jx_mb 107) 58 = .ok (.iload 4, 2))) rfl rfl rfl
  · exact fun d lv st M Q => jx_ev_st (jx_fok (by decide +kernel : decode (jx_mb 107) 60 = .ok (.iconst 1, 1))) rfl rfl rfl
  · exact fun d st M Q l0 l1 l2 l3 l4 x => jx_ev_st (jx_fok (by decide +kernel : decode (jx_mb 107) 61 = .ok (.iload 5, 2))) rfl rfl rfl
  · exact fun d lv st M Q x z => jx_ev_st (jx_fok (by decide +kernel : decode (jx_mb 107) 63 = .ok (.ishl, 1))) rfl rfl rfl
  · exact fun d lv st M Q x z => jx_ev_st (jx_fok (by decide +kernel : decode (jx_mb 107) 64 = .ok (.ior, 1))) rfl rfl rfl
  · exact fun d st M Q l0 l1 l2 l3 l4 l5 x => jx_ev_st (jx_fok (by decide +kernel : decode (jx_mb 107) 65 = .ok (.istore 4, 2))) rfl rfl rfl
  · exact fun d st M Q l1 l2 l3 l4 l5 x => jx_ev_st (jx_fok (by decide +kernel : decode (jx_mb 107) 67 = .ok (.aload_n 0, 1))) rfl rfl rfl
  · exact fun d lv st M Q => jx_k_gf (jx_fok (by decide +kernel : decode (jx_mb 107) 68 = .ok (.getfield 22, 3))) rfl rfl rfl
  · exact fun d st M Q l0 l1 l2 l3 l4 x => jx_ev_st (jx_fok (by decide +kernel : decode (jx_mb 107) 71 = .ok (.iload 5, 2))) rfl rfl rfl
  · exact fun d lv st M Q x a ha => jx_k_al (jx_fok (by decide +kernel : decode (jx_mb 107) 73 = .ok (.iaload, 1))) ha
  · exact fun d st M Q l0 l1 l2 l3 l4 l5 x => jx_ev_st (jx_fok (by decide +kernel : decode (jx_mb 107) 74 = .ok (.istore 5, 2))) rfl rfl rfl
  · exact fun d lv st M Q => jx_k_goto (jx_fok (by decide +kernel : decode (jx_mb 107) 76 = .ok (.goto (-65), 3))) rfl
  · exact fun d lv st M Q => jx_ev_st (jx_fok (by decide +kernel : decode (jx_mb 107) 79 = .ok (.bipush (-9), 2))) rfl rfl rfl
  · exact fun d lv M Q x => jx_k_ri (jx_fok (by decide +kernel : decode (jx_mb 107) 81 = .ok (.ireturn, 1))) rfl
theorem eX8_ownerOf_11 (d : Nat) (st : List Value) (M : jx_M) (Q : jx_Po) (l1 l2 l3 l4 l5 : Option Value) (x : Nat) : jx_Ev d 107 11 [some (.ref x), l1, l2, l3, l4, l5] st M Q ↔ jx_Ev d 107 12 [some (.ref x), l1, l2, l3, l4, l5] (.ref x :: st) M Q := jx_ev_st (jx_fok (by decide +kernel : decode (jx_mb 107) 11 = .ok (.aload_n 0, 1))) rfl rfl rfl
theorem kX8_ownerOf (d : Nat) (M : jx_M) (q : Int32 → jx_M → Prop) (a0 a1 a2 a3 : Value) : jx_I d 107 [a0, a1, a2, a3] M q ↔ jx_Ev d 107 0 [some a0, some a1, some a2, some a3, none, none] [] M (jx_qI q) := Iff.rfl
set_option maxRecDepth 100000 in
theorem eX8_owner :
  (∀ (d : Nat) (st : List Value) (M : jx_M) (Q : jx_Po) (l1 l2 : Option Value) (x : Nat), jx_Ev d 108 0 [some (.ref x), l1, l2] st M Q ↔ jx_Ev d 108 1 [some (.ref x), l1, l2] (.ref x :: st) M Q) ∧
  (∀ (d : Nat) (st : List Value) (M : jx_M) (Q : jx_Po) (l0 l2 : Option Value) (x : Int32), jx_Ev d 108 1 [l0, some (.int x), l2] st M Q ↔ jx_Ev d 108 2 [l0, some (.int x), l2] (.int x :: st) M Q) ∧
  (∀ (d : Nat) (lv : List (Option Value)) (M : jx_M) (Q : jx_Po) (a0 : Int32), jx_Ev (d + 1) 108 2 lv [.int a0, .ref 36] M Q ↔ jx_I d 90 [.ref 36, .int a0] M (fun x M => jx_Ev (d + 1) 108 5 lv (.int x :: []) M Q)) ∧
  (∀ (d : Nat) (lv : List (Option Value)) (st : List Value) (M : jx_M) (Q : jx_Po) (x : Int32), jx_Ev d 108 5 lv (.int x :: st) M Q ↔ (if x = 0 then jx_Ev d 108 8 lv st M Q else jx_Ev d 108 10 lv st M Q)) ∧
  (∀ (d : Nat) (lv : List (Option Value)) (st : List Value) (M : jx_M) (Q : jx_Po), jx_Ev d 108 8 lv st M Q ↔ jx_Ev d 108 9 lv (.int (-1) :: st) M Q) ∧
  (∀ (d : Nat) (lv : List (Option Value)) (M : jx_M) (Q : jx_Po) (x : Int32), jx_Ev d 108 9 lv [.int x] M Q ↔ Q [.int x] M) ∧
  (∀ (d : Nat) (st : List Value) (M : jx_M) (Q : jx_Po) (l0 l1 : Option Value) (x : Int32), jx_Ev d 108 10 [l0, l1, some (.int x)] st M Q ↔ jx_Ev d 108 11 [l0, l1, some (.int x)] (.int x :: st) M Q) ∧
  (∀ (d : Nat) (lv : List (Option Value)) (M : jx_M) (Q : jx_Po) (a0 : Int32), jx_Ev (d + 1) 108 11 lv [.int a0] M Q ↔ jx_I d 105 [.int a0] M (fun x M => jx_Ev (d + 1) 108 14 lv (.int x :: []) M Q)) ∧
  (∀ (d : Nat) (lv : List (Option Value)) (st : List Value) (M : jx_M) (Q : jx_Po) (x : Int32), jx_Ev d 108 14 lv (.int x :: st) M Q ↔ (if x = 0 then jx_Ev d 108 27 lv st M Q else jx_Ev d 108 17 lv st M Q)) ∧
  (∀ (d : Nat) (st : List Value) (M : jx_M) (Q : jx_Po) (l1 l2 : Option Value) (x : Nat), jx_Ev d 108 17 [some (.ref x), l1, l2] st M Q ↔ jx_Ev d 108 18 [some (.ref x), l1, l2] (.ref x :: st) M Q) ∧
  (∀ (d : Nat) (st : List Value) (M : jx_M) (Q : jx_Po) (l0 l2 : Option Value) (x : Int32), jx_Ev d 108 18 [l0, some (.int x), l2] st M Q ↔ jx_Ev d 108 19 [l0, some (.int x), l2] (.int x :: st) M Q) ∧
  (∀ (d : Nat) (st : List Value) (M : jx_M) (Q : jx_Po) (l0 l1 : Option Value) (x : Int32), jx_Ev d 108 19 [l0, l1, some (.int x)] st M Q ↔ jx_Ev d 108 20 [l0, l1, some (.int x)] (.int x :: st) M Q) ∧
  (∀ (d : Nat) (lv : List (Option Value)) (st : List Value) (M : jx_M) (Q : jx_Po), jx_Ev d 108 20 lv st M Q ↔ jx_Ev d 108 21 lv (.int 0 :: st) M Q) ∧
  (∀ (d : Nat) (lv : List (Option Value)) (M : jx_M) (Q : jx_Po) (a0 : Int32) (a1 : Int32) (a2 : Int32), jx_Ev (d + 1) 108 21 lv [.int a0, .int a1, .int a2, .ref 36] M Q ↔ jx_I d 107 [.ref 36, .int a2, .int a1, .int a0] M (fun x M => jx_Ev (d + 1) 108 24 lv (.int x :: []) M Q)) ∧
  (∀ (d : Nat) (lv : List (Option Value)) (st : List Value) (M : jx_M) (Q : jx_Po), jx_Ev d 108 24 lv st M Q ↔ jx_Ev d 108 29 lv st M Q) ∧
  (∀ (d : Nat) (lv : List (Option Value)) (st : List Value) (M : jx_M) (Q : jx_Po), jx_Ev d 108 27 lv st M Q ↔ jx_Ev d 108 29 lv (.int (-2) :: st) M Q) ∧
  (∀ (d : Nat) (lv : List (Option Value)) (M : jx_M) (Q : jx_Po) (x : Int32), jx_Ev d 108 29 lv [.int x] M Q ↔ Q [.int x] M) := by
  refine ⟨?_, ?_, ?_, ?_, ?_, ?_, ?_, ?_, ?_, ?_, ?_, ?_, ?_, ?_, ?_, ?_, ?_⟩
  · exact fun d st M Q l1 l2 x => jx_ev_st (jx_fok (by decide +kernel : decode (jx_mb 108) 0 = .ok (.aload_n 0, 1))) rfl rfl rfl
  · exact fun d st M Q l0 l2 x => jx_ev_st (jx_fok (by decide +kernel : decode (jx_mb 108) 1 = .ok (.iload_n 1, 1))) rfl rfl rfl
  · exact fun d lv M Q a0 => jx_ev_ci (jx_fok (by decide +kernel : decode (jx_mb 108) 2 = .ok (.invokevirtual 148, 3))) rfl (jx_ccV (As := [.int a0]) (rest := []) rfl rfl rfl rfl rfl rfl) (by decide)
  · exact fun d lv st M Q x => jx_k_b1n (jx_fok (by decide +kernel : decode (jx_mb 108) 5 = .ok (.ifCond .ne 5, 3))) rfl jx_hNe
  · exact fun d lv st M Q => jx_ev_st (jx_fok (by decide +kernel : decode (jx_mb 108) 8 = .ok (.iconst (-1), 1))) rfl rfl rfl
  · exact fun d lv M Q x => jx_k_ri (jx_fok (by decide +kernel : decode (jx_mb 108) 9 = .ok (.ireturn, 1))) rfl
  · exact fun d st M Q l0 l1 x => jx_ev_st (jx_fok (by decide +kernel : decode (jx_mb 108) 10 = .ok (.iload_n 2, 1))) rfl rfl rfl
  · exact fun d lv M Q a0 => jx_ev_ci (jx_fok (by decide +kernel : decode (jx_mb 108) 11 = .ok (.invokestatic 151, 3))) rfl (jx_ccS (As := [.int a0]) (rest := []) rfl rfl rfl rfl rfl) (by decide)
  · exact fun d lv st M Q x => jx_k_b1 (jx_fok (by decide +kernel : decode (jx_mb 108) 14 = .ok (.ifCond .eq 13, 3))) rfl jx_hEq
  · exact fun d st M Q l1 l2 x => jx_ev_st (jx_fok (by decide +kernel : decode (jx_mb 108) 17 = .ok (.aload_n 0, 1))) rfl rfl rfl
  · exact fun d st M Q l0 l2 x => jx_ev_st (jx_fok (by decide +kernel : decode (jx_mb 108) 18 = .ok (.iload_n 1, 1))) rfl rfl rfl
  · exact fun d st M Q l0 l1 x => jx_ev_st (jx_fok (by decide +kernel : decode (jx_mb 108) 19 = .ok (.iload_n 2, 1))) rfl rfl rfl
  · exact fun d lv st M Q => jx_ev_st (jx_fok (by decide +kernel : decode (jx_mb 108) 20 = .ok (.iconst 0, 1))) rfl rfl rfl
  · exact fun d lv M Q a0 a1 a2 => jx_ev_ci (jx_fok (by decide +kernel : decode (jx_mb 108) 21 = .ok (.invokevirtual 158, 3))) rfl (jx_ccV (As := [.int a2, .int a1, .int a0]) (rest := []) rfl rfl rfl rfl rfl rfl) (by decide)
  · exact fun d lv st M Q => jx_k_goto (jx_fok (by decide +kernel : decode (jx_mb 108) 24 = .ok (.goto 5, 3))) rfl
  · exact fun d lv st M Q => jx_ev_st (jx_fok (by decide +kernel : decode (jx_mb 108) 27 = .ok (.bipush (-2), 2))) rfl rfl rfl
  · exact fun d lv M Q x => jx_k_ri (jx_fok (by decide +kernel : decode (jx_mb 108) 29 = .ok (.ireturn, 1))) rfl
theorem kX8_owner (d : Nat) (M : jx_M) (q : Int32 → jx_M → Prop) (a0 a1 a2 : Value) : jx_I d 108 [a0, a1, a2] M q ↔ jx_Ev d 108 0 [some a0, some a1, some a2] [] M (jx_qI q) := Iff.rfl
set_option maxRecDepth 100000 in
theorem eX8_last :
  (∀ (d : Nat) (st : List Value) (M : jx_M) (Q : jx_Po) (l1 l2 : Option Value) (x : Nat), jx_Ev d 109 0 [some (.ref x), l1, l2] st M Q ↔ jx_Ev d 109 1 [some (.ref x), l1, l2] (.ref x :: st) M Q) ∧
  (∀ (d : Nat) (st : List Value) (M : jx_M) (Q : jx_Po) (l0 l2 : Option Value) (x : Int32), jx_Ev d 109 1 [l0, some (.int x), l2] st M Q ↔ jx_Ev d 109 2 [l0, some (.int x), l2] (.int x :: st) M Q) ∧
  (∀ (d : Nat) (lv : List (Option Value)) (M : jx_M) (Q : jx_Po) (a0 : Int32), jx_Ev (d + 1) 109 2 lv [.int a0, .ref 36] M Q ↔ jx_I d 90 [.ref 36, .int a0] M (fun x M => jx_Ev (d + 1) 109 5 lv (.int x :: []) M Q)) ∧
  (∀ (d : Nat) (lv : List (Option Value)) (st : List Value) (M : jx_M) (Q : jx_Po) (x : Int32), jx_Ev d 109 5 lv (.int x :: st) M Q ↔ (if x = 0 then jx_Ev d 109 8 lv st M Q else jx_Ev d 109 10 lv st M Q)) ∧
  (∀ (d : Nat) (lv : List (Option Value)) (st : List Value) (M : jx_M) (Q : jx_Po), jx_Ev d 109 8 lv st M Q ↔ jx_Ev d 109 9 lv (.int (-1) :: st) M Q) ∧
  (∀ (d : Nat) (lv : List (Option Value)) (M : jx_M) (Q : jx_Po) (x : Int32), jx_Ev d 109 9 lv [.int x] M Q ↔ Q [.int x] M) ∧
  (∀ (d : Nat) (lv : List (Option Value)) (st : List Value) (M : jx_M) (Q : jx_Po), jx_Ev d 109 10 lv st M Q ↔ jx_Ev d 109 12 lv (.int 9 :: st) M Q) ∧
  (∀ (d : Nat) (st : List Value) (M : jx_M) (Q : jx_Po) (l0 l1 l2 : Option Value) (x : Int32), jx_Ev d 109 12 [l0, l1, l2] (.int x :: st) M Q ↔ jx_Ev d 109 13 [l0, l1, some (.int x)] st M Q) ∧
  (∀ (d : Nat) (lv : List (Option Value)) (st : List Value) (M : jx_M) (Q : jx_Po) (x : Int32), jx_Ev d 109 14 lv (.int x :: st) M Q ↔ (if x < 0 then jx_Ev d 109 37 lv st M Q else jx_Ev d 109 17 lv st M Q)) ∧
  (∀ (d : Nat) (st : List Value) (M : jx_M) (Q : jx_Po) (l1 l2 : Option Value) (x : Nat), jx_Ev d 109 17 [some (.ref x), l1, l2] st M Q ↔ jx_Ev d 109 18 [some (.ref x), l1, l2] (.ref x :: st) M Q) ∧
  (∀ (d : Nat) (st : List Value) (M : jx_M) (Q : jx_Po) (l0 l2 : Option Value) (x : Int32), jx_Ev d 109 18 [l0, some (.int x), l2] st M Q ↔ jx_Ev d 109 19 [l0, some (.int x), l2] (.int x :: st) M Q) ∧
  (∀ (d : Nat) (st : List Value) (M : jx_M) (Q : jx_Po) (l0 l1 : Option Value) (x : Int32), jx_Ev d 109 19 [l0, l1, some (.int x)] st M Q ↔ jx_Ev d 109 20 [l0, l1, some (.int x)] (.int x :: st) M Q) ∧
  (∀ (d : Nat) (lv : List (Option Value)) (st : List Value) (M : jx_M) (Q : jx_Po), jx_Ev d 109 20 lv st M Q ↔ jx_Ev d 109 21 lv (.int 0 :: st) M Q) ∧
  (∀ (d : Nat) (lv : List (Option Value)) (M : jx_M) (Q : jx_Po) (a0 : Int32) (a1 : Int32) (a2 : Int32), jx_Ev (d + 1) 109 21 lv [.int a0, .int a1, .int a2, .ref 36] M Q ↔ jx_I d 107 [.ref 36, .int a2, .int a1, .int a0] M (fun x M => jx_Ev (d + 1) 109 24 lv (.int x :: []) M Q)) ∧
  (∀ (d : Nat) (lv : List (Option Value)) (st : List Value) (M : jx_M) (Q : jx_Po), jx_Ev d 109 24 lv st M Q ↔ jx_Ev d 109 26 lv (.int (-9) :: st) M Q) ∧
  (∀ (d : Nat) (lv : List (Option Value)) (st : List Value) (M : jx_M) (Q : jx_Po) (x z : Int32), jx_Ev d 109 26 lv (.int z :: .int x :: st) M Q ↔ (if x = z then jx_Ev d 109 31 lv st M Q else jx_Ev d 109 29 lv st M Q)) ∧
  (∀ (d : Nat) (st : List Value) (M : jx_M) (Q : jx_Po) (l0 l1 : Option Value) (x : Int32), jx_Ev d 109 29 [l0, l1, some (.int x)] st M Q ↔ jx_Ev d 109 30 [l0, l1, some (.int x)] (.int x :: st) M Q) ∧
  (∀ (d : Nat) (lv : List (Option Value)) (M : jx_M) (Q : jx_Po) (x : Int32), jx_Ev d 109 30 lv [.int x] M Q ↔ Q [.int x] M) ∧
  (∀ (d : Nat) (st : List Value) (M : jx_M) (Q : jx_Po) (l0 l1 : Option Value) (x : Int32), jx_Ev d 109 31 [l0, l1, some (.int x)] st M Q ↔ jx_Ev d 109 34 [l0, l1, some (.int (x + (-1)))] st M Q) ∧
  (∀ (d : Nat) (lv : List (Option Value)) (st : List Value) (M : jx_M) (Q : jx_Po), jx_Ev d 109 34 lv st M Q ↔ jx_Ev d 109 13 lv st M Q) ∧
  (∀ (d : Nat) (lv : List (Option Value)) (st : List Value) (M : jx_M) (Q : jx_Po), jx_Ev d 109 37 lv st M Q ↔ jx_Ev d 109 39 lv (.int (-9) :: st) M Q) ∧
  (∀ (d : Nat) (lv : List (Option Value)) (M : jx_M) (Q : jx_Po) (x : Int32), jx_Ev d 109 39 lv [.int x] M Q ↔ Q [.int x] M) := by
  refine ⟨?_, ?_, ?_, ?_, ?_, ?_, ?_, ?_, ?_, ?_, ?_, ?_, ?_, ?_, ?_, ?_, ?_, ?_, ?_, ?_, ?_, ?_⟩
  · exact fun d st M Q l1 l2 x => jx_ev_st (jx_fok (by decide +kernel : decode (jx_mb 109) 0 = .ok (.aload_n 0, 1))) rfl rfl rfl
  · exact fun d st M Q l0 l2 x => jx_ev_st (jx_fok (by decide +kernel : decode (jx_mb 109) 1 = .ok (.iload_n 1, 1))) rfl rfl rfl
  · exact fun d lv M Q a0 => jx_ev_ci (jx_fok (by decide +kernel : decode (jx_mb 109) 2 = .ok (.invokevirtual 148, 3))) rfl (jx_ccV (As := [.int a0]) (rest := []) rfl rfl rfl rfl rfl rfl) (by decide)
  · exact fun d lv st M Q x => jx_k_b1n (jx_fok (by decide +kernel : decode (jx_mb 109) 5 = .ok (.ifCond .ne 5, 3))) rfl jx_hNe
  · exact fun d lv st M Q => jx_ev_st (jx_fok (by decide +kernel : decode (jx_mb 109) 8 = .ok (.iconst (-1), 1))) rfl rfl rfl
  · exact fun d lv M Q x => jx_k_ri (jx_fok (by decide +kernel : decode (jx_mb 109) 9 = .ok (.ireturn, 1))) rfl
  · exact fun d lv st M Q => jx_ev_st (jx_fok (by decide +kernel : decode (jx_mb 109) 10 = .ok (.bipush 9, 2))) rfl rfl rfl
  · exact fun d st M Q l0 l1 l2 x => jx_ev_st (jx_fok (by decide +kernel : decode (jx_mb 109) 12 = .ok (.istore_n 2, 1))) rfl rfl rfl
  · exact fun d lv st M Q x => jx_k_b1 (jx_fok (by decide +kernel : decode (jx_mb 109) 14 = .ok (.ifCond .lt 23, 3))) rfl jx_hLt
  · exact fun d st M Q l1 l2 x => jx_ev_st (jx_fok (by decide +kernel : decode (jx_mb 109) 17 = .ok (.aload_n 0, 1))) rfl rfl rfl
  · exact fun d st M Q l0 l2 x => jx_ev_st (jx_fok (by decide +kernel : decode (jx_mb 109) 18 = .ok (.iload_n 1, 1))) rfl rfl rfl
  · exact fun d st M Q l0 l1 x => jx_ev_st (jx_fok (by decide +kernel : decode (jx_mb 109) 19 = .ok (.iload_n 2, 1))) rfl rfl rfl
  · exact fun d lv st M Q => jx_ev_st (jx_fok (by decide +kernel : decode (jx_mb 109) 20 = .ok (.iconst 0, 1))) rfl rfl rfl
  · exact fun d lv M Q a0 a1 a2 => jx_ev_ci (jx_fok (by decide +kernel : decode (jx_mb 109) 21 = .ok (.invokevirtual 158, 3))) rfl (jx_ccV (As := [.int a2, .int a1, .int a0]) (rest := []) rfl rfl rfl rfl rfl rfl) (by decide)
  · exact fun d lv st M Q => jx_ev_st (jx_fok (by decide +kernel : decode (jx_mb 109) 24 = .ok (.bipush (-9), 2))) rfl rfl rfl
  · exact fun d lv st M Q x z => jx_k_b2 (jx_fok (by decide +kernel : decode (jx_mb 109) 26 = .ok (.if_icmp .eq 5, 3))) rfl jx_hEq
  · exact fun d st M Q l0 l1 x => jx_ev_st (jx_fok (by decide +kernel : decode (jx_mb 109) 29 = .ok (.iload_n 2, 1))) rfl rfl rfl
  · exact fun d lv M Q x => jx_k_ri (jx_fok (by decide +kernel : decode (jx_mb 109) 30 = .ok (.ireturn, 1))) rfl
  · exact fun d st M Q l0 l1 x => jx_ev_st (jx_fok (by decide +kernel : decode (jx_mb 109) 31 = .ok (.iinc 2 (-1), 3))) rfl rfl rfl
  · exact fun d lv st M Q => jx_k_goto (jx_fok (by decide +kernel : decode (jx_mb 109) 34 = .ok (.goto (-21), 3))) rfl
  · exact fun d lv st M Q => jx_ev_st (jx_fok (by decide +kernel : decode (jx_mb 109) 37 = .ok (.bipush (-9), 2))) rfl rfl rfl
  · exact fun d lv M Q x => jx_k_ri (jx_fok (by decide +kernel : decode (jx_mb 109) 39 = .ok (.ireturn, 1))) rfl
theorem eX8_last_13 (d : Nat) (st : List Value) (M : jx_M) (Q : jx_Po) (l0 l1 : Option Value) (x : Int32) : jx_Ev d 109 13 [l0, l1, some (.int x)] st M Q ↔ jx_Ev d 109 14 [l0, l1, some (.int x)] (.int x :: st) M Q := jx_ev_st (jx_fok (by decide +kernel : decode (jx_mb 109) 13 = .ok (.iload_n 2, 1))) rfl rfl rfl
theorem kX8_last (d : Nat) (M : jx_M) (q : Int32 → jx_M → Prop) (a0 a1 : Value) : jx_I d 109 [a0, a1] M q ↔ jx_Ev d 109 0 [some a0, some a1, none] [] M (jx_qI q) := Iff.rfl
set_option maxRecDepth 100000 in
theorem eX8_harmTo :
  (∀ (d : Nat) (lv : List (Option Value)) (st : List Value) (M : jx_M) (Q : jx_Po), jx_Ev d 110 0 lv st M Q ↔ jx_Ev d 110 1 lv (.int 0 :: st) M Q) ∧
  (∀ (d : Nat) (st : List Value) (M : jx_M) (Q : jx_Po) (l0 l1 l2 l3 l4 l5 : Option Value) (x : Int32), jx_Ev d 110 1 [l0, l1, l2, l3, l4, l5] (.int x :: st) M Q ↔ jx_Ev d 110 2 [l0, l1, some (.int x), l3, l4, l5] st M Q) ∧
  (∀ (d : Nat) (lv : List (Option Value)) (st : List Value) (M : jx_M) (Q : jx_Po), jx_Ev d 110 2 lv st M Q ↔ jx_Ev d 110 3 lv (.int 0 :: st) M Q) ∧
  (∀ (d : Nat) (st : List Value) (M : jx_M) (Q : jx_Po) (l0 l1 l2 l3 l4 l5 : Option Value) (x : Int32), jx_Ev d 110 3 [l0, l1, l2, l3, l4, l5] (.int x :: st) M Q ↔ jx_Ev d 110 4 [l0, l1, l2, some (.int x), l4, l5] st M Q) ∧
  (∀ (d : Nat) (lv : List (Option Value)) (st : List Value) (M : jx_M) (Q : jx_Po), jx_Ev d 110 5 lv st M Q ↔ jx_Ev d 110 6 lv (.int 4 :: st) M Q) ∧
  (∀ (d : Nat) (lv : List (Option Value)) (st : List Value) (M : jx_M) (Q : jx_Po) (x z : Int32), jx_Ev d 110 6 lv (.int z :: .int x :: st) M Q ↔ (if z ≤ x then jx_Ev d 110 101 lv st M Q else jx_Ev d 110 9 lv st M Q)) ∧
  (∀ (d : Nat) (lv : List (Option Value)) (st : List Value) (M : jx_M) (Q : jx_Po), jx_Ev d 110 9 lv st M Q ↔ jx_Ev d 110 10 lv (.int 0 :: st) M Q) ∧
  (∀ (d : Nat) (st : List Value) (M : jx_M) (Q : jx_Po) (l0 l1 l2 l3 l4 l5 : Option Value) (x : Int32), jx_Ev d 110 10 [l0, l1, l2, l3, l4, l5] (.int x :: st) M Q ↔ jx_Ev d 110 12 [l0, l1, l2, l3, some (.int x), l5] st M Q) ∧
  (∀ (d : Nat) (lv : List (Option Value)) (st : List Value) (M : jx_M) (Q : jx_Po), jx_Ev d 110 12 lv st M Q ↔ jx_Ev d 110 13 lv (.int 0 :: st) M Q) ∧
  (∀ (d : Nat) (st : List Value) (M : jx_M) (Q : jx_Po) (l0 l1 l2 l3 l4 l5 : Option Value) (x : Int32), jx_Ev d 110 13 [l0, l1, l2, l3, l4, l5] (.int x :: st) M Q ↔ jx_Ev d 110 15 [l0, l1, l2, l3, l4, some (.int x)] st M Q) ∧
  (∀ (d : Nat) (st : List Value) (M : jx_M) (Q : jx_Po) (l1 l2 l3 l4 l5 : Option Value) (x : Nat), jx_Ev d 110 17 [some (.ref x), l1, l2, l3, l4, l5] st M Q ↔ jx_Ev d 110 18 [some (.ref x), l1, l2, l3, l4, l5] (.ref x :: st) M Q) ∧
  (∀ (d : Nat) (lv : List (Option Value)) (st : List Value) (M : jx_M) (Q : jx_Po), jx_Ev d 110 18 lv (.ref 36 :: st) M Q ↔ jx_Ev d 110 21 lv (.int (M 36 6) :: st) M Q) ∧
  (∀ (d : Nat) (lv : List (Option Value)) (st : List Value) (M : jx_M) (Q : jx_Po) (x z : Int32), jx_Ev d 110 21 lv (.int z :: .int x :: st) M Q ↔ (if z ≤ x then jx_Ev d 110 68 lv st M Q else jx_Ev d 110 24 lv st M Q)) ∧
  (∀ (d : Nat) (st : List Value) (M : jx_M) (Q : jx_Po) (l0 l1 l2 l3 l5 : Option Value) (x : Int32), jx_Ev d 110 24 [l0, l1, l2, l3, some (.int x), l5] st M Q ↔ jx_Ev d 110 26 [l0, l1, l2, l3, some (.int x), l5] (.int x :: st) M Q) ∧
  (∀ (d : Nat) (st : List Value) (M : jx_M) (Q : jx_Po) (l1 l2 l3 l4 l5 : Option Value) (x : Nat), jx_Ev d 110 26 [some (.ref x), l1, l2, l3, l4, l5] st M Q ↔ jx_Ev d 110 27 [some (.ref x), l1, l2, l3, l4, l5] (.ref x :: st) M Q) ∧
  (∀ (d : Nat) (lv : List (Option Value)) (st : List Value) (M : jx_M) (Q : jx_Po), jx_Ev d 110 27 lv (.ref 36 :: st) M Q ↔ jx_Ev d 110 30 lv (.ref 44 :: st) M Q) ∧
  (∀ (d : Nat) (st : List Value) (M : jx_M) (Q : jx_Po) (l0 l1 l2 l3 l4 : Option Value) (x : Int32), jx_Ev d 110 30 [l0, l1, l2, l3, l4, some (.int x)] st M Q ↔ jx_Ev d 110 32 [l0, l1, l2, l3, l4, some (.int x)] (.int x :: st) M Q) ∧
  (∀ (d : Nat) (lv : List (Option Value)) (st : List Value) (M : jx_M) (Q : jx_Po) (x : Int32) (a : Nat) (ha : jx_cl a = 9), jx_Ev d 110 32 lv (.int x :: .ref a :: st) M Q ↔ (vp_in x (jx_sz a) ∧ jx_Ev d 110 33 lv (.int (M a x.toNatClampNeg) :: st) M Q)) ∧
  (∀ (d : Nat) (st : List Value) (M : jx_M) (Q : jx_Po) (l0 l2 l3 l4 l5 : Option Value) (x : Int32), jx_Ev d 110 33 [l0, some (.int x), l2, l3, l4, l5] st M Q ↔ jx_Ev d 110 34 [l0, some (.int x), l2, l3, l4, l5] (.int x :: st) M Q) ∧
  (∀ (d : Nat) (lv : List (Option Value)) (st : List Value) (M : jx_M) (Q : jx_Po) (x z : Int32), jx_Ev d 110 34 lv (.int z :: .int x :: st) M Q ↔ (if x = z then jx_Ev d 110 37 lv st M Q else jx_Ev d 110 58 lv st M Q)) ∧
  (∀ (d : Nat) (st : List Value) (M : jx_M) (Q : jx_Po) (l1 l2 l3 l4 l5 : Option Value) (x : Nat), jx_Ev d 110 37 [some (.ref x), l1, l2, l3, l4, l5] st M Q ↔ jx_Ev d 110 38 [some (.ref x), l1, l2, l3, l4, l5] (.ref x :: st) M Q) ∧
  (∀ (d : Nat) (lv : List (Option Value)) (st : List Value) (M : jx_M) (Q : jx_Po), jx_Ev d 110 38 lv (.ref 36 :: st) M Q ↔ jx_Ev d 110 41 lv (.ref 50 :: st) M Q) ∧
  (∀ (d : Nat) (st : List Value) (M : jx_M) (Q : jx_Po) (l0 l1 l2 l3 l4 : Option Value) (x : Int32), jx_Ev d 110 41 [l0, l1, l2, l3, l4, some (.int x)] st M Q ↔ jx_Ev d 110 43 [l0, l1, l2, l3, l4, some (.int x)] (.int x :: st) M Q) ∧
  (∀ (d : Nat) (lv : List (Option Value)) (st : List Value) (M : jx_M) (Q : jx_Po) (x : Int32) (a : Nat) (ha : jx_cl a = 9), jx_Ev d 110 43 lv (.int x :: .ref a :: st) M Q ↔ (vp_in x (jx_sz a) ∧ jx_Ev d 110 44 lv (.int (M a x.toNatClampNeg) :: st) M Q)) ∧
  (∀ (d : Nat) (st : List Value) (M : jx_M) (Q : jx_Po) (l0 l1 l2 l4 l5 : Option Value) (x : Int32), jx_Ev d 110 44 [l0, l1, l2, some (.int x), l4, l5] st M Q ↔ jx_Ev d 110 45 [l0, l1, l2, some (.int x), l4, l5] (.int x :: st) M Q) ∧
  (∀ (d : Nat) (lv : List (Option Value)) (st : List Value) (M : jx_M) (Q : jx_Po) (x z : Int32), jx_Ev d 110 45 lv (.int z :: .int x :: st) M Q ↔ (if x = z then jx_Ev d 110 48 lv st M Q else jx_Ev d 110 58 lv st M Q)) ∧
  (∀ (d : Nat) (st : List Value) (M : jx_M) (Q : jx_Po) (l1 l2 l3 l4 l5 : Option Value) (x : Nat), jx_Ev d 110 48 [some (.ref x), l1, l2, l3, l4, l5] st M Q ↔ jx_Ev d 110 49 [some (.ref x), l1, l2, l3, l4, l5] (.ref x :: st) M Q) ∧
  (∀ (d : Nat) (st : List Value) (M : jx_M) (Q : jx_Po) (l0 l1 l2 l3 l4 : Option Value) (x : Int32), jx_Ev d 110 49 [l0, l1, l2, l3, l4, some (.int x)] st M Q ↔ jx_Ev d 110 51 [l0, l1, l2, l3, l4, some (.int x)] (.int x :: st) M Q) ∧
  (∀ (d : Nat) (st : List Value) (M : jx_M) (Q : jx_Po) (l0 l1 l2 l4 l5 : Option Value) (x : Int32), jx_Ev d 110 51 [l0, l1, l2, some (.int x), l4, l5] st M Q ↔ jx_Ev d 110 52 [l0, l1, l2, some (.int x), l4, l5] (.int x :: st) M Q) ∧
  (∀ (d : Nat) (lv : List (Option Value)) (M : jx_M) (Q : jx_Po) (a0 : Int32) (a1 : Int32) (a3 : Int32), jx_Ev (d + 1) 110 52 lv [.int a0, .int a1, .ref 36, .int a3] M Q ↔ jx_I d 104 [.ref 36, .int a1, .int a0] M (fun x M => jx_Ev (d + 1) 110 55 lv (.int x :: [.int a3]) M Q)) ∧
  (∀ (d : Nat) (lv : List (Option Value)) (st : List Value) (M : jx_M) (Q : jx_Po), jx_Ev d 110 55 lv st M Q ↔ jx_Ev d 110 59 lv st M Q) ∧
  (∀ (d : Nat) (lv : List (Option Value)) (st : List Value) (M : jx_M) (Q : jx_Po), jx_Ev d 110 58 lv st M Q ↔ jx_Ev d 110 59 lv (.int 0 :: st) M Q) ∧
  (∀ (d : Nat) (lv : List (Option Value)) (st : List Value) (M : jx_M) (Q : jx_Po) (x z : Int32), jx_Ev d 110 59 lv (.int z :: .int x :: st) M Q ↔ jx_Ev d 110 60 lv (.int (x + z) :: st) M Q) ∧
  (∀ (d : Nat) (st : List Value) (M : jx_M) (Q : jx_Po) (l0 l1 l2 l3 l4 l5 : Option Value) (x : Int32), jx_Ev d 110 60 [l0, l1, l2, l3, l4, l5] (.int x :: st) M Q ↔ jx_Ev d 110 62 [l0, l1, l2, l3, some (.int x), l5] st M Q) ∧
  (∀ (d : Nat) (st : List Value) (M : jx_M) (Q : jx_Po) (l0 l1 l2 l3 l4 : Option Value) (x : Int32), jx_Ev d 110 62 [l0, l1, l2, l3, l4, some (.int x)] st M Q ↔ jx_Ev d 110 65 [l0, l1, l2, l3, l4, some (.int (x + 1))] st M Q) ∧
  (∀ (d : Nat) (lv : List (Option Value)) (st : List Value) (M : jx_M) (Q : jx_Po), jx_Ev d 110 65 lv st M Q ↔ jx_Ev d 110 15 lv st M Q) ∧
  (∀ (d : Nat) (st : List Value) (M : jx_M) (Q : jx_Po) (l0 l1 l3 l4 l5 : Option Value) (x : Int32), jx_Ev d 110 68 [l0, l1, some (.int x), l3, l4, l5] st M Q ↔ jx_Ev d 110 69 [l0, l1, some (.int x), l3, l4, l5] (.int x :: st) M Q) ∧
  (∀ (d : Nat) (st : List Value) (M : jx_M) (Q : jx_Po) (l0 l1 l2 l3 l5 : Option Value) (x : Int32), jx_Ev d 110 69 [l0, l1, l2, l3, some (.int x), l5] st M Q ↔ jx_Ev d 110 71 [l0, l1, l2, l3, some (.int x), l5] (.int x :: st) M Q) ∧
  (∀ (d : Nat) (st : List Value) (M : jx_M) (Q : jx_Po) (l1 l2 l3 l4 l5 : Option Value) (x : Nat), jx_Ev d 110 71 [some (.ref x), l1, l2, l3, l4, l5] st M Q ↔ jx_Ev d 110 72 [some (.ref x), l1, l2, l3, l4, l5] (.ref x :: st) M Q) ∧
  (∀ (d : Nat) (lv : List (Option Value)) (st : List Value) (M : jx_M) (Q : jx_Po), jx_Ev d 110 72 lv (.ref 36 :: st) M Q ↔ jx_Ev d 110 75 lv (.ref 40 :: st) M Q) ∧
  (∀ (d : Nat) (st : List Value) (M : jx_M) (Q : jx_Po) (l0 l2 l3 l4 l5 : Option Value) (x : Int32), jx_Ev d 110 75 [l0, some (.int x), l2, l3, l4, l5] st M Q ↔ jx_Ev d 110 76 [l0, some (.int x), l2, l3, l4, l5] (.int x :: st) M Q) ∧
  (∀ (d : Nat) (lv : List (Option Value)) (st : List Value) (M : jx_M) (Q : jx_Po) (x : Int32) (a : Nat) (ha : jx_cl a = 9), jx_Ev d 110 76 lv (.int x :: .ref a :: st) M Q ↔ (vp_in x (jx_sz a) ∧ jx_Ev d 110 77 lv (.int (M a x.toNatClampNeg) :: st) M Q)) ∧
  (∀ (d : Nat) (lv : List (Option Value)) (st : List Value) (M : jx_M) (Q : jx_Po) (x z : Int32), jx_Ev d 110 77 lv (.int z :: .int x :: st) M Q ↔ (if x ≤ z then jx_Ev d 110 92 lv st M Q else jx_Ev d 110 80 lv st M Q)) ∧
  (∀ (d : Nat) (st : List Value) (M : jx_M) (Q : jx_Po) (l0 l1 l2 l3 l5 : Option Value) (x : Int32), jx_Ev d 110 80 [l0, l1, l2, l3, some (.int x), l5] st M Q ↔ jx_Ev d 110 82 [l0, l1, l2, l3, some (.int x), l5] (.int x :: st) M Q) ∧
  (∀ (d : Nat) (st : List Value) (M : jx_M) (Q : jx_Po) (l1 l2 l3 l4 l5 : Option Value) (x : Nat), jx_Ev d 110 82 [some (.ref x), l1, l2, l3, l4, l5] st M Q ↔ jx_Ev d 110 83 [some (.ref x), l1, l2, l3, l4, l5] (.ref x :: st) M Q) ∧
  (∀ (d : Nat) (lv : List (Option Value)) (st : List Value) (M : jx_M) (Q : jx_Po), jx_Ev d 110 83 lv (.ref 36 :: st) M Q ↔ jx_Ev d 110 86 lv (.ref 40 :: st) M Q) ∧
  (∀ (d : Nat) (st : List Value) (M : jx_M) (Q : jx_Po) (l0 l2 l3 l4 l5 : Option Value) (x : Int32), jx_Ev d 110 86 [l0, some (.int x), l2, l3, l4, l5] st M Q ↔ jx_Ev d 110 87 [l0, some (.int x), l2, l3, l4, l5] (.int x :: st) M Q) ∧
  (∀ (d : Nat) (lv : List (Option Value)) (st : List Value) (M : jx_M) (Q : jx_Po) (x : Int32) (a : Nat) (ha : jx_cl a = 9), jx_Ev d 110 87 lv (.int x :: .ref a :: st) M Q ↔ (vp_in x (jx_sz a) ∧ jx_Ev d 110 88 lv (.int (M a x.toNatClampNeg) :: st) M Q)) ∧
  (∀ (d : Nat) (lv : List (Option Value)) (st : List Value) (M : jx_M) (Q : jx_Po) (x z : Int32), jx_Ev d 110 88 lv (.int z :: .int x :: st) M Q ↔ jx_Ev d 110 89 lv (.int (x - z) :: st) M Q) ∧
  (∀ (d : Nat) (lv : List (Option Value)) (st : List Value) (M : jx_M) (Q : jx_Po), jx_Ev d 110 89 lv st M Q ↔ jx_Ev d 110 93 lv st M Q) ∧
  (∀ (d : Nat) (lv : List (Option Value)) (st : List Value) (M : jx_M) (Q : jx_Po), jx_Ev d 110 92 lv st M Q ↔ jx_Ev d 110 93 lv (.int 0 :: st) M Q) ∧
  (∀ (d : Nat) (lv : List (Option Value)) (st : List Value) (M : jx_M) (Q : jx_Po) (x z : Int32), jx_Ev d 110 93 lv (.int z :: .int x :: st) M Q ↔ jx_Ev d 110 94 lv (.int (x + z) :: st) M Q) ∧
  (∀ (d : Nat) (st : List Value) (M : jx_M) (Q : jx_Po) (l0 l1 l2 l3 l4 l5 : Option Value) (x : Int32), jx_Ev d 110 94 [l0, l1, l2, l3, l4, l5] (.int x :: st) M Q ↔ jx_Ev d 110 95 [l0, l1, some (.int x), l3, l4, l5] st M Q) ∧
  (∀ (d : Nat) (st : List Value) (M : jx_M) (Q : jx_Po) (l0 l1 l2 l4 l5 : Option Value) (x : Int32), jx_Ev d 110 95 [l0, l1, l2, some (.int x), l4, l5] st M Q ↔ jx_Ev d 110 98 [l0, l1, l2, some (.int (x + 1)), l4, l5] st M Q) ∧
  (∀ (d : Nat) (lv : List (Option Value)) (st : List Value) (M : jx_M) (Q : jx_Po), jx_Ev d 110 98 lv st M Q ↔ jx_Ev d 110 4 lv st M Q) ∧
  (∀ (d : Nat) (st : List Value) (M : jx_M) (Q : jx_Po) (l0 l1 l3 l4 l5 : Option Value) (x : Int32), jx_Ev d 110 101 [l0, l1, some (.int x), l3, l4, l5] st M Q ↔ jx_Ev d 110 102 [l0, l1, some (.int x), l3, l4, l5] (.int x :: st) M Q) ∧
  (∀ (d : Nat) (lv : List (Option Value)) (M : jx_M) (Q : jx_Po) (x : Int32), jx_Ev d 110 102 lv [.int x] M Q ↔ Q [.int x] M) := by
  refine ⟨?_, ?_, ?_, ?_, ?_, ?_, ?_, ?_, ?_, ?_, ?_, ?_, ?_, ?_, ?_, ?_, ?_, ?_, ?_, ?_, ?_, ?_, ?_, ?_, ?_, ?_, ?_, ?_, ?_, ?_, ?_, ?_, ?_, ?_, ?_, ?_, ?_, ?_, ?_, ?_, ?_, ?_, ?_, ?_, ?_, ?_, ?_, ?_, ?_, ?_, ?_, ?_, ?_, ?_, ?_, ?_, ?_⟩
  · exact fun d lv st M Q => jx_ev_st (jx_fok (by decide +kernel : decode (jx_mb 110) 0 = .ok (.iconst 0, 1))) rfl rfl rfl
  · exact fun d st M Q l0 l1 l2 l3 l4 l5 x => jx_ev_st (jx_fok (by decide +kernel : decode (jx_mb 110) 1 = .ok (.istore_n 2, 1))) rfl rfl rfl
  · exact fun d lv st M Q => jx_ev_st (jx_fok (by decide +kernel : decode (jx_mb 110) 2 = .ok (.iconst 0, 1))) rfl rfl rfl
  · exact fun d st M Q l0 l1 l2 l3 l4 l5 x => jx_ev_st (jx_fok (by decide +kernel : decode (jx_mb 110) 3 = .ok (.istore_n 3, 1))) rfl rfl rfl
  · exact fun d lv st M Q => jx_ev_st (jx_fok (by decide +kernel : decode (jx_mb 110) 5 = .ok (.iconst 4, 1))) rfl rfl rfl
  · exact fun d lv st M Q x z => jx_k_b2 (jx_fok (by decide +kernel : decode (jx_mb 110) 6 = .ok (.if_icmp .ge 95, 3))) rfl jx_hGe
  · exact fun d lv st M Q => jx_ev_st (jx_fok (by decide +kernel : decode (jx_mb 110) 9 = .ok (.iconst 0, 1))) rfl rfl rfl
  · exact fun d st M Q l0 l1 l2 l3 l4 l5 x => jx_ev_st (jx_fok (by decide +kernel : decode (jx_mb 110) 10 = .ok (.istore 4, 2))) rfl rfl rfl
  · exact fun d lv st M Q => jx_ev_st (jx_fok (by decide +kernel : decode (jx_mb 110) 12 = .ok (.iconst 0, 1))) rfl rfl rfl
  · exact fun d st M Q l0 l1 l2 l3 l4 l5 x => jx_ev_st (jx_fok (by decide +kernel : decode (jx_mb 110) 13 = .ok (.istore 5, 2))) rfl rfl rfl
  · exact fun d st M Q l1 l2 l3 l4 l5 x => jx_ev_st (jx_fok (by decide +kernel : decode (jx_mb 110) 17 = .ok (.aload_n 0, 1))) rfl rfl rfl
  · exact fun d lv st M Q => jx_k_gf (jx_fok (by decide +kernel : decode (jx_mb 110) 18 = .ok (.getfield 80, 3))) rfl rfl rfl
  · exact fun d lv st M Q x z => jx_k_b2 (jx_fok (by decide +kernel : decode (jx_mb 110) 21 = .ok (.if_icmp .ge 47, 3))) rfl jx_hGe
  · exact fun d st M Q l0 l1 l2 l3 l5 x => jx_ev_st (jx_fok (by decide +kernel : decode (jx_mb 110) 24 = .ok (.iload 4, 2))) rfl rfl rfl
  · exact fun d st M Q l1 l2 l3 l4 l5 x => jx_ev_st (jx_fok (by decide +kernel : decode (jx_mb 110) 26 = .ok (.aload_n 0, 1))) rfl rfl rfl
  · exact fun d lv st M Q => jx_k_gf (jx_fok (by decide +kernel : decode (jx_mb 110) 27 = .ok (.getfield 31, 3))) rfl rfl rfl
  · exact fun d st M Q l0 l1 l2 l3 l4 x => jx_ev_st (jx_fok (by decide +kernel : decode (jx_mb 110) 30 = .ok (.iload 5, 2))) rfl rfl rfl
  · exact fun d lv st M Q x a ha => jx_k_al (jx_fok (by decide +kernel : decode (jx_mb 110) 32 = .ok (.iaload, 1))) ha
  · exact fun d st M Q l0 l2 l3 l4 l5 x => jx_ev_st (jx_fok (by decide +kernel : decode (jx_mb 110) 33 = .ok (.iload_n 1, 1))) rfl rfl rfl
  · exact fun d lv st M Q x z => jx_k_b2n (jx_fok (by decide +kernel : decode (jx_mb 110) 34 = .ok (.if_icmp .ne 24, 3))) rfl jx_hNe
  · exact fun d st M Q l1 l2 l3 l4 l5 x => jx_ev_st (jx_fok (by decide +kernel : decode (jx_mb 110) 37 = .ok (.aload_n 0, 1))) rfl rfl rfl
  · exact fun d lv st M Q => jx_k_gf (jx_fok (by decide +kernel : decode (jx_mb 110) 38 = .ok (.getfield 49, 3))) rfl rfl rfl
  · exact fun d st M Q l0 l1 l2 l3 l4 x => jx_ev_st (jx_fok (by decide +kernel : decode (jx_mb 110) 41 = .ok (.iload 5, 2))) rfl rfl rfl
  · exact fun d lv st M Q x a ha => jx_k_al (jx_fok (by decide +kernel : decode (jx_mb 110) 43 = .ok (.iaload, 1))) ha
  · exact fun d st M Q l0 l1 l2 l4 l5 x => jx_ev_st (jx_fok (by decide +kernel : decode (jx_mb 110) 44 = .ok (.iload_n 3, 1))) rfl rfl rfl
  · exact fun d lv st M Q x z => jx_k_b2n (jx_fok (by decide +kernel : decode (jx_mb 110) 45 = .ok (.if_icmp .ne 13, 3))) rfl jx_hNe
  · exact fun d st M Q l1 l2 l3 l4 l5 x => jx_ev_st (jx_fok (by decide +kernel : decode (jx_mb 110) 48 = .ok (.aload_n 0, 1))) rfl rfl rfl
  · exact fun d st M Q l0 l1 l2 l3 l4 x => jx_ev_st (jx_fok (by decide +kernel : decode (jx_mb 110) 49 = .ok (.iload 5, 2))) rfl rfl rfl
  · exact fun d st M Q l0 l1 l2 l4 l5 x => jx_ev_st (jx_fok (by decide +kernel : decode (jx_mb 110) 51 = .ok (.iload_n 3, 1))) rfl rfl rfl
  · exact fun d lv M Q a0 a1 a3 => jx_ev_ci (jx_fok (by decide +kernel : decode (jx_mb 110) 52 = .ok (.invokevirtual 154, 3))) rfl (jx_ccV (As := [.int a1, .int a0]) (rest := [.int a3]) rfl rfl rfl rfl rfl rfl) (by decide)
  · exact fun d lv st M Q => jx_k_goto (jx_fok (by decide +kernel : decode (jx_mb 110) 55 = .ok (.goto 4, 3))) rfl
  · exact fun d lv st M Q => jx_ev_st (jx_fok (by decide +kernel : decode (jx_mb 110) 58 = .ok (.iconst 0, 1))) rfl rfl rfl
  · exact fun d lv st M Q x z => jx_ev_st (jx_fok (by decide +kernel : decode (jx_mb 110) 59 = .ok (.iadd, 1))) rfl rfl rfl
  · exact fun d st M Q l0 l1 l2 l3 l4 l5 x => jx_ev_st (jx_fok (by decide +kernel : decode (jx_mb 110) 60 = .ok (.istore 4, 2))) rfl rfl rfl
  · exact fun d st M Q l0 l1 l2 l3 l4 x => jx_ev_st (jx_fok (by decide +kernel : decode (jx_mb 110) 62 = .ok (.iinc 5 1, 3))) rfl rfl rfl
  · exact fun d lv st M Q => jx_k_goto (jx_fok (by decide +kernel : decode (jx_mb 110) 65 = .ok (.goto (-50), 3))) rfl
  · exact fun d st M Q l0 l1 l3 l4 l5 x => jx_ev_st (jx_fok (by decide +kernel : decode (jx_mb 110) 68 = .ok (.iload_n 2, 1))) rfl rfl rfl
  · exact fun d st M Q l0 l1 l2 l3 l5 x => jx_ev_st (jx_fok (by decide +kernel : decode (jx_mb 110) 69 = .ok (.iload 4, 2))) rfl rfl rfl
  · exact fun d st M Q l1 l2 l3 l4 l5 x => jx_ev_st (jx_fok (by decide +kernel : decode (jx_mb 110) 71 = .ok (.aload_n 0, 1))) rfl rfl rfl
  · exact fun d lv st M Q => jx_k_gf (jx_fok (by decide +kernel : decode (jx_mb 110) 72 = .ok (.getfield 19, 3))) rfl rfl rfl
  · exact fun d st M Q l0 l2 l3 l4 l5 x => jx_ev_st (jx_fok (by decide +kernel : decode (jx_mb 110) 75 = .ok (.iload_n 1, 1))) rfl rfl rfl
  · exact fun d lv st M Q x a ha => jx_k_al (jx_fok (by decide +kernel : decode (jx_mb 110) 76 = .ok (.iaload, 1))) ha
  · exact fun d lv st M Q x z => jx_k_b2 (jx_fok (by decide +kernel : decode (jx_mb 110) 77 = .ok (.if_icmp .le 15, 3))) rfl jx_hLe
  · exact fun d st M Q l0 l1 l2 l3 l5 x => jx_ev_st (jx_fok (by decide +kernel : decode (jx_mb 110) 80 = .ok (.iload 4, 2))) rfl rfl rfl
  · exact fun d st M Q l1 l2 l3 l4 l5 x => jx_ev_st (jx_fok (by decide +kernel : decode (jx_mb 110) 82 = .ok (.aload_n 0, 1))) rfl rfl rfl
  · exact fun d lv st M Q => jx_k_gf (jx_fok (by decide +kernel : decode (jx_mb 110) 83 = .ok (.getfield 19, 3))) rfl rfl rfl
  · exact fun d st M Q l0 l2 l3 l4 l5 x => jx_ev_st (jx_fok (by decide +kernel : decode (jx_mb 110) 86 = .ok (.iload_n 1, 1))) rfl rfl rfl
  · exact fun d lv st M Q x a ha => jx_k_al (jx_fok (by decide +kernel : decode (jx_mb 110) 87 = .ok (.iaload, 1))) ha
  · exact fun d lv st M Q x z => jx_ev_st (jx_fok (by decide +kernel : decode (jx_mb 110) 88 = .ok (.isub, 1))) rfl rfl rfl
  · exact fun d lv st M Q => jx_k_goto (jx_fok (by decide +kernel : decode (jx_mb 110) 89 = .ok (.goto 4, 3))) rfl
  · exact fun d lv st M Q => jx_ev_st (jx_fok (by decide +kernel : decode (jx_mb 110) 92 = .ok (.iconst 0, 1))) rfl rfl rfl
  · exact fun d lv st M Q x z => jx_ev_st (jx_fok (by decide +kernel : decode (jx_mb 110) 93 = .ok (.iadd, 1))) rfl rfl rfl
  · exact fun d st M Q l0 l1 l2 l3 l4 l5 x => jx_ev_st (jx_fok (by decide +kernel : decode (jx_mb 110) 94 = .ok (.istore_n 2, 1))) rfl rfl rfl
  · exact fun d st M Q l0 l1 l2 l4 l5 x => jx_ev_st (jx_fok (by decide +kernel : decode (jx_mb 110) 95 = .ok (.iinc 3 1, 3))) rfl rfl rfl
  · exact fun d lv st M Q => jx_k_goto (jx_fok (by decide +kernel : decode (jx_mb 110) 98 = .ok (.goto (-94), 3))) rfl
  · exact fun d st M Q l0 l1 l3 l4 l5 x => jx_ev_st (jx_fok (by decide +kernel : decode (jx_mb 110) 101 = .ok (.iload_n 2, 1))) rfl rfl rfl
  · exact fun d lv M Q x => jx_k_ri (jx_fok (by decide +kernel : decode (jx_mb 110) 102 = .ok (.ireturn, 1))) rfl
theorem eX8_harmTo_4 (d : Nat) (st : List Value) (M : jx_M) (Q : jx_Po) (l0 l1 l2 l4 l5 : Option Value) (x : Int32) : jx_Ev d 110 4 [l0, l1, l2, some (.int x), l4, l5] st M Q ↔ jx_Ev d 110 5 [l0, l1, l2, some (.int x), l4, l5] (.int x :: st) M Q := jx_ev_st (jx_fok (by decide +kernel : decode (jx_mb 110) 4 = .ok (.iload_n 3, 1))) rfl rfl rfl
theorem eX8_harmTo_15 (d : Nat) (st : List Value) (M : jx_M) (Q : jx_Po) (l0 l1 l2 l3 l4 : Option Value) (x : Int32) : jx_Ev d 110 15 [l0, l1, l2, l3, l4, some (.int x)] st M Q ↔ jx_Ev d 110 17 [l0, l1, l2, l3, l4, some (.int x)] (.int x :: st) M Q := jx_ev_st (jx_fok (by decide +kernel : decode (jx_mb 110) 15 = .ok (.iload 5, 2))) rfl rfl rfl
theorem kX8_harmTo (d : Nat) (M : jx_M) (q : Int32 → jx_M → Prop) (a0 a1 : Value) : jx_I d 110 [a0, a1] M q ↔ jx_Ev d 110 0 [some a0, some a1, none, none, none, none] [] M (jx_qI q) := Iff.rfl
set_option maxRecDepth 100000 in
theorem eX8_open :
  (∀ (d : Nat) (st : List Value) (M : jx_M) (Q : jx_Po) (l1 l2 l3 l4 l5 l6 l7 : Option Value) (x : Nat), jx_Ev d 111 0 [some (.ref x), l1, l2, l3, l4, l5, l6, l7] st M Q ↔ jx_Ev d 111 1 [some (.ref x), l1, l2, l3, l4, l5, l6, l7] (.ref x :: st) M Q) ∧
  (∀ (d : Nat) (lv : List (Option Value)) (st : List Value) (M : jx_M) (Q : jx_Po), jx_Ev d 111 1 lv st M Q ↔ jx_Ev d 111 2 lv (.int 0 :: st) M Q) ∧
  (∀ (d : Nat) (lv : List (Option Value)) (st : List Value) (M : jx_M) (Q : jx_Po) (x : Int32), jx_Ev d 111 2 lv (.int x :: .ref 36 :: st) M Q ↔ jx_Ev d 111 5 lv st (jx_up M 36 0 x) Q) ∧
  (∀ (d : Nat) (st : List Value) (M : jx_M) (Q : jx_Po) (l0 l2 l3 l4 l5 l6 l7 : Option Value) (x : Int32), jx_Ev d 111 5 [l0, some (.int x), l2, l3, l4, l5, l6, l7] st M Q ↔ jx_Ev d 111 6 [l0, some (.int x), l2, l3, l4, l5, l6, l7] (.int x :: st) M Q) ∧
  (∀ (d : Nat) (lv : List (Option Value)) (M : jx_M) (Q : jx_Po) (a0 : Int32), jx_Ev (d + 1) 111 6 lv [.int a0] M Q ↔ jx_I d 86 [.int a0] M (fun x M => jx_Ev (d + 1) 111 9 lv (.int x :: []) M Q)) ∧
  (∀ (d : Nat) (lv : List (Option Value)) (st : List Value) (M : jx_M) (Q : jx_Po) (x : Int32), jx_Ev d 111 9 lv (.int x :: st) M Q ↔ (if x = 0 then jx_Ev d 111 12 lv st M Q else jx_Ev d 111 14 lv st M Q)) ∧
  (∀ (d : Nat) (lv : List (Option Value)) (st : List Value) (M : jx_M) (Q : jx_Po), jx_Ev d 111 12 lv st M Q ↔ jx_Ev d 111 13 lv (.int (-1) :: st) M Q) ∧
  (∀ (d : Nat) (lv : List (Option Value)) (M : jx_M) (Q : jx_Po) (x : Int32), jx_Ev d 111 13 lv [.int x] M Q ↔ Q [.int x] M) ∧
  (∀ (d : Nat) (st : List Value) (M : jx_M) (Q : jx_Po) (l0 l1 l3 l4 l5 l6 l7 : Option Value) (x : Int32), jx_Ev d 111 14 [l0, l1, some (.int x), l3, l4, l5, l6, l7] st M Q ↔ jx_Ev d 111 15 [l0, l1, some (.int x), l3, l4, l5, l6, l7] (.int x :: st) M Q) ∧
  (∀ (d : Nat) (lv : List (Option Value)) (M : jx_M) (Q : jx_Po) (a0 : Int32), jx_Ev (d + 1) 111 15 lv [.int a0] M Q ↔ jx_I d 87 [.int a0] M (fun x M => jx_Ev (d + 1) 111 18 lv (.int x :: []) M Q)) ∧
  (∀ (d : Nat) (lv : List (Option Value)) (st : List Value) (M : jx_M) (Q : jx_Po) (x : Int32), jx_Ev d 111 18 lv (.int x :: st) M Q ↔ (if x = 0 then jx_Ev d 111 43 lv st M Q else jx_Ev d 111 21 lv st M Q)) ∧
  (∀ (d : Nat) (st : List Value) (M : jx_M) (Q : jx_Po) (l0 l1 l2 l3 l4 l6 l7 : Option Value) (x : Int32), jx_Ev d 111 21 [l0, l1, l2, l3, l4, some (.int x), l6, l7] st M Q ↔ jx_Ev d 111 23 [l0, l1, l2, l3, l4, some (.int x), l6, l7] (.int x :: st) M Q) ∧
  (∀ (d : Nat) (lv : List (Option Value)) (st : List Value) (M : jx_M) (Q : jx_Po), jx_Ev d 111 23 lv st M Q ↔ jx_Ev d 111 24 lv (.int 0 :: st) M Q) ∧
  (∀ (d : Nat) (lv : List (Option Value)) (st : List Value) (M : jx_M) (Q : jx_Po), jx_Ev d 111 24 lv st M Q ↔ jx_Ev d 111 25 lv (.int 2 :: st) M Q) ∧
  (∀ (d : Nat) (lv : List (Option Value)) (M : jx_M) (Q : jx_Po) (a0 : Int32) (a1 : Int32) (a2 : Int32), jx_Ev (d + 1) 111 25 lv [.int a0, .int a1, .int a2] M Q ↔ jx_I d 85 [.int a2, .int a1, .int a0] M (fun x M => jx_Ev (d + 1) 111 28 lv (.int x :: []) M Q)) ∧
  (∀ (d : Nat) (lv : List (Option Value)) (st : List Value) (M : jx_M) (Q : jx_Po) (x : Int32), jx_Ev d 111 28 lv (.int x :: st) M Q ↔ (if x = 0 then jx_Ev d 111 31 lv st M Q else jx_Ev d 111 46 lv st M Q)) ∧
  (∀ (d : Nat) (st : List Value) (M : jx_M) (Q : jx_Po) (l0 l1 l2 l3 l4 l6 l7 : Option Value) (x : Int32), jx_Ev d 111 31 [l0, l1, l2, l3, l4, some (.int x), l6, l7] st M Q ↔ jx_Ev d 111 33 [l0, l1, l2, l3, l4, some (.int x), l6, l7] (.int x :: st) M Q) ∧
  (∀ (d : Nat) (lv : List (Option Value)) (st : List Value) (M : jx_M) (Q : jx_Po), jx_Ev d 111 33 lv st M Q ↔ jx_Ev d 111 35 lv (.int 10 :: st) M Q) ∧
  (∀ (d : Nat) (lv : List (Option Value)) (st : List Value) (M : jx_M) (Q : jx_Po), jx_Ev d 111 35 lv st M Q ↔ jx_Ev d 111 37 lv (.int 14 :: st) M Q) ∧
  (∀ (d : Nat) (lv : List (Option Value)) (M : jx_M) (Q : jx_Po) (a0 : Int32) (a1 : Int32) (a2 : Int32), jx_Ev (d + 1) 111 37 lv [.int a0, .int a1, .int a2] M Q ↔ jx_I d 85 [.int a2, .int a1, .int a0] M (fun x M => jx_Ev (d + 1) 111 40 lv (.int x :: []) M Q)) ∧
  (∀ (d : Nat) (lv : List (Option Value)) (st : List Value) (M : jx_M) (Q : jx_Po) (x : Int32), jx_Ev d 111 40 lv (.int x :: st) M Q ↔ (if x = 0 then jx_Ev d 111 43 lv st M Q else jx_Ev d 111 46 lv st M Q)) ∧
  (∀ (d : Nat) (lv : List (Option Value)) (st : List Value) (M : jx_M) (Q : jx_Po), jx_Ev d 111 43 lv st M Q ↔ jx_Ev d 111 45 lv (.int (-2) :: st) M Q) ∧
  (∀ (d : Nat) (lv : List (Option Value)) (M : jx_M) (Q : jx_Po) (x : Int32), jx_Ev d 111 45 lv [.int x] M Q ↔ Q [.int x] M) ∧
  (∀ (d : Nat) (st : List Value) (M : jx_M) (Q : jx_Po) (l1 l2 l3 l4 l5 l6 l7 : Option Value) (x : Nat), jx_Ev d 111 46 [some (.ref x), l1, l2, l3, l4, l5, l6, l7] st M Q ↔ jx_Ev d 111 47 [some (.ref x), l1, l2, l3, l4, l5, l6, l7] (.ref x :: st) M Q) ∧
  (∀ (d : Nat) (st : List Value) (M : jx_M) (Q : jx_Po) (l0 l2 l3 l4 l5 l6 l7 : Option Value) (x : Int32), jx_Ev d 111 47 [l0, some (.int x), l2, l3, l4, l5, l6, l7] st M Q ↔ jx_Ev d 111 48 [l0, some (.int x), l2, l3, l4, l5, l6, l7] (.int x :: st) M Q) ∧
  (∀ (d : Nat) (st : List Value) (M : jx_M) (Q : jx_Po) (l0 l1 l3 l4 l5 l6 l7 : Option Value) (x : Int32), jx_Ev d 111 48 [l0, l1, some (.int x), l3, l4, l5, l6, l7] st M Q ↔ jx_Ev d 111 49 [l0, l1, some (.int x), l3, l4, l5, l6, l7] (.int x :: st) M Q) ∧
  (∀ (d : Nat) (st : List Value) (M : jx_M) (Q : jx_Po) (l0 l1 l2 l4 l5 l6 l7 : Option Value) (x : Int32), jx_Ev d 111 49 [l0, l1, l2, some (.int x), l4, l5, l6, l7] st M Q ↔ jx_Ev d 111 50 [l0, l1, l2, some (.int x), l4, l5, l6, l7] (.int x :: st) M Q) ∧
  (∀ (d : Nat) (st : List Value) (M : jx_M) (Q : jx_Po) (l0 l1 l2 l3 l5 l6 l7 : Option Value) (x : Int32), jx_Ev d 111 50 [l0, l1, l2, l3, some (.int x), l5, l6, l7] st M Q ↔ jx_Ev d 111 52 [l0, l1, l2, l3, some (.int x), l5, l6, l7] (.int x :: st) M Q) ∧
  (∀ (d : Nat) (lv : List (Option Value)) (M : jx_M) (Q : jx_Po) (a0 : Int32) (a1 : Int32) (a2 : Int32) (a3 : Int32), jx_Ev (d + 1) 111 52 lv [.int a0, .int a1, .int a2, .int a3, .ref 36] M Q ↔ jx_I d 88 [.ref 36, .int a3, .int a2, .int a1, .int a0] M (fun x M => jx_Ev (d + 1) 111 55 lv (.int x :: []) M Q)) ∧
  (∀ (d : Nat) (st : List Value) (M : jx_M) (Q : jx_Po) (l0 l1 l2 l3 l4 l5 l6 l7 : Option Value) (x : Int32), jx_Ev d 111 55 [l0, l1, l2, l3, l4, l5, l6, l7] (.int x :: st) M Q ↔ jx_Ev d 111 57 [l0, l1, l2, l3, l4, l5, some (.int x), l7] st M Q) ∧
  (∀ (d : Nat) (st : List Value) (M : jx_M) (Q : jx_Po) (l0 l1 l2 l3 l4 l5 l7 : Option Value) (x : Int32), jx_Ev d 111 57 [l0, l1, l2, l3, l4, l5, some (.int x), l7] st M Q ↔ jx_Ev d 111 59 [l0, l1, l2, l3, l4, l5, some (.int x), l7] (.int x :: st) M Q) ∧
  (∀ (d : Nat) (lv : List (Option Value)) (st : List Value) (M : jx_M) (Q : jx_Po) (x : Int32), jx_Ev d 111 59 lv (.int x :: st) M Q ↔ (if x = 0 then jx_Ev d 111 69 lv st M Q else jx_Ev d 111 62 lv st M Q)) ∧
  (∀ (d : Nat) (st : List Value) (M : jx_M) (Q : jx_Po) (l1 l2 l3 l4 l5 l6 l7 : Option Value) (x : Nat), jx_Ev d 111 62 [some (.ref x), l1, l2, l3, l4, l5, l6, l7] st M Q ↔ jx_Ev d 111 63 [some (.ref x), l1, l2, l3, l4, l5, l6, l7] (.ref x :: st) M Q) ∧
  (∀ (d : Nat) (st : List Value) (M : jx_M) (Q : jx_Po) (l0 l1 l2 l3 l4 l5 l7 : Option Value) (x : Int32), jx_Ev d 111 63 [l0, l1, l2, l3, l4, l5, some (.int x), l7] st M Q ↔ jx_Ev d 111 65 [l0, l1, l2, l3, l4, l5, some (.int x), l7] (.int x :: st) M Q) ∧
  (∀ (d : Nat) (lv : List (Option Value)) (M : jx_M) (Q : jx_Po) (a0 : Int32), jx_Ev (d + 1) 111 65 lv [.int a0, .ref 36] M Q ↔ jx_I d 83 [.ref 36, .int a0] M (fun x M => jx_Ev (d + 1) 111 68 lv (.int x :: []) M Q)) ∧
  (∀ (d : Nat) (lv : List (Option Value)) (M : jx_M) (Q : jx_Po) (x : Int32), jx_Ev d 111 68 lv [.int x] M Q ↔ Q [.int x] M) ∧
  (∀ (d : Nat) (st : List Value) (M : jx_M) (Q : jx_Po) (l1 l2 l3 l4 l5 l6 l7 : Option Value) (x : Nat), jx_Ev d 111 69 [some (.ref x), l1, l2, l3, l4, l5, l6, l7] st M Q ↔ jx_Ev d 111 70 [some (.ref x), l1, l2, l3, l4, l5, l6, l7] (.ref x :: st) M Q) ∧
  (∀ (d : Nat) (lv : List (Option Value)) (st : List Value) (M : jx_M) (Q : jx_Po), jx_Ev d 111 70 lv (.ref 36 :: st) M Q ↔ jx_Ev d 111 73 lv (.int (M 36 6) :: st) M Q) ∧
  (∀ (d : Nat) (lv : List (Option Value)) (st : List Value) (M : jx_M) (Q : jx_Po) (x : Int32), jx_Ev d 111 73 lv (.int x :: st) M Q ↔ (if x = 0 then jx_Ev d 111 76 lv st M Q else jx_Ev d 111 79 lv st M Q)) ∧
  (∀ (d : Nat) (lv : List (Option Value)) (st : List Value) (M : jx_M) (Q : jx_Po), jx_Ev d 111 76 lv st M Q ↔ jx_Ev d 111 78 lv (.int (-3) :: st) M Q) ∧
  (∀ (d : Nat) (lv : List (Option Value)) (M : jx_M) (Q : jx_Po) (x : Int32), jx_Ev d 111 78 lv [.int x] M Q ↔ Q [.int x] M) ∧
  (∀ (d : Nat) (st : List Value) (M : jx_M) (Q : jx_Po) (l0 l1 l2 l3 l5 l6 l7 : Option Value) (x : Int32), jx_Ev d 111 79 [l0, l1, l2, l3, some (.int x), l5, l6, l7] st M Q ↔ jx_Ev d 111 81 [l0, l1, l2, l3, some (.int x), l5, l6, l7] (.int x :: st) M Q) ∧
  (∀ (d : Nat) (st : List Value) (M : jx_M) (Q : jx_Po) (l1 l2 l3 l4 l5 l6 l7 : Option Value) (x : Nat), jx_Ev d 111 81 [some (.ref x), l1, l2, l3, l4, l5, l6, l7] st M Q ↔ jx_Ev d 111 82 [some (.ref x), l1, l2, l3, l4, l5, l6, l7] (.ref x :: st) M Q) ∧
  (∀ (d : Nat) (lv : List (Option Value)) (st : List Value) (M : jx_M) (Q : jx_Po), jx_Ev d 111 82 lv (.ref 36 :: st) M Q ↔ jx_Ev d 111 85 lv (.int (M 36 6) :: st) M Q) ∧
  (∀ (d : Nat) (lv : List (Option Value)) (st : List Value) (M : jx_M) (Q : jx_Po) (x z : Int32), jx_Ev d 111 85 lv (.int z :: .int x :: st) M Q ↔ (if x = z then jx_Ev d 111 91 lv st M Q else jx_Ev d 111 88 lv st M Q)) ∧
  (∀ (d : Nat) (lv : List (Option Value)) (st : List Value) (M : jx_M) (Q : jx_Po), jx_Ev d 111 88 lv st M Q ↔ jx_Ev d 111 90 lv (.int (-2) :: st) M Q) ∧
  (∀ (d : Nat) (lv : List (Option Value)) (M : jx_M) (Q : jx_Po) (x : Int32), jx_Ev d 111 90 lv [.int x] M Q ↔ Q [.int x] M) ∧
  (∀ (d : Nat) (lv : List (Option Value)) (st : List Value) (M : jx_M) (Q : jx_Po), jx_Ev d 111 91 lv st M Q ↔ jx_Ev d 111 92 lv (.int 0 :: st) M Q) ∧
  (∀ (d : Nat) (st : List Value) (M : jx_M) (Q : jx_Po) (l0 l1 l2 l3 l4 l5 l6 l7 : Option Value) (x : Int32), jx_Ev d 111 92 [l0, l1, l2, l3, l4, l5, l6, l7] (.int x :: st) M Q ↔ jx_Ev d 111 94 [l0, l1, l2, l3, l4, l5, l6, some (.int x)] st M Q) ∧
  (∀ (d : Nat) (st : List Value) (M : jx_M) (Q : jx_Po) (l0 l1 l2 l3 l5 l6 l7 : Option Value) (x : Int32), jx_Ev d 111 96 [l0, l1, l2, l3, some (.int x), l5, l6, l7] st M Q ↔ jx_Ev d 111 98 [l0, l1, l2, l3, some (.int x), l5, l6, l7] (.int x :: st) M Q) ∧
  (∀ (d : Nat) (lv : List (Option Value)) (st : List Value) (M : jx_M) (Q : jx_Po) (x z : Int32), jx_Ev d 111 98 lv (.int z :: .int x :: st) M Q ↔ (if z ≤ x then jx_Ev d 111 146 lv st M Q else jx_Ev d 111 101 lv st M Q)) ∧
  (∀ (d : Nat) (st : List Value) (M : jx_M) (Q : jx_Po) (l1 l2 l3 l4 l5 l6 l7 : Option Value) (x : Nat), jx_Ev d 111 101 [some (.ref x), l1, l2, l3, l4, l5, l6, l7] st M Q ↔ jx_Ev d 111 102 [some (.ref x), l1, l2, l3, l4, l5, l6, l7] (.ref x :: st) M Q) ∧
  (∀ (d : Nat) (lv : List (Option Value)) (st : List Value) (M : jx_M) (Q : jx_Po), jx_Ev d 111 102 lv (.ref 36 :: st) M Q ↔ jx_Ev d 111 105 lv (.ref 50 :: st) M Q) ∧
  (∀ (d : Nat) (st : List Value) (M : jx_M) (Q : jx_Po) (l0 l1 l2 l3 l4 l5 l6 : Option Value) (x : Int32), jx_Ev d 111 105 [l0, l1, l2, l3, l4, l5, l6, some (.int x)] st M Q ↔ jx_Ev d 111 107 [l0, l1, l2, l3, l4, l5, l6, some (.int x)] (.int x :: st) M Q) ∧
  (∀ (d : Nat) (st : List Value) (M : jx_M) (Q : jx_Po) (l1 l2 l3 l4 l5 l6 l7 : Option Value) (x : Nat), jx_Ev d 111 107 [some (.ref x), l1, l2, l3, l4, l5, l6, l7] st M Q ↔ jx_Ev d 111 108 [some (.ref x), l1, l2, l3, l4, l5, l6, l7] (.ref x :: st) M Q) ∧
  (∀ (d : Nat) (lv : List (Option Value)) (st : List Value) (M : jx_M) (Q : jx_Po), jx_Ev d 111 108 lv (.ref 36 :: st) M Q ↔ jx_Ev d 111 111 lv (.ref 39 :: st) M Q) ∧
  (∀ (d : Nat) (lv : List (Option Value)) (st : List Value) (M : jx_M) (Q : jx_Po), jx_Ev d 111 111 lv st M Q ↔ jx_Ev d 111 113 lv (.int 60 :: st) M Q) ∧
  (∀ (d : Nat) (st : List Value) (M : jx_M) (Q : jx_Po) (l0 l2 l3 l4 l5 l6 l7 : Option Value) (x : Int32), jx_Ev d 111 113 [l0, some (.int x), l2, l3, l4, l5, l6, l7] st M Q ↔ jx_Ev d 111 114 [l0, some (.int x), l2, l3, l4, l5, l6, l7] (.int x :: st) M Q) ∧
  (∀ (d : Nat) (lv : List (Option Value)) (st : List Value) (M : jx_M) (Q : jx_Po) (x z : Int32), jx_Ev d 111 114 lv (.int z :: .int x :: st) M Q ↔ jx_Ev d 111 115 lv (.int (x * z) :: st) M Q) ∧
  (∀ (d : Nat) (st : List Value) (M : jx_M) (Q : jx_Po) (l0 l1 l2 l4 l5 l6 l7 : Option Value) (x : Int32), jx_Ev d 111 115 [l0, l1, l2, some (.int x), l4, l5, l6, l7] st M Q ↔ jx_Ev d 111 116 [l0, l1, l2, some (.int x), l4, l5, l6, l7] (.int x :: st) M Q) ∧
  (∀ (d : Nat) (lv : List (Option Value)) (st : List Value) (M : jx_M) (Q : jx_Po) (x z : Int32), jx_Ev d 111 116 lv (.int z :: .int x :: st) M Q ↔ jx_Ev d 111 117 lv (.int (x + z) :: st) M Q) ∧
  (∀ (d : Nat) (st : List Value) (M : jx_M) (Q : jx_Po) (l0 l1 l2 l3 l4 l5 l6 : Option Value) (x : Int32), jx_Ev d 111 117 [l0, l1, l2, l3, l4, l5, l6, some (.int x)] st M Q ↔ jx_Ev d 111 119 [l0, l1, l2, l3, l4, l5, l6, some (.int x)] (.int x :: st) M Q) ∧
  (∀ (d : Nat) (lv : List (Option Value)) (st : List Value) (M : jx_M) (Q : jx_Po) (x z : Int32), jx_Ev d 111 119 lv (.int z :: .int x :: st) M Q ↔ jx_Ev d 111 120 lv (.int (x + z) :: st) M Q) ∧
  (∀ (d : Nat) (lv : List (Option Value)) (st : List Value) (M : jx_M) (Q : jx_Po) (x : Int32) (a : Nat) (ha : jx_cl a = 9), jx_Ev d 111 120 lv (.int x :: .ref a :: st) M Q ↔ (vp_in x (jx_sz a) ∧ jx_Ev d 111 121 lv (.int (M a x.toNatClampNeg) :: st) M Q)) ∧
  (∀ (d : Nat) (lv : List (Option Value)) (st : List Value) (M : jx_M) (Q : jx_Po) (x z : Int32) (a : Nat) (ha : jx_cl a = 9), jx_Ev d 111 121 lv (.int z :: .int x :: .ref a :: st) M Q ↔ (vp_in x (jx_sz a) ∧ jx_Ev d 111 122 lv st (jx_up M a x.toNatClampNeg z) Q)) ∧
  (∀ (d : Nat) (st : List Value) (M : jx_M) (Q : jx_Po) (l1 l2 l3 l4 l5 l6 l7 : Option Value) (x : Nat), jx_Ev d 111 122 [some (.ref x), l1, l2, l3, l4, l5, l6, l7] st M Q ↔ jx_Ev d 111 123 [some (.ref x), l1, l2, l3, l4, l5, l6, l7] (.ref x :: st) M Q) ∧
  (∀ (d : Nat) (lv : List (Option Value)) (st : List Value) (M : jx_M) (Q : jx_Po), jx_Ev d 111 123 lv (.ref 36 :: st) M Q ↔ jx_Ev d 111 126 lv (.ref 50 :: st) M Q) ∧
  (∀ (d : Nat) (st : List Value) (M : jx_M) (Q : jx_Po) (l0 l1 l2 l3 l4 l5 l6 : Option Value) (x : Int32), jx_Ev d 111 126 [l0, l1, l2, l3, l4, l5, l6, some (.int x)] st M Q ↔ jx_Ev d 111 128 [l0, l1, l2, l3, l4, l5, l6, some (.int x)] (.int x :: st) M Q) ∧
  (∀ (d : Nat) (lv : List (Option Value)) (st : List Value) (M : jx_M) (Q : jx_Po) (x : Int32) (a : Nat) (ha : jx_cl a = 9), jx_Ev d 111 128 lv (.int x :: .ref a :: st) M Q ↔ (vp_in x (jx_sz a) ∧ jx_Ev d 111 129 lv (.int (M a x.toNatClampNeg) :: st) M Q)) ∧
  (∀ (d : Nat) (lv : List (Option Value)) (st : List Value) (M : jx_M) (Q : jx_Po), jx_Ev d 111 129 lv st M Q ↔ jx_Ev d 111 130 lv (.int 0 :: st) M Q) ∧
  (∀ (d : Nat) (lv : List (Option Value)) (st : List Value) (M : jx_M) (Q : jx_Po), jx_Ev d 111 130 lv st M Q ↔ jx_Ev d 111 131 lv (.int 3 :: st) M Q) ∧
  (∀ (d : Nat) (lv : List (Option Value)) (M : jx_M) (Q : jx_Po) (a0 : Int32) (a1 : Int32) (a2 : Int32), jx_Ev (d + 1) 111 131 lv [.int a0, .int a1, .int a2] M Q ↔ jx_I d 85 [.int a2, .int a1, .int a0] M (fun x M => jx_Ev (d + 1) 111 134 lv (.int x :: []) M Q)) ∧
  (∀ (d : Nat) (lv : List (Option Value)) (st : List Value) (M : jx_M) (Q : jx_Po) (x : Int32), jx_Ev d 111 134 lv (.int x :: st) M Q ↔ (if x = 0 then jx_Ev d 111 137 lv st M Q else jx_Ev d 111 140 lv st M Q)) ∧
  (∀ (d : Nat) (lv : List (Option Value)) (st : List Value) (M : jx_M) (Q : jx_Po), jx_Ev d 111 137 lv st M Q ↔ jx_Ev d 111 139 lv (.int (-2) :: st) M Q) ∧
  (∀ (d : Nat) (lv : List (Option Value)) (M : jx_M) (Q : jx_Po) (x : Int32), jx_Ev d 111 139 lv [.int x] M Q ↔ Q [.int x] M) ∧
  (∀ (d : Nat) (st : List Value) (M : jx_M) (Q : jx_Po) (l0 l1 l2 l3 l4 l5 l6 : Option Value) (x : Int32), jx_Ev d 111 140 [l0, l1, l2, l3, l4, l5, l6, some (.int x)] st M Q ↔ jx_Ev d 111 143 [l0, l1, l2, l3, l4, l5, l6, some (.int (x + 1))] st M Q) ∧
  (∀ (d : Nat) (lv : List (Option Value)) (st : List Value) (M : jx_M) (Q : jx_Po), jx_Ev d 111 143 lv st M Q ↔ jx_Ev d 111 94 lv st M Q) ∧
  (∀ (d : Nat) (st : List Value) (M : jx_M) (Q : jx_Po) (l1 l2 l3 l4 l5 l6 l7 : Option Value) (x : Nat), jx_Ev d 111 146 [some (.ref x), l1, l2, l3, l4, l5, l6, l7] st M Q ↔ jx_Ev d 111 147 [some (.ref x), l1, l2, l3, l4, l5, l6, l7] (.ref x :: st) M Q) ∧
  (∀ (d : Nat) (st : List Value) (M : jx_M) (Q : jx_Po) (l0 l1 l2 l3 l4 l6 l7 : Option Value) (x : Int32), jx_Ev d 111 147 [l0, l1, l2, l3, l4, some (.int x), l6, l7] st M Q ↔ jx_Ev d 111 149 [l0, l1, l2, l3, l4, some (.int x), l6, l7] (.int x :: st) M Q) ∧
  (∀ (d : Nat) (lv : List (Option Value)) (M : jx_M) (Q : jx_Po) (a0 : Int32), jx_Ev (d + 1) 111 149 lv [.int a0, .ref 36] M Q ↔ jx_I d 112 [.ref 36, .int a0] M (fun x M => jx_Ev (d + 1) 111 152 lv (.int x :: []) M Q)) ∧
  (∀ (d : Nat) (lv : List (Option Value)) (M : jx_M) (Q : jx_Po) (x : Int32), jx_Ev d 111 152 lv [.int x] M Q ↔ Q [.int x] M) := by
  refine ⟨?_, ?_, ?_, ?_, ?_, ?_, ?_, ?_, ?_, ?_, ?_, ?_, ?_, ?_, ?_, ?_, ?_, ?_, ?_, ?_, ?_, ?_, ?_, ?_, ?_, ?_, ?_, ?_, ?_, ?_, ?_, ?_, ?_, ?_, ?_, ?_, ?_, ?_, ?_, ?_, ?_, ?_, ?_, ?_, ?_, ?_, ?_, ?_, ?_, ?_, ?_, ?_, ?_, ?_, ?_, ?_, ?_, ?_, ?_, ?_, ?_, ?_, ?_, ?_, ?_, ?_, ?_, ?_, ?_, ?_, ?_, ?_, ?_, ?_, ?_, ?_, ?_, ?_, ?_, ?_, ?_⟩
  · exact fun d st M Q l1 l2 l3 l4 l5 l6 l7 x => jx_ev_st (jx_fok (by decide +kernel : decode (jx_mb 111) 0 = .ok (.aload_n 0, 1))) rfl rfl rfl
  · exact fun d lv st M Q => jx_ev_st (jx_fok (by decide +kernel : decode (jx_mb 111) 1 = .ok (.iconst 0, 1))) rfl rfl rfl
  · exact fun d lv st M Q x => jx_k_pf0 (jx_fok (by decide +kernel : decode (jx_mb 111) 2 = .ok (.putfield 67, 3))) rfl rfl rfl
  · exact fun d st M Q l0 l2 l3 l4 l5 l6 l7 x => jx_ev_st (jx_fok (by decide +kernel : decode (jx_mb 111) 5 = .ok (.iload_n 1, 1))) rfl rfl rfl
  · exact fun d lv M Q a0 => jx_ev_ci (jx_fok (by decide +kernel : decode (jx_mb 111) 6 = .ok (.invokestatic 86, 3))) rfl (jx_ccS (As := [.int a0]) (rest := []) rfl rfl rfl rfl rfl) (by decide)
  · exact fun d lv st M Q x => jx_k_b1n (jx_fok (by decide +kernel : decode (jx_mb 111) 9 = .ok (.ifCond .ne 5, 3))) rfl jx_hNe
  · exact fun d lv st M Q => jx_ev_st (jx_fok (by decide +kernel : decode (jx_mb 111) 12 = .ok (.iconst (-1), 1))) rfl rfl rfl
  · exact fun d lv M Q x => jx_k_ri (jx_fok (by decide +kernel : decode (jx_mb 111) 13 = .ok (.ireturn, 1))) rfl
  · exact fun d st M Q l0 l1 l3 l4 l5 l6 l7 x => jx_ev_st (jx_fok (by decide +kernel : decode (jx_mb 111) 14 = .ok (.iload_n 2, 1))) rfl rfl rfl
  · exact fun d lv M Q a0 => jx_ev_ci (jx_fok (by decide +kernel : decode (jx_mb 111) 15 = .ok (.invokestatic 90, 3))) rfl (jx_ccS (As := [.int a0]) (rest := []) rfl rfl rfl rfl rfl) (by decide)
  · exact fun d lv st M Q x => jx_k_b1 (jx_fok (by decide +kernel : decode (jx_mb 111) 18 = .ok (.ifCond .eq 25, 3))) rfl jx_hEq
  · exact fun d st M Q l0 l1 l2 l3 l4 l6 l7 x => jx_ev_st (jx_fok (by decide +kernel : decode (jx_mb 111) 21 = .ok (.iload 5, 2))) rfl rfl rfl
  · exact fun d lv st M Q => jx_ev_st (jx_fok (by decide +kernel : decode (jx_mb 111) 23 = .ok (.iconst 0, 1))) rfl rfl rfl
  · exact fun d lv st M Q => jx_ev_st (jx_fok (by decide +kernel : decode (jx_mb 111) 24 = .ok (.iconst 2, 1))) rfl rfl rfl
  · exact fun d lv M Q a0 a1 a2 => jx_ev_ci (jx_fok (by decide +kernel : decode (jx_mb 111) 25 = .ok (.invokestatic 73, 3))) rfl (jx_ccS (As := [.int a2, .int a1, .int a0]) (rest := []) rfl rfl rfl rfl rfl) (by decide)
  · exact fun d lv st M Q x => jx_k_b1n (jx_fok (by decide +kernel : decode (jx_mb 111) 28 = .ok (.ifCond .ne 18, 3))) rfl jx_hNe
  · exact fun d st M Q l0 l1 l2 l3 l4 l6 l7 x => jx_ev_st (jx_fok (by decide +kernel : decode (jx_mb 111) 31 = .ok (.iload 5, 2))) rfl rfl rfl
  · exact fun d lv st M Q => jx_ev_st (jx_fok (by decide +kernel : decode (jx_mb 111) 33 = .ok (.bipush 10, 2))) rfl rfl rfl
  · exact fun d lv st M Q => jx_ev_st (jx_fok (by decide +kernel : decode (jx_mb 111) 35 = .ok (.bipush 14, 2))) rfl rfl rfl
  · exact fun d lv M Q a0 a1 a2 => jx_ev_ci (jx_fok (by decide +kernel : decode (jx_mb 111) 37 = .ok (.invokestatic 73, 3))) rfl (jx_ccS (As := [.int a2, .int a1, .int a0]) (rest := []) rfl rfl rfl rfl rfl) (by decide)
  · exact fun d lv st M Q x => jx_k_b1n (jx_fok (by decide +kernel : decode (jx_mb 111) 40 = .ok (.ifCond .ne 6, 3))) rfl jx_hNe
  · exact fun d lv st M Q => jx_ev_st (jx_fok (by decide +kernel : decode (jx_mb 111) 43 = .ok (.bipush (-2), 2))) rfl rfl rfl
  · exact fun d lv M Q x => jx_k_ri (jx_fok (by decide +kernel : decode (jx_mb 111) 45 = .ok (.ireturn, 1))) rfl
  · exact fun d st M Q l1 l2 l3 l4 l5 l6 l7 x => jx_ev_st (jx_fok (by decide +kernel : decode (jx_mb 111) 46 = .ok (.aload_n 0, 1))) rfl rfl rfl
  · exact fun d st M Q l0 l2 l3 l4 l5 l6 l7 x => jx_ev_st (jx_fok (by decide +kernel : decode (jx_mb 111) 47 = .ok (.iload_n 1, 1))) rfl rfl rfl
  · exact fun d st M Q l0 l1 l3 l4 l5 l6 l7 x => jx_ev_st (jx_fok (by decide +kernel : decode (jx_mb 111) 48 = .ok (.iload_n 2, 1))) rfl rfl rfl
  · exact fun d st M Q l0 l1 l2 l4 l5 l6 l7 x => jx_ev_st (jx_fok (by decide +kernel : decode (jx_mb 111) 49 = .ok (.iload_n 3, 1))) rfl rfl rfl
  · exact fun d st M Q l0 l1 l2 l3 l5 l6 l7 x => jx_ev_st (jx_fok (by decide +kernel : decode (jx_mb 111) 50 = .ok (.iload 4, 2))) rfl rfl rfl
  · exact fun d lv M Q a0 a1 a2 a3 => jx_ev_ci (jx_fok (by decide +kernel : decode (jx_mb 111) 52 = .ok (.invokevirtual 93, 3))) rfl (jx_ccV (As := [.int a3, .int a2, .int a1, .int a0]) (rest := []) rfl rfl rfl rfl rfl rfl) (by decide)
  · exact fun d st M Q l0 l1 l2 l3 l4 l5 l6 l7 x => jx_ev_st (jx_fok (by decide +kernel : decode (jx_mb 111) 55 = .ok (.istore 6, 2))) rfl rfl rfl
  · exact fun d st M Q l0 l1 l2 l3 l4 l5 l7 x => jx_ev_st (jx_fok (by decide +kernel : decode (jx_mb 111) 57 = .ok (.iload 6, 2))) rfl rfl rfl
  · exact fun d lv st M Q x => jx_k_b1 (jx_fok (by decide +kernel : decode (jx_mb 111) 59 = .ok (.ifCond .eq 10, 3))) rfl jx_hEq
  · exact fun d st M Q l1 l2 l3 l4 l5 l6 l7 x => jx_ev_st (jx_fok (by decide +kernel : decode (jx_mb 111) 62 = .ok (.aload_n 0, 1))) rfl rfl rfl
  · exact fun d st M Q l0 l1 l2 l3 l4 l5 l7 x => jx_ev_st (jx_fok (by decide +kernel : decode (jx_mb 111) 63 = .ok (.iload 6, 2))) rfl rfl rfl
  · exact fun d lv M Q a0 => jx_ev_ci (jx_fok (by decide +kernel : decode (jx_mb 111) 65 = .ok (.invokevirtual 97, 3))) rfl (jx_ccV (As := [.int a0]) (rest := []) rfl rfl rfl rfl rfl rfl) (by decide)
  · exact fun d lv M Q x => jx_k_ri (jx_fok (by decide +kernel : decode (jx_mb 111) 68 = .ok (.ireturn, 1))) rfl
  · exact fun d st M Q l1 l2 l3 l4 l5 l6 l7 x => jx_ev_st (jx_fok (by decide +kernel : decode (jx_mb 111) 69 = .ok (.aload_n 0, 1))) rfl rfl rfl
  · exact fun d lv st M Q => jx_k_gf (jx_fok (by decide +kernel : decode (jx_mb 111) 70 = .ok (.getfield 80, 3))) rfl rfl rfl
  · exact fun d lv st M Q x => jx_k_b1n (jx_fok (by decide +kernel : decode (jx_mb 111) 73 = .ok (.ifCond .ne 6, 3))) rfl jx_hNe
  · exact fun d lv st M Q => jx_ev_st (jx_fok (by decide +kernel : decode (jx_mb 111) 76 = .ok (.bipush (-3), 2))) rfl rfl rfl
  · exact fun d lv M Q x => jx_k_ri (jx_fok (by decide +kernel : decode (jx_mb 111) 78 = .ok (.ireturn, 1))) rfl
  · exact fun d st M Q l0 l1 l2 l3 l5 l6 l7 x => jx_ev_st (jx_fok (by decide +kernel : decode (jx_mb 111) 79 = .ok (.iload 4, 2))) rfl rfl rfl
  · exact fun d st M Q l1 l2 l3 l4 l5 l6 l7 x => jx_ev_st (jx_fok (by decide +kernel : decode (jx_mb 111) 81 = .ok (.aload_n 0, 1))) rfl rfl rfl
  · exact fun d lv st M Q => jx_k_gf (jx_fok (by decide +kernel : decode (jx_mb 111) 82 = .ok (.getfield 80, 3))) rfl rfl rfl
  · exact fun d lv st M Q x z => jx_k_b2 (jx_fok (by decide +kernel : decode (jx_mb 111) 85 = .ok (.if_icmp .eq 6, 3))) rfl jx_hEq
  · exact fun d lv st M Q => jx_ev_st (jx_fok (by decide +kernel : decode (jx_mb 111) 88 = .ok (.bipush (-2), 2))) rfl rfl rfl
  · exact fun d lv M Q x => jx_k_ri (jx_fok (by decide +kernel : decode (jx_mb 111) 90 = .ok (.ireturn, 1))) rfl
  · exact fun d lv st M Q => jx_ev_st (jx_fok (by decide +kernel : decode (jx_mb 111) 91 = .ok (.iconst 0, 1))) rfl rfl rfl
  · exact fun d st M Q l0 l1 l2 l3 l4 l5 l6 l7 x => jx_ev_st (jx_fok (by decide +kernel : decode (jx_mb 111) 92 = .ok (.istore 7, 2))) rfl rfl rfl
  · exact fun d st M Q l0 l1 l2 l3 l5 l6 l7 x => jx_ev_st (jx_fok (by decide +kernel : decode (jx_mb 111) 96 = .ok (.iload 4, 2))) rfl rfl rfl
  · exact fun d lv st M Q x z => jx_k_b2 (jx_fok (by decide +kernel : decode (jx_mb 111) 98 = .ok (.if_icmp .ge 48, 3))) rfl jx_hGe
  · exact fun d st M Q l1 l2 l3 l4 l5 l6 l7 x => jx_ev_st (jx_fok (by decide +kernel : decode (jx_mb 111) 101 = .ok (.aload_n 0, 1))) rfl rfl rfl
  · exact fun d lv st M Q => jx_k_gf (jx_fok (by decide +kernel : decode (jx_mb 111) 102 = .ok (.getfield 49, 3))) rfl rfl rfl
  · exact fun d st M Q l0 l1 l2 l3 l4 l5 l6 x => jx_ev_st (jx_fok (by decide +kernel : decode (jx_mb 111) 105 = .ok (.iload 7, 2))) rfl rfl rfl
  · exact fun d st M Q l1 l2 l3 l4 l5 l6 l7 x => jx_ev_st (jx_fok (by decide +kernel : decode (jx_mb 111) 107 = .ok (.aload_n 0, 1))) rfl rfl rfl
  · exact fun d lv st M Q => jx_k_gf (jx_fok (by decide +kernel : decode (jx_mb 111) 108 = .ok (.getfield 16, 3))) rfl rfl rfl
  · exact fun d lv st M Q => jx_ev_st (jx_fok (by decide +kernel : decode (jx_mb 111) 111 = .ok (.bipush 60, 2))) rfl rfl rfl
  · exact fun d st M Q l0 l2 l3 l4 l5 l6 l7 x => jx_ev_st (jx_fok (by decide +kernel : decode (jx_mb 111) 113 = .ok (.iload_n 1, 1))) rfl rfl rfl
  · exact fun d lv st M Q x z => jx_ev_st (jx_fok (by decide +kernel : decode (jx_mb 111) 114 = .ok (.imul, 1))) rfl rfl rfl
  · exact fun d st M Q l0 l1 l2 l4 l5 l6 l7 x => jx_ev_st (jx_fok (by decide +kernel : decode (jx_mb 111) 115 = .ok (.iload_n 3, 1))) rfl rfl rfl
  · exact fun d lv st M Q x z => jx_ev_st (jx_fok (by decide +kernel : decode (jx_mb 111) 116 = .ok (.iadd, 1))) rfl rfl rfl
  · exact fun d st M Q l0 l1 l2 l3 l4 l5 l6 x => jx_ev_st (jx_fok (by decide +kernel : decode (jx_mb 111) 117 = .ok (.iload 7, 2))) rfl rfl rfl
  · exact fun d lv st M Q x z => jx_ev_st (jx_fok (by decide +kernel : decode (jx_mb 111) 119 = .ok (.iadd, 1))) rfl rfl rfl
  · exact fun d lv st M Q x a ha => jx_k_al (jx_fok (by decide +kernel : decode (jx_mb 111) 120 = .ok (.iaload, 1))) ha
  · exact fun d lv st M Q x z a ha => jx_k_as (jx_fok (by decide +kernel : decode (jx_mb 111) 121 = .ok (.iastore, 1))) ha
  · exact fun d st M Q l1 l2 l3 l4 l5 l6 l7 x => jx_ev_st (jx_fok (by decide +kernel : decode (jx_mb 111) 122 = .ok (.aload_n 0, 1))) rfl rfl rfl
  · exact fun d lv st M Q => jx_k_gf (jx_fok (by decide +kernel : decode (jx_mb 111) 123 = .ok (.getfield 49, 3))) rfl rfl rfl
  · exact fun d st M Q l0 l1 l2 l3 l4 l5 l6 x => jx_ev_st (jx_fok (by decide +kernel : decode (jx_mb 111) 126 = .ok (.iload 7, 2))) rfl rfl rfl
  · exact fun d lv st M Q x a ha => jx_k_al (jx_fok (by decide +kernel : decode (jx_mb 111) 128 = .ok (.iaload, 1))) ha
  · exact fun d lv st M Q => jx_ev_st (jx_fok (by decide +kernel : decode (jx_mb 111) 129 = .ok (.iconst 0, 1))) rfl rfl rfl
  · exact fun d lv st M Q => jx_ev_st (jx_fok (by decide +kernel : decode (jx_mb 111) 130 = .ok (.iconst 3, 1))) rfl rfl rfl
  · exact fun d lv M Q a0 a1 a2 => jx_ev_ci (jx_fok (by decide +kernel : decode (jx_mb 111) 131 = .ok (.invokestatic 73, 3))) rfl (jx_ccS (As := [.int a2, .int a1, .int a0]) (rest := []) rfl rfl rfl rfl rfl) (by decide)
  · exact fun d lv st M Q x => jx_k_b1n (jx_fok (by decide +kernel : decode (jx_mb 111) 134 = .ok (.ifCond .ne 6, 3))) rfl jx_hNe
  · exact fun d lv st M Q => jx_ev_st (jx_fok (by decide +kernel : decode (jx_mb 111) 137 = .ok (.bipush (-2), 2))) rfl rfl rfl
  · exact fun d lv M Q x => jx_k_ri (jx_fok (by decide +kernel : decode (jx_mb 111) 139 = .ok (.ireturn, 1))) rfl
  · exact fun d st M Q l0 l1 l2 l3 l4 l5 l6 x => jx_ev_st (jx_fok (by decide +kernel : decode (jx_mb 111) 140 = .ok (.iinc 7 1, 3))) rfl rfl rfl
  · exact fun d lv st M Q => jx_k_goto (jx_fok (by decide +kernel : decode (jx_mb 111) 143 = .ok (.goto (-49), 3))) rfl
  · exact fun d st M Q l1 l2 l3 l4 l5 l6 l7 x => jx_ev_st (jx_fok (by decide +kernel : decode (jx_mb 111) 146 = .ok (.aload_n 0, 1))) rfl rfl rfl
  · exact fun d st M Q l0 l1 l2 l3 l4 l6 l7 x => jx_ev_st (jx_fok (by decide +kernel : decode (jx_mb 111) 147 = .ok (.iload 5, 2))) rfl rfl rfl
  · exact fun d lv M Q a0 => jx_ev_ci (jx_fok (by decide +kernel : decode (jx_mb 111) 149 = .ok (.invokevirtual 161, 3))) rfl (jx_ccV (As := [.int a0]) (rest := []) rfl rfl rfl rfl rfl rfl) (by decide)
  · exact fun d lv M Q x => jx_k_ri (jx_fok (by decide +kernel : decode (jx_mb 111) 152 = .ok (.ireturn, 1))) rfl
theorem eX8_open_94 (d : Nat) (st : List Value) (M : jx_M) (Q : jx_Po) (l0 l1 l2 l3 l4 l5 l6 : Option Value) (x : Int32) : jx_Ev d 111 94 [l0, l1, l2, l3, l4, l5, l6, some (.int x)] st M Q ↔ jx_Ev d 111 96 [l0, l1, l2, l3, l4, l5, l6, some (.int x)] (.int x :: st) M Q := jx_ev_st (jx_fok (by decide +kernel : decode (jx_mb 111) 94 = .ok (.iload 7, 2))) rfl rfl rfl
theorem kX8_open (d : Nat) (M : jx_M) (q : Int32 → jx_M → Prop) (a0 a1 a2 a3 a4 a5 : Value) : jx_I d 111 [a0, a1, a2, a3, a4, a5] M q ↔ jx_Ev d 111 0 [some a0, some a1, some a2, some a3, some a4, some a5, none, none] [] M (jx_qI q) := Iff.rfl
set_option maxRecDepth 100000 in
theorem eX8_tellOpen :
  (∀ (d : Nat) (lv : List (Option Value)) (st : List Value) (M : jx_M) (Q : jx_Po), jx_Ev d 112 0 lv st M Q ↔ jx_Ev d 112 1 lv (.int 0 :: st) M Q) ∧
  (∀ (d : Nat) (st : List Value) (M : jx_M) (Q : jx_Po) (l0 l1 l2 l3 l4 l5 l6 : Option Value) (x : Int32), jx_Ev d 112 1 [l0, l1, l2, l3, l4, l5, l6] (.int x :: st) M Q ↔ jx_Ev d 112 2 [l0, l1, some (.int x), l3, l4, l5, l6] st M Q) ∧
  (∀ (d : Nat) (st : List Value) (M : jx_M) (Q : jx_Po) (l0 l2 l3 l4 l5 l6 : Option Value) (x : Int32), jx_Ev d 112 2 [l0, some (.int x), l2, l3, l4, l5, l6] st M Q ↔ jx_Ev d 112 3 [l0, some (.int x), l2, l3, l4, l5, l6] (.int x :: st) M Q) ∧
  (∀ (d : Nat) (lv : List (Option Value)) (st : List Value) (M : jx_M) (Q : jx_Po), jx_Ev d 112 3 lv st M Q ↔ jx_Ev d 112 4 lv (.int 1 :: st) M Q) ∧
  (∀ (d : Nat) (lv : List (Option Value)) (st : List Value) (M : jx_M) (Q : jx_Po) (x z : Int32), jx_Ev d 112 4 lv (.int z :: .int x :: st) M Q ↔ (if x = z then jx_Ev d 112 7 lv st M Q else jx_Ev d 112 36 lv st M Q)) ∧
  (∀ (d : Nat) (lv : List (Option Value)) (st : List Value) (M : jx_M) (Q : jx_Po), jx_Ev d 112 7 lv st M Q ↔ jx_Ev d 112 8 lv (.int 0 :: st) M Q) ∧
  (∀ (d : Nat) (st : List Value) (M : jx_M) (Q : jx_Po) (l0 l1 l2 l3 l4 l5 l6 : Option Value) (x : Int32), jx_Ev d 112 8 [l0, l1, l2, l3, l4, l5, l6] (.int x :: st) M Q ↔ jx_Ev d 112 9 [l0, l1, l2, some (.int x), l4, l5, l6] st M Q) ∧
  (∀ (d : Nat) (st : List Value) (M : jx_M) (Q : jx_Po) (l1 l2 l3 l4 l5 l6 : Option Value) (x : Nat), jx_Ev d 112 10 [some (.ref x), l1, l2, l3, l4, l5, l6] st M Q ↔ jx_Ev d 112 11 [some (.ref x), l1, l2, l3, l4, l5, l6] (.ref x :: st) M Q) ∧
  (∀ (d : Nat) (lv : List (Option Value)) (st : List Value) (M : jx_M) (Q : jx_Po), jx_Ev d 112 11 lv (.ref 36 :: st) M Q ↔ jx_Ev d 112 14 lv (.int (M 36 6) :: st) M Q) ∧
  (∀ (d : Nat) (lv : List (Option Value)) (st : List Value) (M : jx_M) (Q : jx_Po) (x z : Int32), jx_Ev d 112 14 lv (.int z :: .int x :: st) M Q ↔ (if z ≤ x then jx_Ev d 112 34 lv st M Q else jx_Ev d 112 17 lv st M Q)) ∧
  (∀ (d : Nat) (st : List Value) (M : jx_M) (Q : jx_Po) (l0 l1 l3 l4 l5 l6 : Option Value) (x : Int32), jx_Ev d 112 17 [l0, l1, some (.int x), l3, l4, l5, l6] st M Q ↔ jx_Ev d 112 18 [l0, l1, some (.int x), l3, l4, l5, l6] (.int x :: st) M Q) ∧
  (∀ (d : Nat) (lv : List (Option Value)) (st : List Value) (M : jx_M) (Q : jx_Po), jx_Ev d 112 18 lv st M Q ↔ jx_Ev d 112 19 lv (.int 1 :: st) M Q) ∧
  (∀ (d : Nat) (st : List Value) (M : jx_M) (Q : jx_Po) (l1 l2 l3 l4 l5 l6 : Option Value) (x : Nat), jx_Ev d 112 19 [some (.ref x), l1, l2, l3, l4, l5, l6] st M Q ↔ jx_Ev d 112 20 [some (.ref x), l1, l2, l3, l4, l5, l6] (.ref x :: st) M Q) ∧
  (∀ (d : Nat) (lv : List (Option Value)) (st : List Value) (M : jx_M) (Q : jx_Po), jx_Ev d 112 20 lv (.ref 36 :: st) M Q ↔ jx_Ev d 112 23 lv (.ref 50 :: st) M Q) ∧
  (∀ (d : Nat) (st : List Value) (M : jx_M) (Q : jx_Po) (l0 l1 l2 l4 l5 l6 : Option Value) (x : Int32), jx_Ev d 112 23 [l0, l1, l2, some (.int x), l4, l5, l6] st M Q ↔ jx_Ev d 112 24 [l0, l1, l2, some (.int x), l4, l5, l6] (.int x :: st) M Q) ∧
  (∀ (d : Nat) (lv : List (Option Value)) (st : List Value) (M : jx_M) (Q : jx_Po) (x : Int32) (a : Nat) (ha : jx_cl a = 9), jx_Ev d 112 24 lv (.int x :: .ref a :: st) M Q ↔ (vp_in x (jx_sz a) ∧ jx_Ev d 112 25 lv (.int (M a x.toNatClampNeg) :: st) M Q)) ∧
  (∀ (d : Nat) (lv : List (Option Value)) (st : List Value) (M : jx_M) (Q : jx_Po) (x z : Int32), jx_Ev d 112 25 lv (.int z :: .int x :: st) M Q ↔ jx_Ev d 112 26 lv (.int (x <<< (z &&& 31)) :: st) M Q) ∧
  (∀ (d : Nat) (lv : List (Option Value)) (st : List Value) (M : jx_M) (Q : jx_Po) (x z : Int32), jx_Ev d 112 26 lv (.int z :: .int x :: st) M Q ↔ jx_Ev d 112 27 lv (.int (x ||| z) :: st) M Q) ∧
  (∀ (d : Nat) (st : List Value) (M : jx_M) (Q : jx_Po) (l0 l1 l2 l3 l4 l5 l6 : Option Value) (x : Int32), jx_Ev d 112 27 [l0, l1, l2, l3, l4, l5, l6] (.int x :: st) M Q ↔ jx_Ev d 112 28 [l0, l1, some (.int x), l3, l4, l5, l6] st M Q) ∧
  (∀ (d : Nat) (st : List Value) (M : jx_M) (Q : jx_Po) (l0 l1 l2 l4 l5 l6 : Option Value) (x : Int32), jx_Ev d 112 28 [l0, l1, l2, some (.int x), l4, l5, l6] st M Q ↔ jx_Ev d 112 31 [l0, l1, l2, some (.int (x + 1)), l4, l5, l6] st M Q) ∧
  (∀ (d : Nat) (lv : List (Option Value)) (st : List Value) (M : jx_M) (Q : jx_Po), jx_Ev d 112 31 lv st M Q ↔ jx_Ev d 112 9 lv st M Q) ∧
  (∀ (d : Nat) (st : List Value) (M : jx_M) (Q : jx_Po) (l0 l1 l3 l4 l5 l6 : Option Value) (x : Int32), jx_Ev d 112 34 [l0, l1, some (.int x), l3, l4, l5, l6] st M Q ↔ jx_Ev d 112 35 [l0, l1, some (.int x), l3, l4, l5, l6] (.int x :: st) M Q) ∧
  (∀ (d : Nat) (lv : List (Option Value)) (M : jx_M) (Q : jx_Po) (x : Int32), jx_Ev d 112 35 lv [.int x] M Q ↔ Q [.int x] M) ∧
  (∀ (d : Nat) (st : List Value) (M : jx_M) (Q : jx_Po) (l0 l2 l3 l4 l5 l6 : Option Value) (x : Int32), jx_Ev d 112 36 [l0, some (.int x), l2, l3, l4, l5, l6] st M Q ↔ jx_Ev d 112 37 [l0, some (.int x), l2, l3, l4, l5, l6] (.int x :: st) M Q) ∧
  (∀ (d : Nat) (lv : List (Option Value)) (st : List Value) (M : jx_M) (Q : jx_Po), jx_Ev d 112 37 lv st M Q ↔ jx_Ev d 112 39 lv (.int 10 :: st) M Q) ∧
  (∀ (d : Nat) (lv : List (Option Value)) (st : List Value) (M : jx_M) (Q : jx_Po) (x z : Int32), jx_Ev d 112 39 lv (.int z :: .int x :: st) M Q ↔ (if x < z then jx_Ev d 112 67 lv st M Q else jx_Ev d 112 42 lv st M Q)) ∧
  (∀ (d : Nat) (st : List Value) (M : jx_M) (Q : jx_Po) (l1 l2 l3 l4 l5 l6 : Option Value) (x : Nat), jx_Ev d 112 42 [some (.ref x), l1, l2, l3, l4, l5, l6] st M Q ↔ jx_Ev d 112 43 [some (.ref x), l1, l2, l3, l4, l5, l6] (.ref x :: st) M Q) ∧
  (∀ (d : Nat) (st : List Value) (M : jx_M) (Q : jx_Po) (l0 l2 l3 l4 l5 l6 : Option Value) (x : Int32), jx_Ev d 112 43 [l0, some (.int x), l2, l3, l4, l5, l6] st M Q ↔ jx_Ev d 112 44 [l0, some (.int x), l2, l3, l4, l5, l6] (.int x :: st) M Q) ∧
  (∀ (d : Nat) (lv : List (Option Value)) (st : List Value) (M : jx_M) (Q : jx_Po), jx_Ev d 112 44 lv st M Q ↔ jx_Ev d 112 46 lv (.int 10 :: st) M Q) ∧
  (∀ (d : Nat) (lv : List (Option Value)) (st : List Value) (M : jx_M) (Q : jx_Po) (x z : Int32), jx_Ev d 112 46 lv (.int z :: .int x :: st) M Q ↔ jx_Ev d 112 47 lv (.int (x - z) :: st) M Q) ∧
  (∀ (d : Nat) (lv : List (Option Value)) (M : jx_M) (Q : jx_Po) (a0 : Int32), jx_Ev (d + 1) 112 47 lv [.int a0, .ref 36] M Q ↔ jx_I d 89 [.ref 36, .int a0] M (fun x M => jx_Ev (d + 1) 112 50 lv (.int x :: []) M Q)) ∧
  (∀ (d : Nat) (lv : List (Option Value)) (st : List Value) (M : jx_M) (Q : jx_Po) (x : Int32), jx_Ev d 112 50 lv (.int x :: st) M Q ↔ (if x = 0 then jx_Ev d 112 64 lv st M Q else jx_Ev d 112 53 lv st M Q)) ∧
  (∀ (d : Nat) (st : List Value) (M : jx_M) (Q : jx_Po) (l1 l2 l3 l4 l5 l6 : Option Value) (x : Nat), jx_Ev d 112 53 [some (.ref x), l1, l2, l3, l4, l5, l6] st M Q ↔ jx_Ev d 112 54 [some (.ref x), l1, l2, l3, l4, l5, l6] (.ref x :: st) M Q) ∧
  (∀ (d : Nat) (st : List Value) (M : jx_M) (Q : jx_Po) (l0 l2 l3 l4 l5 l6 : Option Value) (x : Int32), jx_Ev d 112 54 [l0, some (.int x), l2, l3, l4, l5, l6] st M Q ↔ jx_Ev d 112 55 [l0, some (.int x), l2, l3, l4, l5, l6] (.int x :: st) M Q) ∧
  (∀ (d : Nat) (lv : List (Option Value)) (st : List Value) (M : jx_M) (Q : jx_Po), jx_Ev d 112 55 lv st M Q ↔ jx_Ev d 112 57 lv (.int 10 :: st) M Q) ∧
  (∀ (d : Nat) (lv : List (Option Value)) (st : List Value) (M : jx_M) (Q : jx_Po) (x z : Int32), jx_Ev d 112 57 lv (.int z :: .int x :: st) M Q ↔ jx_Ev d 112 58 lv (.int (x - z) :: st) M Q) ∧
  (∀ (d : Nat) (lv : List (Option Value)) (M : jx_M) (Q : jx_Po) (a0 : Int32), jx_Ev (d + 1) 112 58 lv [.int a0, .ref 36] M Q ↔ jx_I d 110 [.ref 36, .int a0] M (fun x M => jx_Ev (d + 1) 112 61 lv (.int x :: []) M Q)) ∧
  (∀ (d : Nat) (lv : List (Option Value)) (st : List Value) (M : jx_M) (Q : jx_Po), jx_Ev d 112 61 lv st M Q ↔ jx_Ev d 112 66 lv st M Q) ∧
  (∀ (d : Nat) (lv : List (Option Value)) (st : List Value) (M : jx_M) (Q : jx_Po), jx_Ev d 112 64 lv st M Q ↔ jx_Ev d 112 66 lv (.int (-9) :: st) M Q) ∧
  (∀ (d : Nat) (lv : List (Option Value)) (M : jx_M) (Q : jx_Po) (x : Int32), jx_Ev d 112 66 lv [.int x] M Q ↔ Q [.int x] M) ∧
  (∀ (d : Nat) (lv : List (Option Value)) (st : List Value) (M : jx_M) (Q : jx_Po), jx_Ev d 112 67 lv st M Q ↔ jx_Ev d 112 68 lv (.int 0 :: st) M Q) ∧
  (∀ (d : Nat) (st : List Value) (M : jx_M) (Q : jx_Po) (l0 l1 l2 l3 l4 l5 l6 : Option Value) (x : Int32), jx_Ev d 112 68 [l0, l1, l2, l3, l4, l5, l6] (.int x :: st) M Q ↔ jx_Ev d 112 69 [l0, l1, l2, some (.int x), l4, l5, l6] st M Q) ∧
  (∀ (d : Nat) (lv : List (Option Value)) (st : List Value) (M : jx_M) (Q : jx_Po), jx_Ev d 112 69 lv st M Q ↔ jx_Ev d 112 71 lv (.int (-9) :: st) M Q) ∧
  (∀ (d : Nat) (st : List Value) (M : jx_M) (Q : jx_Po) (l0 l1 l2 l3 l4 l5 l6 : Option Value) (x : Int32), jx_Ev d 112 71 [l0, l1, l2, l3, l4, l5, l6] (.int x :: st) M Q ↔ jx_Ev d 112 73 [l0, l1, l2, l3, some (.int x), l5, l6] st M Q) ∧
  (∀ (d : Nat) (lv : List (Option Value)) (st : List Value) (M : jx_M) (Q : jx_Po), jx_Ev d 112 73 lv st M Q ↔ jx_Ev d 112 74 lv (.int 0 :: st) M Q) ∧
  (∀ (d : Nat) (st : List Value) (M : jx_M) (Q : jx_Po) (l0 l1 l2 l3 l4 l5 l6 : Option Value) (x : Int32), jx_Ev d 112 74 [l0, l1, l2, l3, l4, l5, l6] (.int x :: st) M Q ↔ jx_Ev d 112 76 [l0, l1, l2, l3, l4, some (.int x), l6] st M Q) ∧
  (∀ (d : Nat) (st : List Value) (M : jx_M) (Q : jx_Po) (l1 l2 l3 l4 l5 l6 : Option Value) (x : Nat), jx_Ev d 112 78 [some (.ref x), l1, l2, l3, l4, l5, l6] st M Q ↔ jx_Ev d 112 79 [some (.ref x), l1, l2, l3, l4, l5, l6] (.ref x :: st) M Q) ∧
  (∀ (d : Nat) (lv : List (Option Value)) (st : List Value) (M : jx_M) (Q : jx_Po), jx_Ev d 112 79 lv (.ref 36 :: st) M Q ↔ jx_Ev d 112 82 lv (.int (M 36 5) :: st) M Q) ∧
  (∀ (d : Nat) (lv : List (Option Value)) (st : List Value) (M : jx_M) (Q : jx_Po) (x z : Int32), jx_Ev d 112 82 lv (.int z :: .int x :: st) M Q ↔ (if z ≤ x then jx_Ev d 112 132 lv st M Q else jx_Ev d 112 85 lv st M Q)) ∧
  (∀ (d : Nat) (st : List Value) (M : jx_M) (Q : jx_Po) (l1 l2 l3 l4 l5 l6 : Option Value) (x : Nat), jx_Ev d 112 85 [some (.ref x), l1, l2, l3, l4, l5, l6] st M Q ↔ jx_Ev d 112 86 [some (.ref x), l1, l2, l3, l4, l5, l6] (.ref x :: st) M Q) ∧
  (∀ (d : Nat) (st : List Value) (M : jx_M) (Q : jx_Po) (l0 l1 l2 l3 l4 l6 : Option Value) (x : Int32), jx_Ev d 112 86 [l0, l1, l2, l3, l4, some (.int x), l6] st M Q ↔ jx_Ev d 112 88 [l0, l1, l2, l3, l4, some (.int x), l6] (.int x :: st) M Q) ∧
  (∀ (d : Nat) (lv : List (Option Value)) (M : jx_M) (Q : jx_Po) (a0 : Int32), jx_Ev (d + 1) 112 88 lv [.int a0, .ref 36] M Q ↔ jx_I d 110 [.ref 36, .int a0] M (fun x M => jx_Ev (d + 1) 112 91 lv (.int x :: []) M Q)) ∧
  (∀ (d : Nat) (st : List Value) (M : jx_M) (Q : jx_Po) (l0 l1 l2 l3 l4 l5 l6 : Option Value) (x : Int32), jx_Ev d 112 91 [l0, l1, l2, l3, l4, l5, l6] (.int x :: st) M Q ↔ jx_Ev d 112 93 [l0, l1, l2, l3, l4, l5, some (.int x)] st M Q) ∧
  (∀ (d : Nat) (st : List Value) (M : jx_M) (Q : jx_Po) (l0 l1 l3 l4 l5 l6 : Option Value) (x : Int32), jx_Ev d 112 93 [l0, l1, some (.int x), l3, l4, l5, l6] st M Q ↔ jx_Ev d 112 94 [l0, l1, some (.int x), l3, l4, l5, l6] (.int x :: st) M Q) ∧
  (∀ (d : Nat) (st : List Value) (M : jx_M) (Q : jx_Po) (l0 l1 l2 l3 l4 l5 : Option Value) (x : Int32), jx_Ev d 112 94 [l0, l1, l2, l3, l4, l5, some (.int x)] st M Q ↔ jx_Ev d 112 96 [l0, l1, l2, l3, l4, l5, some (.int x)] (.int x :: st) M Q) ∧
  (∀ (d : Nat) (lv : List (Option Value)) (st : List Value) (M : jx_M) (Q : jx_Po) (x z : Int32), jx_Ev d 112 96 lv (.int z :: .int x :: st) M Q ↔ jx_Ev d 112 97 lv (.int (x + z) :: st) M Q) ∧
  (∀ (d : Nat) (st : List Value) (M : jx_M) (Q : jx_Po) (l0 l1 l2 l3 l4 l5 l6 : Option Value) (x : Int32), jx_Ev d 112 97 [l0, l1, l2, l3, l4, l5, l6] (.int x :: st) M Q ↔ jx_Ev d 112 98 [l0, l1, some (.int x), l3, l4, l5, l6] st M Q) ∧
  (∀ (d : Nat) (st : List Value) (M : jx_M) (Q : jx_Po) (l0 l1 l2 l3 l4 l5 : Option Value) (x : Int32), jx_Ev d 112 98 [l0, l1, l2, l3, l4, l5, some (.int x)] st M Q ↔ jx_Ev d 112 100 [l0, l1, l2, l3, l4, l5, some (.int x)] (.int x :: st) M Q) ∧
  (∀ (d : Nat) (st : List Value) (M : jx_M) (Q : jx_Po) (l0 l1 l2 l4 l5 l6 : Option Value) (x : Int32), jx_Ev d 112 100 [l0, l1, l2, some (.int x), l4, l5, l6] st M Q ↔ jx_Ev d 112 101 [l0, l1, l2, some (.int x), l4, l5, l6] (.int x :: st) M Q) ∧
  (∀ (d : Nat) (lv : List (Option Value)) (st : List Value) (M : jx_M) (Q : jx_Po) (x z : Int32), jx_Ev d 112 101 lv (.int z :: .int x :: st) M Q ↔ (if x ≤ z then jx_Ev d 112 109 lv st M Q else jx_Ev d 112 104 lv st M Q)) ∧
  (∀ (d : Nat) (st : List Value) (M : jx_M) (Q : jx_Po) (l0 l1 l2 l3 l4 l6 : Option Value) (x : Int32), jx_Ev d 112 104 [l0, l1, l2, l3, l4, some (.int x), l6] st M Q ↔ jx_Ev d 112 106 [l0, l1, l2, l3, l4, some (.int x), l6] (.int x :: st) M Q) ∧
  (∀ (d : Nat) (lv : List (Option Value)) (st : List Value) (M : jx_M) (Q : jx_Po), jx_Ev d 112 106 lv st M Q ↔ jx_Ev d 112 111 lv st M Q) ∧
  (∀ (d : Nat) (st : List Value) (M : jx_M) (Q : jx_Po) (l0 l1 l2 l3 l5 l6 : Option Value) (x : Int32), jx_Ev d 112 109 [l0, l1, l2, l3, some (.int x), l5, l6] st M Q ↔ jx_Ev d 112 111 [l0, l1, l2, l3, some (.int x), l5, l6] (.int x :: st) M Q) ∧
  (∀ (d : Nat) (st : List Value) (M : jx_M) (Q : jx_Po) (l0 l1 l2 l3 l4 l5 l6 : Option Value) (x : Int32), jx_Ev d 112 111 [l0, l1, l2, l3, l4, l5, l6] (.int x :: st) M Q ↔ jx_Ev d 112 113 [l0, l1, l2, l3, some (.int x), l5, l6] st M Q) ∧
  (∀ (d : Nat) (st : List Value) (M : jx_M) (Q : jx_Po) (l0 l1 l2 l3 l4 l5 : Option Value) (x : Int32), jx_Ev d 112 113 [l0, l1, l2, l3, l4, l5, some (.int x)] st M Q ↔ jx_Ev d 112 115 [l0, l1, l2, l3, l4, l5, some (.int x)] (.int x :: st) M Q) ∧
  (∀ (d : Nat) (st : List Value) (M : jx_M) (Q : jx_Po) (l0 l1 l2 l4 l5 l6 : Option Value) (x : Int32), jx_Ev d 112 115 [l0, l1, l2, some (.int x), l4, l5, l6] st M Q ↔ jx_Ev d 112 116 [l0, l1, l2, some (.int x), l4, l5, l6] (.int x :: st) M Q) ∧
  (∀ (d : Nat) (lv : List (Option Value)) (st : List Value) (M : jx_M) (Q : jx_Po) (x z : Int32), jx_Ev d 112 116 lv (.int z :: .int x :: st) M Q ↔ (if x ≤ z then jx_Ev d 112 124 lv st M Q else jx_Ev d 112 119 lv st M Q)) ∧
  (∀ (d : Nat) (st : List Value) (M : jx_M) (Q : jx_Po) (l0 l1 l2 l3 l4 l5 : Option Value) (x : Int32), jx_Ev d 112 119 [l0, l1, l2, l3, l4, l5, some (.int x)] st M Q ↔ jx_Ev d 112 121 [l0, l1, l2, l3, l4, l5, some (.int x)] (.int x :: st) M Q) ∧
  (∀ (d : Nat) (lv : List (Option Value)) (st : List Value) (M : jx_M) (Q : jx_Po), jx_Ev d 112 121 lv st M Q ↔ jx_Ev d 112 125 lv st M Q) ∧
  (∀ (d : Nat) (st : List Value) (M : jx_M) (Q : jx_Po) (l0 l1 l2 l4 l5 l6 : Option Value) (x : Int32), jx_Ev d 112 124 [l0, l1, l2, some (.int x), l4, l5, l6] st M Q ↔ jx_Ev d 112 125 [l0, l1, l2, some (.int x), l4, l5, l6] (.int x :: st) M Q) ∧
  (∀ (d : Nat) (st : List Value) (M : jx_M) (Q : jx_Po) (l0 l1 l2 l3 l4 l5 l6 : Option Value) (x : Int32), jx_Ev d 112 125 [l0, l1, l2, l3, l4, l5, l6] (.int x :: st) M Q ↔ jx_Ev d 112 126 [l0, l1, l2, some (.int x), l4, l5, l6] st M Q) ∧
  (∀ (d : Nat) (st : List Value) (M : jx_M) (Q : jx_Po) (l0 l1 l2 l3 l4 l6 : Option Value) (x : Int32), jx_Ev d 112 126 [l0, l1, l2, l3, l4, some (.int x), l6] st M Q ↔ jx_Ev d 112 129 [l0, l1, l2, l3, l4, some (.int (x + 1)), l6] st M Q) ∧
  (∀ (d : Nat) (lv : List (Option Value)) (st : List Value) (M : jx_M) (Q : jx_Po), jx_Ev d 112 129 lv st M Q ↔ jx_Ev d 112 76 lv st M Q) ∧
  (∀ (d : Nat) (st : List Value) (M : jx_M) (Q : jx_Po) (l0 l2 l3 l4 l5 l6 : Option Value) (x : Int32), jx_Ev d 112 132 [l0, some (.int x), l2, l3, l4, l5, l6] st M Q ↔ jx_Ev d 112 133 [l0, some (.int x), l2, l3, l4, l5, l6] (.int x :: st) M Q) ∧
  (∀ (d : Nat) (lv : List (Option Value)) (st : List Value) (M : jx_M) (Q : jx_Po) (x : Int32), jx_Ev d 112 133 lv (.int x :: st) M Q ↔ (if x = 0 then jx_Ev d 112 136 lv st M Q else jx_Ev d 112 140 lv st M Q)) ∧
  (∀ (d : Nat) (st : List Value) (M : jx_M) (Q : jx_Po) (l0 l1 l3 l4 l5 l6 : Option Value) (x : Int32), jx_Ev d 112 136 [l0, l1, some (.int x), l3, l4, l5, l6] st M Q ↔ jx_Ev d 112 137 [l0, l1, some (.int x), l3, l4, l5, l6] (.int x :: st) M Q) ∧
  (∀ (d : Nat) (lv : List (Option Value)) (st : List Value) (M : jx_M) (Q : jx_Po), jx_Ev d 112 137 lv st M Q ↔ jx_Ev d 112 142 lv st M Q) ∧
  (∀ (d : Nat) (st : List Value) (M : jx_M) (Q : jx_Po) (l0 l1 l2 l3 l5 l6 : Option Value) (x : Int32), jx_Ev d 112 140 [l0, l1, l2, l3, some (.int x), l5, l6] st M Q ↔ jx_Ev d 112 142 [l0, l1, l2, l3, some (.int x), l5, l6] (.int x :: st) M Q) ∧
  (∀ (d : Nat) (lv : List (Option Value)) (M : jx_M) (Q : jx_Po) (x : Int32), jx_Ev d 112 142 lv [.int x] M Q ↔ Q [.int x] M) := by
  refine ⟨?_, ?_, ?_, ?_, ?_, ?_, ?_, ?_, ?_, ?_, ?_, ?_, ?_, ?_, ?_, ?_, ?_, ?_, ?_, ?_, ?_, ?_, ?_, ?_, ?_, ?_, ?_, ?_, ?_, ?_, ?_, ?_, ?_, ?_, ?_, ?_, ?_, ?_, ?_, ?_, ?_, ?_, ?_, ?_, ?_, ?_, ?_, ?_, ?_, ?_, ?_, ?_, ?_, ?_, ?_, ?_, ?_, ?_, ?_, ?_, ?_, ?_, ?_, ?_, ?_, ?_, ?_, ?_, ?_, ?_, ?_, ?_, ?_, ?_, ?_, ?_, ?_, ?_, ?_⟩
  · exact fun d lv st M Q => jx_ev_st (jx_fok (by decide +kernel : decode (jx_mb 112) 0 = .ok (.iconst 0, 1))) rfl rfl rfl
  · exact fun d st M Q l0 l1 l2 l3 l4 l5 l6 x => jx_ev_st (jx_fok (by decide +kernel : decode (jx_mb 112) 1 = .ok (.istore_n 2, 1))) rfl rfl rfl
  · exact fun d st M Q l0 l2 l3 l4 l5 l6 x => jx_ev_st (jx_fok (by decide +kernel : decode (jx_mb 112) 2 = .ok (.iload_n 1, 1))) rfl rfl rfl
  · exact fun d lv st M Q => jx_ev_st (jx_fok (by decide +kernel : decode (jx_mb 112) 3 = .ok (.iconst 1, 1))) rfl rfl rfl
  · exact fun d lv st M Q x z => jx_k_b2n (jx_fok (by decide +kernel : decode (jx_mb 112) 4 = .ok (.if_icmp .ne 32, 3))) rfl jx_hNe
  · exact fun d lv st M Q => jx_ev_st (jx_fok (by decide +kernel : decode (jx_mb 112) 7 = .ok (.iconst 0, 1))) rfl rfl rfl
  · exact fun d st M Q l0 l1 l2 l3 l4 l5 l6 x => jx_ev_st (jx_fok (by decide +kernel : decode (jx_mb 112) 8 = .ok (.istore_n 3, 1))) rfl rfl rfl
  · exact fun d st M Q l1 l2 l3 l4 l5 l6 x => jx_ev_st (jx_fok (by decide +kernel : decode (jx_mb 112) 10 = .ok (.aload_n 0, 1))) rfl rfl rfl
  · exact fun d lv st M Q => jx_k_gf (jx_fok (by decide +kernel : decode (jx_mb 112) 11 = .ok (.getfield 80, 3))) rfl rfl rfl
  · exact fun d lv st M Q x z => jx_k_b2 (jx_fok (by decide +kernel : decode (jx_mb 112) 14 = .ok (.if_icmp .ge 20, 3))) rfl jx_hGe
  · exact fun d st M Q l0 l1 l3 l4 l5 l6 x => jx_ev_st (jx_fok (by decide +kernel : decode (jx_mb 112) 17 = .ok (.iload_n 2, 1))) rfl rfl rfl
  · exact fun d lv st M Q => jx_ev_st (jx_fok (by decide +kernel : decode (jx_mb 112) 18 = .ok (.iconst 1, 1))) rfl rfl rfl
  · exact fun d st M Q l1 l2 l3 l4 l5 l6 x => jx_ev_st (jx_fok (by decide +kernel : decode (jx_mb 112) 19 = .ok (.aload_n 0, 1))) rfl rfl rfl
  · exact fun d lv st M Q => jx_k_gf (jx_fok (by decide +kernel : decode (jx_mb 112) 20 = .ok (.getfield 49, 3))) rfl rfl rfl
  · exact fun d st M Q l0 l1 l2 l4 l5 l6 x => jx_ev_st (jx_fok (by decide +kernel : decode (jx_mb 112) 23 = .ok (.iload_n 3, 1))) rfl rfl rfl
  · exact fun d lv st M Q x a ha => jx_k_al (jx_fok (by decide +kernel : decode (jx_mb 112) 24 = .ok (.iaload, 1))) ha
  · exact fun d lv st M Q x z => jx_ev_st (jx_fok (by decide +kernel : decode (jx_mb 112) 25 = .ok (.ishl, 1))) rfl rfl rfl
  · exact fun d lv st M Q x z => jx_ev_st (jx_fok (by decide +kernel : decode (jx_mb 112) 26 = .ok (.ior, 1))) rfl rfl rfl
  · exact fun d st M Q l0 l1 l2 l3 l4 l5 l6 x => jx_ev_st (jx_fok (by decide +kernel : decode (jx_mb 112) 27 = .ok (.istore_n 2, 1))) rfl rfl rfl
  · exact fun d st M Q l0 l1 l2 l4 l5 l6 x => jx_ev_st (jx_fok (by decide +kernel : decode (jx_mb 112) 28 = .ok (.iinc 3 1, 3))) rfl rfl rfl
  · exact fun d lv st M Q => jx_k_goto (jx_fok (by decide +kernel : decode (jx_mb 112) 31 = .ok (.goto (-22), 3))) rfl
  · exact fun d st M Q l0 l1 l3 l4 l5 l6 x => jx_ev_st (jx_fok (by decide +kernel : decode (jx_mb 112) 34 = .ok (.iload_n 2, 1))) rfl rfl rfl
  · exact fun d lv M Q x => jx_k_ri (jx_fok (by decide +kernel : decode (jx_mb 112) 35 = .ok (.ireturn, 1))) rfl
  · exact fun d st M Q l0 l2 l3 l4 l5 l6 x => jx_ev_st (jx_fok (by decide +kernel : decode (jx_mb 112) 36 = .ok (.iload_n 1, 1))) rfl rfl rfl
  · exact fun d lv st M Q => jx_ev_st (jx_fok (by decide +kernel : decode (jx_mb 112) 37 = .ok (.bipush 10, 2))) rfl rfl rfl
  · exact fun d lv st M Q x z => jx_k_b2 (jx_fok (by decide +kernel : decode (jx_mb 112) 39 = .ok (.if_icmp .lt 28, 3))) rfl jx_hLt
  · exact fun d st M Q l1 l2 l3 l4 l5 l6 x => jx_ev_st (jx_fok (by decide +kernel : decode (jx_mb 112) 42 = .ok (.aload_n 0, 1))) rfl rfl rfl
  · exact fun d st M Q l0 l2 l3 l4 l5 l6 x => jx_ev_st (jx_fok (by decide +kernel : decode (jx_mb 112) 43 = .ok (.iload_n 1, 1))) rfl rfl rfl
  · exact fun d lv st M Q => jx_ev_st (jx_fok (by decide +kernel : decode (jx_mb 112) 44 = .ok (.bipush 10, 2))) rfl rfl rfl
  · exact fun d lv st M Q x z => jx_ev_st (jx_fok (by decide +kernel : decode (jx_mb 112) 46 = .ok (.isub, 1))) rfl rfl rfl
  · exact fun d lv M Q a0 => jx_ev_ci (jx_fok (by decide +kernel : decode (jx_mb 112) 47 = .ok (.invokevirtual 142, 3))) rfl (jx_ccV (As := [.int a0]) (rest := []) rfl rfl rfl rfl rfl rfl) (by decide)
  · exact fun d lv st M Q x => jx_k_b1 (jx_fok (by decide +kernel : decode (jx_mb 112) 50 = .ok (.ifCond .eq 14, 3))) rfl jx_hEq
  · exact fun d st M Q l1 l2 l3 l4 l5 l6 x => jx_ev_st (jx_fok (by decide +kernel : decode (jx_mb 112) 53 = .ok (.aload_n 0, 1))) rfl rfl rfl
  · exact fun d st M Q l0 l2 l3 l4 l5 l6 x => jx_ev_st (jx_fok (by decide +kernel : decode (jx_mb 112) 54 = .ok (.iload_n 1, 1))) rfl rfl rfl
  · exact fun d lv st M Q => jx_ev_st (jx_fok (by decide +kernel : decode (jx_mb 112) 55 = .ok (.bipush 10, 2))) rfl rfl rfl
  · exact fun d lv st M Q x z => jx_ev_st (jx_fok (by decide +kernel : decode (jx_mb 112) 57 = .ok (.isub, 1))) rfl rfl rfl
  · exact fun d lv M Q a0 => jx_ev_ci (jx_fok (by decide +kernel : decode (jx_mb 112) 58 = .ok (.invokevirtual 164, 3))) rfl (jx_ccV (As := [.int a0]) (rest := []) rfl rfl rfl rfl rfl rfl) (by decide)
  · exact fun d lv st M Q => jx_k_goto (jx_fok (by decide +kernel : decode (jx_mb 112) 61 = .ok (.goto 5, 3))) rfl
  · exact fun d lv st M Q => jx_ev_st (jx_fok (by decide +kernel : decode (jx_mb 112) 64 = .ok (.bipush (-9), 2))) rfl rfl rfl
  · exact fun d lv M Q x => jx_k_ri (jx_fok (by decide +kernel : decode (jx_mb 112) 66 = .ok (.ireturn, 1))) rfl
  · exact fun d lv st M Q => jx_ev_st (jx_fok (by decide +kernel : decode (jx_mb 112) 67 = .ok (.iconst 0, 1))) rfl rfl rfl
  · exact fun d st M Q l0 l1 l2 l3 l4 l5 l6 x => jx_ev_st (jx_fok (by decide +kernel : decode (jx_mb 112) 68 = .ok (.istore_n 3, 1))) rfl rfl rfl
  · exact fun d lv st M Q => jx_ev_st (jx_fok (by decide +kernel : decode (jx_mb 112) 69 = .ok (.bipush (-9), 2))) rfl rfl rfl
  · exact fun d st M Q l0 l1 l2 l3 l4 l5 l6 x => jx_ev_st (jx_fok (by decide +kernel : decode (jx_mb 112) 71 = .ok (.istore 4, 2))) rfl rfl rfl
  · exact fun d lv st M Q => jx_ev_st (jx_fok (by decide +kernel : decode (jx_mb 112) 73 = .ok (.iconst 0, 1))) rfl rfl rfl
  · exact fun d st M Q l0 l1 l2 l3 l4 l5 l6 x => jx_ev_st (jx_fok (by decide +kernel : decode (jx_mb 112) 74 = .ok (.istore 5, 2))) rfl rfl rfl
  · exact fun d st M Q l1 l2 l3 l4 l5 l6 x => jx_ev_st (jx_fok (by decide +kernel : decode (jx_mb 112) 78 = .ok (.aload_n 0, 1))) rfl rfl rfl
  · exact fun d lv st M Q => jx_k_gf (jx_fok (by decide +kernel : decode (jx_mb 112) 79 = .ok (.getfield 77, 3))) rfl rfl rfl
  · exact fun d lv st M Q x z => jx_k_b2 (jx_fok (by decide +kernel : decode (jx_mb 112) 82 = .ok (.if_icmp .ge 50, 3))) rfl jx_hGe
  · exact fun d st M Q l1 l2 l3 l4 l5 l6 x => jx_ev_st (jx_fok (by decide +kernel : decode (jx_mb 112) 85 = .ok (.aload_n 0, 1))) rfl rfl rfl
  · exact fun d st M Q l0 l1 l2 l3 l4 l6 x => jx_ev_st (jx_fok (by decide +kernel : decode (jx_mb 112) 86 = .ok (.iload 5, 2))) rfl rfl rfl
  · exact fun d lv M Q a0 => jx_ev_ci (jx_fok (by decide +kernel : decode (jx_mb 112) 88 = .ok (.invokevirtual 164, 3))) rfl (jx_ccV (As := [.int a0]) (rest := []) rfl rfl rfl rfl rfl rfl) (by decide)
  · exact fun d st M Q l0 l1 l2 l3 l4 l5 l6 x => jx_ev_st (jx_fok (by decide +kernel : decode (jx_mb 112) 91 = .ok (.istore 6, 2))) rfl rfl rfl
  · exact fun d st M Q l0 l1 l3 l4 l5 l6 x => jx_ev_st (jx_fok (by decide +kernel : decode (jx_mb 112) 93 = .ok (.iload_n 2, 1))) rfl rfl rfl
  · exact fun d st M Q l0 l1 l2 l3 l4 l5 x => jx_ev_st (jx_fok (by decide +kernel : decode (jx_mb 112) 94 = .ok (.iload 6, 2))) rfl rfl rfl
  · exact fun d lv st M Q x z => jx_ev_st (jx_fok (by decide +kernel : decode (jx_mb 112) 96 = .ok (.iadd, 1))) rfl rfl rfl
  · exact fun d st M Q l0 l1 l2 l3 l4 l5 l6 x => jx_ev_st (jx_fok (by decide +kernel : decode (jx_mb 112) 97 = .ok (.istore_n 2, 1))) rfl rfl rfl
  · exact fun d st M Q l0 l1 l2 l3 l4 l5 x => jx_ev_st (jx_fok (by decide +kernel : decode (jx_mb 112) 98 = .ok (.iload 6, 2))) rfl rfl rfl
  · exact fun d st M Q l0 l1 l2 l4 l5 l6 x => jx_ev_st (jx_fok (by decide +kernel : decode (jx_mb 112) 100 = .ok (.iload_n 3, 1))) rfl rfl rfl
  · exact fun d lv st M Q x z => jx_k_b2 (jx_fok (by decide +kernel : decode (jx_mb 112) 101 = .ok (.if_icmp .le 8, 3))) rfl jx_hLe
  · exact fun d st M Q l0 l1 l2 l3 l4 l6 x => jx_ev_st (jx_fok (by decide +kernel : decode (jx_mb 112) 104 = .ok (.iload 5, 2))) rfl rfl rfl
  · exact fun d lv st M Q => jx_k_goto (jx_fok (by decide +kernel : decode (jx_mb 112) 106 = .ok (.goto 5, 3))) rfl
  · exact fun d st M Q l0 l1 l2 l3 l5 l6 x => jx_ev_st (jx_fok (by decide +kernel : decode (jx_mb 112) 109 = .ok (.iload 4, 2))) rfl rfl rfl
  · exact fun d st M Q l0 l1 l2 l3 l4 l5 l6 x => jx_ev_st (jx_fok (by decide +kernel : decode (jx_mb 112) 111 = .ok (.istore 4, 2))) rfl rfl rfl
  · exact fun d st M Q l0 l1 l2 l3 l4 l5 x => jx_ev_st (jx_fok (by decide +kernel : decode (jx_mb 112) 113 = .ok (.iload 6, 2))) rfl rfl rfl
  · exact fun d st M Q l0 l1 l2 l4 l5 l6 x => jx_ev_st (jx_fok (by decide +kernel : decode (jx_mb 112) 115 = .ok (.iload_n 3, 1))) rfl rfl rfl
  · exact fun d lv st M Q x z => jx_k_b2 (jx_fok (by decide +kernel : decode (jx_mb 112) 116 = .ok (.if_icmp .le 8, 3))) rfl jx_hLe
  · exact fun d st M Q l0 l1 l2 l3 l4 l5 x => jx_ev_st (jx_fok (by decide +kernel : decode (jx_mb 112) 119 = .ok (.iload 6, 2))) rfl rfl rfl
  · exact fun d lv st M Q => jx_k_goto (jx_fok (by decide +kernel : decode (jx_mb 112) 121 = .ok (.goto 4, 3))) rfl
  · exact fun d st M Q l0 l1 l2 l4 l5 l6 x => jx_ev_st (jx_fok (by decide +kernel : decode (jx_mb 112) 124 = .ok (.iload_n 3, 1))) rfl rfl rfl
  · exact fun d st M Q l0 l1 l2 l3 l4 l5 l6 x => jx_ev_st (jx_fok (by decide +kernel : decode (jx_mb 112) 125 = .ok (.istore_n 3, 1))) rfl rfl rfl
  · exact fun d st M Q l0 l1 l2 l3 l4 l6 x => jx_ev_st (jx_fok (by decide +kernel : decode (jx_mb 112) 126 = .ok (.iinc 5 1, 3))) rfl rfl rfl
  · exact fun d lv st M Q => jx_k_goto (jx_fok (by decide +kernel : decode (jx_mb 112) 129 = .ok (.goto (-53), 3))) rfl
  · exact fun d st M Q l0 l2 l3 l4 l5 l6 x => jx_ev_st (jx_fok (by decide +kernel : decode (jx_mb 112) 132 = .ok (.iload_n 1, 1))) rfl rfl rfl
  · exact fun d lv st M Q x => jx_k_b1n (jx_fok (by decide +kernel : decode (jx_mb 112) 133 = .ok (.ifCond .ne 7, 3))) rfl jx_hNe
  · exact fun d st M Q l0 l1 l3 l4 l5 l6 x => jx_ev_st (jx_fok (by decide +kernel : decode (jx_mb 112) 136 = .ok (.iload_n 2, 1))) rfl rfl rfl
  · exact fun d lv st M Q => jx_k_goto (jx_fok (by decide +kernel : decode (jx_mb 112) 137 = .ok (.goto 5, 3))) rfl
  · exact fun d st M Q l0 l1 l2 l3 l5 l6 x => jx_ev_st (jx_fok (by decide +kernel : decode (jx_mb 112) 140 = .ok (.iload 4, 2))) rfl rfl rfl
  · exact fun d lv M Q x => jx_k_ri (jx_fok (by decide +kernel : decode (jx_mb 112) 142 = .ok (.ireturn, 1))) rfl
theorem eX8_tellOpen_9 (d : Nat) (st : List Value) (M : jx_M) (Q : jx_Po) (l0 l1 l2 l4 l5 l6 : Option Value) (x : Int32) : jx_Ev d 112 9 [l0, l1, l2, some (.int x), l4, l5, l6] st M Q ↔ jx_Ev d 112 10 [l0, l1, l2, some (.int x), l4, l5, l6] (.int x :: st) M Q := jx_ev_st (jx_fok (by decide +kernel : decode (jx_mb 112) 9 = .ok (.iload_n 3, 1))) rfl rfl rfl
theorem eX8_tellOpen_76 (d : Nat) (st : List Value) (M : jx_M) (Q : jx_Po) (l0 l1 l2 l3 l4 l6 : Option Value) (x : Int32) : jx_Ev d 112 76 [l0, l1, l2, l3, l4, some (.int x), l6] st M Q ↔ jx_Ev d 112 78 [l0, l1, l2, l3, l4, some (.int x), l6] (.int x :: st) M Q := jx_ev_st (jx_fok (by decide +kernel : decode (jx_mb 112) 76 = .ok (.iload 5, 2))) rfl rfl rfl
theorem kX8_tellOpen (d : Nat) (M : jx_M) (q : Int32 → jx_M → Prop) (a0 a1 : Value) : jx_I d 112 [a0, a1] M q ↔ jx_Ev d 112 0 [some a0, some a1, none, none, none, none, none] [] M (jx_qI q) := Iff.rfl
set_option maxRecDepth 100000 in
theorem eX8_findEase :
  (∀ (d : Nat) (st : List Value) (M : jx_M) (Q : jx_Po) (l1 l2 l3 l4 l5 l6 l7 l8 : Option Value) (x : Nat), jx_Ev d 113 0 [some (.ref x), l1, l2, l3, l4, l5, l6, l7, l8] st M Q ↔ jx_Ev d 113 1 [some (.ref x), l1, l2, l3, l4, l5, l6, l7, l8] (.ref x :: st) M Q) ∧
  (∀ (d : Nat) (st : List Value) (M : jx_M) (Q : jx_Po) (l0 l2 l3 l4 l5 l6 l7 l8 : Option Value) (x : Int32), jx_Ev d 113 1 [l0, some (.int x), l2, l3, l4, l5, l6, l7, l8] st M Q ↔ jx_Ev d 113 2 [l0, some (.int x), l2, l3, l4, l5, l6, l7, l8] (.int x :: st) M Q) ∧
  (∀ (d : Nat) (lv : List (Option Value)) (M : jx_M) (Q : jx_Po) (a0 : Int32), jx_Ev (d + 1) 113 2 lv [.int a0, .ref 36] M Q ↔ jx_I d 98 [.ref 36, .int a0] M (fun x M => jx_Ev (d + 1) 113 5 lv (.int x :: []) M Q)) ∧
  (∀ (d : Nat) (st : List Value) (M : jx_M) (Q : jx_Po) (l0 l1 l2 l3 l4 l5 l6 l7 l8 : Option Value) (x : Int32), jx_Ev d 113 5 [l0, l1, l2, l3, l4, l5, l6, l7, l8] (.int x :: st) M Q ↔ jx_Ev d 113 6 [l0, l1, some (.int x), l3, l4, l5, l6, l7, l8] st M Q) ∧
  (∀ (d : Nat) (lv : List (Option Value)) (st : List Value) (M : jx_M) (Q : jx_Po), jx_Ev d 113 6 lv st M Q ↔ jx_Ev d 113 7 lv (.int 1 :: st) M Q) ∧
  (∀ (d : Nat) (st : List Value) (M : jx_M) (Q : jx_Po) (l0 l1 l2 l3 l4 l5 l6 l7 l8 : Option Value) (x : Int32), jx_Ev d 113 7 [l0, l1, l2, l3, l4, l5, l6, l7, l8] (.int x :: st) M Q ↔ jx_Ev d 113 8 [l0, l1, l2, some (.int x), l4, l5, l6, l7, l8] st M Q) ∧
  (∀ (d : Nat) (lv : List (Option Value)) (st : List Value) (M : jx_M) (Q : jx_Po), jx_Ev d 113 8 lv st M Q ↔ jx_Ev d 113 9 lv (.int 0 :: st) M Q) ∧
  (∀ (d : Nat) (st : List Value) (M : jx_M) (Q : jx_Po) (l0 l1 l2 l3 l4 l5 l6 l7 l8 : Option Value) (x : Int32), jx_Ev d 113 9 [l0, l1, l2, l3, l4, l5, l6, l7, l8] (.int x :: st) M Q ↔ jx_Ev d 113 11 [l0, l1, l2, l3, some (.int x), l5, l6, l7, l8] st M Q) ∧
  (∀ (d : Nat) (st : List Value) (M : jx_M) (Q : jx_Po) (l1 l2 l3 l4 l5 l6 l7 l8 : Option Value) (x : Nat), jx_Ev d 113 13 [some (.ref x), l1, l2, l3, l4, l5, l6, l7, l8] st M Q ↔ jx_Ev d 113 14 [some (.ref x), l1, l2, l3, l4, l5, l6, l7, l8] (.ref x :: st) M Q) ∧
  (∀ (d : Nat) (lv : List (Option Value)) (st : List Value) (M : jx_M) (Q : jx_Po), jx_Ev d 113 14 lv (.ref 36 :: st) M Q ↔ jx_Ev d 113 17 lv (.int (M 36 6) :: st) M Q) ∧
  (∀ (d : Nat) (lv : List (Option Value)) (st : List Value) (M : jx_M) (Q : jx_Po) (x z : Int32), jx_Ev d 113 17 lv (.int z :: .int x :: st) M Q ↔ (if z ≤ x then jx_Ev d 113 44 lv st M Q else jx_Ev d 113 20 lv st M Q)) ∧
  (∀ (d : Nat) (st : List Value) (M : jx_M) (Q : jx_Po) (l0 l1 l2 l4 l5 l6 l7 l8 : Option Value) (x : Int32), jx_Ev d 113 20 [l0, l1, l2, some (.int x), l4, l5, l6, l7, l8] st M Q ↔ jx_Ev d 113 21 [l0, l1, l2, some (.int x), l4, l5, l6, l7, l8] (.int x :: st) M Q) ∧
  (∀ (d : Nat) (st : List Value) (M : jx_M) (Q : jx_Po) (l0 l1 l3 l4 l5 l6 l7 l8 : Option Value) (x : Int32), jx_Ev d 113 21 [l0, l1, some (.int x), l3, l4, l5, l6, l7, l8] st M Q ↔ jx_Ev d 113 22 [l0, l1, some (.int x), l3, l4, l5, l6, l7, l8] (.int x :: st) M Q) ∧
  (∀ (d : Nat) (st : List Value) (M : jx_M) (Q : jx_Po) (l0 l1 l2 l3 l5 l6 l7 l8 : Option Value) (x : Int32), jx_Ev d 113 22 [l0, l1, l2, l3, some (.int x), l5, l6, l7, l8] st M Q ↔ jx_Ev d 113 24 [l0, l1, l2, l3, some (.int x), l5, l6, l7, l8] (.int x :: st) M Q) ∧
  (∀ (d : Nat) (lv : List (Option Value)) (st : List Value) (M : jx_M) (Q : jx_Po) (x z : Int32), jx_Ev d 113 24 lv (.int z :: .int x :: st) M Q ↔ jx_Ev d 113 25 lv (.int (x >>> (z &&& 31)) :: st) M Q) ∧
  (∀ (d : Nat) (lv : List (Option Value)) (st : List Value) (M : jx_M) (Q : jx_Po), jx_Ev d 113 25 lv st M Q ↔ jx_Ev d 113 26 lv (.int 1 :: st) M Q) ∧
  (∀ (d : Nat) (lv : List (Option Value)) (st : List Value) (M : jx_M) (Q : jx_Po) (x z : Int32), jx_Ev d 113 26 lv (.int z :: .int x :: st) M Q ↔ jx_Ev d 113 27 lv (.int (x &&& z) :: st) M Q) ∧
  (∀ (d : Nat) (lv : List (Option Value)) (st : List Value) (M : jx_M) (Q : jx_Po), jx_Ev d 113 27 lv st M Q ↔ jx_Ev d 113 28 lv (.int 1 :: st) M Q) ∧
  (∀ (d : Nat) (lv : List (Option Value)) (st : List Value) (M : jx_M) (Q : jx_Po) (x z : Int32), jx_Ev d 113 28 lv (.int z :: .int x :: st) M Q ↔ (if x = z then jx_Ev d 113 31 lv st M Q else jx_Ev d 113 35 lv st M Q)) ∧
  (∀ (d : Nat) (lv : List (Option Value)) (st : List Value) (M : jx_M) (Q : jx_Po), jx_Ev d 113 31 lv st M Q ↔ jx_Ev d 113 32 lv (.int 4 :: st) M Q) ∧
  (∀ (d : Nat) (lv : List (Option Value)) (st : List Value) (M : jx_M) (Q : jx_Po), jx_Ev d 113 32 lv st M Q ↔ jx_Ev d 113 36 lv st M Q) ∧
  (∀ (d : Nat) (lv : List (Option Value)) (st : List Value) (M : jx_M) (Q : jx_Po), jx_Ev d 113 35 lv st M Q ↔ jx_Ev d 113 36 lv (.int 1 :: st) M Q) ∧
  (∀ (d : Nat) (lv : List (Option Value)) (st : List Value) (M : jx_M) (Q : jx_Po) (x z : Int32), jx_Ev d 113 36 lv (.int z :: .int x :: st) M Q ↔ jx_Ev d 113 37 lv (.int (x * z) :: st) M Q) ∧
  (∀ (d : Nat) (st : List Value) (M : jx_M) (Q : jx_Po) (l0 l1 l2 l3 l4 l5 l6 l7 l8 : Option Value) (x : Int32), jx_Ev d 113 37 [l0, l1, l2, l3, l4, l5, l6, l7, l8] (.int x :: st) M Q ↔ jx_Ev d 113 38 [l0, l1, l2, some (.int x), l4, l5, l6, l7, l8] st M Q) ∧
  (∀ (d : Nat) (st : List Value) (M : jx_M) (Q : jx_Po) (l0 l1 l2 l3 l5 l6 l7 l8 : Option Value) (x : Int32), jx_Ev d 113 38 [l0, l1, l2, l3, some (.int x), l5, l6, l7, l8] st M Q ↔ jx_Ev d 113 41 [l0, l1, l2, l3, some (.int (x + 1)), l5, l6, l7, l8] st M Q) ∧
  (∀ (d : Nat) (lv : List (Option Value)) (st : List Value) (M : jx_M) (Q : jx_Po), jx_Ev d 113 41 lv st M Q ↔ jx_Ev d 113 11 lv st M Q) ∧
  (∀ (d : Nat) (lv : List (Option Value)) (st : List Value) (M : jx_M) (Q : jx_Po), jx_Ev d 113 44 lv st M Q ↔ jx_Ev d 113 46 lv (.int (-9) :: st) M Q) ∧
  (∀ (d : Nat) (st : List Value) (M : jx_M) (Q : jx_Po) (l0 l1 l2 l3 l4 l5 l6 l7 l8 : Option Value) (x : Int32), jx_Ev d 113 46 [l0, l1, l2, l3, l4, l5, l6, l7, l8] (.int x :: st) M Q ↔ jx_Ev d 113 48 [l0, l1, l2, l3, some (.int x), l5, l6, l7, l8] st M Q) ∧
  (∀ (d : Nat) (lv : List (Option Value)) (st : List Value) (M : jx_M) (Q : jx_Po), jx_Ev d 113 48 lv st M Q ↔ jx_Ev d 113 49 lv (.int 0 :: st) M Q) ∧
  (∀ (d : Nat) (st : List Value) (M : jx_M) (Q : jx_Po) (l0 l1 l2 l3 l4 l5 l6 l7 l8 : Option Value) (x : Int32), jx_Ev d 113 49 [l0, l1, l2, l3, l4, l5, l6, l7, l8] (.int x :: st) M Q ↔ jx_Ev d 113 51 [l0, l1, l2, l3, l4, some (.int x), l6, l7, l8] st M Q) ∧
  (∀ (d : Nat) (st : List Value) (M : jx_M) (Q : jx_Po) (l0 l1 l2 l4 l5 l6 l7 l8 : Option Value) (x : Int32), jx_Ev d 113 53 [l0, l1, l2, some (.int x), l4, l5, l6, l7, l8] st M Q ↔ jx_Ev d 113 54 [l0, l1, l2, some (.int x), l4, l5, l6, l7, l8] (.int x :: st) M Q) ∧
  (∀ (d : Nat) (lv : List (Option Value)) (st : List Value) (M : jx_M) (Q : jx_Po) (x z : Int32), jx_Ev d 113 54 lv (.int z :: .int x :: st) M Q ↔ (if z ≤ x then jx_Ev d 113 190 lv st M Q else jx_Ev d 113 57 lv st M Q)) ∧
  (∀ (d : Nat) (st : List Value) (M : jx_M) (Q : jx_Po) (l0 l1 l2 l3 l4 l6 l7 l8 : Option Value) (x : Int32), jx_Ev d 113 57 [l0, l1, l2, l3, l4, some (.int x), l6, l7, l8] st M Q ↔ jx_Ev d 113 59 [l0, l1, l2, l3, l4, some (.int x), l6, l7, l8] (.int x :: st) M Q) ∧
  (∀ (d : Nat) (st : List Value) (M : jx_M) (Q : jx_Po) (l0 l1 l2 l3 l4 l5 l6 l7 l8 : Option Value) (x : Int32), jx_Ev d 113 59 [l0, l1, l2, l3, l4, l5, l6, l7, l8] (.int x :: st) M Q ↔ jx_Ev d 113 61 [l0, l1, l2, l3, l4, l5, some (.int x), l7, l8] st M Q) ∧
  (∀ (d : Nat) (st : List Value) (M : jx_M) (Q : jx_Po) (l1 l2 l3 l4 l5 l6 l7 l8 : Option Value) (x : Nat), jx_Ev d 113 61 [some (.ref x), l1, l2, l3, l4, l5, l6, l7, l8] st M Q ↔ jx_Ev d 113 62 [some (.ref x), l1, l2, l3, l4, l5, l6, l7, l8] (.ref x :: st) M Q) ∧
  (∀ (d : Nat) (lv : List (Option Value)) (st : List Value) (M : jx_M) (Q : jx_Po), jx_Ev d 113 62 lv (.ref 36 :: st) M Q ↔ jx_Ev d 113 65 lv (.int (M 36 6) :: st) M Q) ∧
  (∀ (d : Nat) (lv : List (Option Value)) (st : List Value) (M : jx_M) (Q : jx_Po), jx_Ev d 113 65 lv st M Q ↔ jx_Ev d 113 66 lv (.int 1 :: st) M Q) ∧
  (∀ (d : Nat) (lv : List (Option Value)) (st : List Value) (M : jx_M) (Q : jx_Po) (x z : Int32), jx_Ev d 113 66 lv (.int z :: .int x :: st) M Q ↔ jx_Ev d 113 67 lv (.int (x - z) :: st) M Q) ∧
  (∀ (d : Nat) (st : List Value) (M : jx_M) (Q : jx_Po) (l0 l1 l2 l3 l4 l5 l6 l7 l8 : Option Value) (x : Int32), jx_Ev d 113 67 [l0, l1, l2, l3, l4, l5, l6, l7, l8] (.int x :: st) M Q ↔ jx_Ev d 113 69 [l0, l1, l2, l3, l4, l5, l6, some (.int x), l8] st M Q) ∧
  (∀ (d : Nat) (lv : List (Option Value)) (st : List Value) (M : jx_M) (Q : jx_Po) (x : Int32), jx_Ev d 113 71 lv (.int x :: st) M Q ↔ (if x < 0 then jx_Ev d 113 127 lv st M Q else jx_Ev d 113 74 lv st M Q)) ∧
  (∀ (d : Nat) (st : List Value) (M : jx_M) (Q : jx_Po) (l1 l2 l3 l4 l5 l6 l7 l8 : Option Value) (x : Nat), jx_Ev d 113 74 [some (.ref x), l1, l2, l3, l4, l5, l6, l7, l8] st M Q ↔ jx_Ev d 113 75 [some (.ref x), l1, l2, l3, l4, l5, l6, l7, l8] (.ref x :: st) M Q) ∧
  (∀ (d : Nat) (lv : List (Option Value)) (st : List Value) (M : jx_M) (Q : jx_Po), jx_Ev d 113 75 lv (.ref 36 :: st) M Q ↔ jx_Ev d 113 78 lv (.ref 50 :: st) M Q) ∧
  (∀ (d : Nat) (st : List Value) (M : jx_M) (Q : jx_Po) (l0 l1 l2 l3 l4 l5 l6 l8 : Option Value) (x : Int32), jx_Ev d 113 78 [l0, l1, l2, l3, l4, l5, l6, some (.int x), l8] st M Q ↔ jx_Ev d 113 80 [l0, l1, l2, l3, l4, l5, l6, some (.int x), l8] (.int x :: st) M Q) ∧
  (∀ (d : Nat) (st : List Value) (M : jx_M) (Q : jx_Po) (l0 l1 l3 l4 l5 l6 l7 l8 : Option Value) (x : Int32), jx_Ev d 113 80 [l0, l1, some (.int x), l3, l4, l5, l6, l7, l8] st M Q ↔ jx_Ev d 113 81 [l0, l1, some (.int x), l3, l4, l5, l6, l7, l8] (.int x :: st) M Q) ∧
  (∀ (d : Nat) (st : List Value) (M : jx_M) (Q : jx_Po) (l0 l1 l2 l3 l4 l5 l6 l8 : Option Value) (x : Int32), jx_Ev d 113 81 [l0, l1, l2, l3, l4, l5, l6, some (.int x), l8] st M Q ↔ jx_Ev d 113 83 [l0, l1, l2, l3, l4, l5, l6, some (.int x), l8] (.int x :: st) M Q) ∧
  (∀ (d : Nat) (lv : List (Option Value)) (st : List Value) (M : jx_M) (Q : jx_Po) (x z : Int32), jx_Ev d 113 83 lv (.int z :: .int x :: st) M Q ↔ jx_Ev d 113 84 lv (.int (x >>> (z &&& 31)) :: st) M Q) ∧
  (∀ (d : Nat) (lv : List (Option Value)) (st : List Value) (M : jx_M) (Q : jx_Po), jx_Ev d 113 84 lv st M Q ↔ jx_Ev d 113 85 lv (.int 1 :: st) M Q) ∧
  (∀ (d : Nat) (lv : List (Option Value)) (st : List Value) (M : jx_M) (Q : jx_Po) (x z : Int32), jx_Ev d 113 85 lv (.int z :: .int x :: st) M Q ↔ jx_Ev d 113 86 lv (.int (x &&& z) :: st) M Q) ∧
  (∀ (d : Nat) (lv : List (Option Value)) (st : List Value) (M : jx_M) (Q : jx_Po), jx_Ev d 113 86 lv st M Q ↔ jx_Ev d 113 87 lv (.int 1 :: st) M Q) ∧
  (∀ (d : Nat) (lv : List (Option Value)) (st : List Value) (M : jx_M) (Q : jx_Po) (x z : Int32), jx_Ev d 113 87 lv (.int z :: .int x :: st) M Q ↔ (if x = z then jx_Ev d 113 90 lv st M Q else jx_Ev d 113 97 lv st M Q)) ∧
  (∀ (d : Nat) (st : List Value) (M : jx_M) (Q : jx_Po) (l0 l1 l2 l3 l4 l5 l7 l8 : Option Value) (x : Int32), jx_Ev d 113 90 [l0, l1, l2, l3, l4, l5, some (.int x), l7, l8] st M Q ↔ jx_Ev d 113 92 [l0, l1, l2, l3, l4, l5, some (.int x), l7, l8] (.int x :: st) M Q) ∧
  (∀ (d : Nat) (lv : List (Option Value)) (st : List Value) (M : jx_M) (Q : jx_Po), jx_Ev d 113 92 lv st M Q ↔ jx_Ev d 113 93 lv (.int 4 :: st) M Q) ∧
  (∀ (d : Nat) (lv : List (Option Value)) (st : List Value) (M : jx_M) (Q : jx_Po) (x z : Int32), jx_Ev d 113 93 lv (.int z :: .int x :: st) M Q ↔ (¬ z = 0 ∧ jx_Ev d 113 94 lv (.int (x - x / z * z) :: st) M Q)) ∧
  (∀ (d : Nat) (lv : List (Option Value)) (st : List Value) (M : jx_M) (Q : jx_Po), jx_Ev d 113 94 lv st M Q ↔ jx_Ev d 113 99 lv st M Q) ∧
  (∀ (d : Nat) (lv : List (Option Value)) (st : List Value) (M : jx_M) (Q : jx_Po), jx_Ev d 113 97 lv st M Q ↔ jx_Ev d 113 99 lv (.int (-9) :: st) M Q) ∧
  (∀ (d : Nat) (lv : List (Option Value)) (st : List Value) (M : jx_M) (Q : jx_Po) (x z : Int32) (a : Nat) (ha : jx_cl a = 9), jx_Ev d 113 99 lv (.int z :: .int x :: .ref a :: st) M Q ↔ (vp_in x (jx_sz a) ∧ jx_Ev d 113 100 lv st (jx_up M a x.toNatClampNeg z) Q)) ∧
  (∀ (d : Nat) (st : List Value) (M : jx_M) (Q : jx_Po) (l0 l1 l3 l4 l5 l6 l7 l8 : Option Value) (x : Int32), jx_Ev d 113 100 [l0, l1, some (.int x), l3, l4, l5, l6, l7, l8] st M Q ↔ jx_Ev d 113 101 [l0, l1, some (.int x), l3, l4, l5, l6, l7, l8] (.int x :: st) M Q) ∧
  (∀ (d : Nat) (st : List Value) (M : jx_M) (Q : jx_Po) (l0 l1 l2 l3 l4 l5 l6 l8 : Option Value) (x : Int32), jx_Ev d 113 101 [l0, l1, l2, l3, l4, l5, l6, some (.int x), l8] st M Q ↔ jx_Ev d 113 103 [l0, l1, l2, l3, l4, l5, l6, some (.int x), l8] (.int x :: st) M Q) ∧
  (∀ (d : Nat) (lv : List (Option Value)) (st : List Value) (M : jx_M) (Q : jx_Po) (x z : Int32), jx_Ev d 113 103 lv (.int z :: .int x :: st) M Q ↔ jx_Ev d 113 104 lv (.int (x >>> (z &&& 31)) :: st) M Q) ∧
  (∀ (d : Nat) (lv : List (Option Value)) (st : List Value) (M : jx_M) (Q : jx_Po), jx_Ev d 113 104 lv st M Q ↔ jx_Ev d 113 105 lv (.int 1 :: st) M Q) ∧
  (∀ (d : Nat) (lv : List (Option Value)) (st : List Value) (M : jx_M) (Q : jx_Po) (x z : Int32), jx_Ev d 113 105 lv (.int z :: .int x :: st) M Q ↔ jx_Ev d 113 106 lv (.int (x &&& z) :: st) M Q) ∧
  (∀ (d : Nat) (lv : List (Option Value)) (st : List Value) (M : jx_M) (Q : jx_Po), jx_Ev d 113 106 lv st M Q ↔ jx_Ev d 113 107 lv (.int 1 :: st) M Q) ∧
  (∀ (d : Nat) (lv : List (Option Value)) (st : List Value) (M : jx_M) (Q : jx_Po) (x z : Int32), jx_Ev d 113 107 lv (.int z :: .int x :: st) M Q ↔ (if x = z then jx_Ev d 113 110 lv st M Q else jx_Ev d 113 117 lv st M Q)) ∧
  (∀ (d : Nat) (st : List Value) (M : jx_M) (Q : jx_Po) (l0 l1 l2 l3 l4 l5 l7 l8 : Option Value) (x : Int32), jx_Ev d 113 110 [l0, l1, l2, l3, l4, l5, some (.int x), l7, l8] st M Q ↔ jx_Ev d 113 112 [l0, l1, l2, l3, l4, l5, some (.int x), l7, l8] (.int x :: st) M Q) ∧
  (∀ (d : Nat) (lv : List (Option Value)) (st : List Value) (M : jx_M) (Q : jx_Po), jx_Ev d 113 112 lv st M Q ↔ jx_Ev d 113 113 lv (.int 4 :: st) M Q) ∧
  (∀ (d : Nat) (lv : List (Option Value)) (st : List Value) (M : jx_M) (Q : jx_Po) (x z : Int32), jx_Ev d 113 113 lv (.int z :: .int x :: st) M Q ↔ (¬ z = 0 ∧ jx_Ev d 113 114 lv (.int (x / z) :: st) M Q)) ∧
  (∀ (d : Nat) (lv : List (Option Value)) (st : List Value) (M : jx_M) (Q : jx_Po), jx_Ev d 113 114 lv st M Q ↔ jx_Ev d 113 119 lv st M Q) ∧
  (∀ (d : Nat) (st : List Value) (M : jx_M) (Q : jx_Po) (l0 l1 l2 l3 l4 l5 l7 l8 : Option Value) (x : Int32), jx_Ev d 113 117 [l0, l1, l2, l3, l4, l5, some (.int x), l7, l8] st M Q ↔ jx_Ev d 113 119 [l0, l1, l2, l3, l4, l5, some (.int x), l7, l8] (.int x :: st) M Q) ∧
  (∀ (d : Nat) (st : List Value) (M : jx_M) (Q : jx_Po) (l0 l1 l2 l3 l4 l5 l6 l7 l8 : Option Value) (x : Int32), jx_Ev d 113 119 [l0, l1, l2, l3, l4, l5, l6, l7, l8] (.int x :: st) M Q ↔ jx_Ev d 113 121 [l0, l1, l2, l3, l4, l5, some (.int x), l7, l8] st M Q) ∧
  (∀ (d : Nat) (st : List Value) (M : jx_M) (Q : jx_Po) (l0 l1 l2 l3 l4 l5 l6 l8 : Option Value) (x : Int32), jx_Ev d 113 121 [l0, l1, l2, l3, l4, l5, l6, some (.int x), l8] st M Q ↔ jx_Ev d 113 124 [l0, l1, l2, l3, l4, l5, l6, some (.int (x + (-1))), l8] st M Q) ∧
  (∀ (d : Nat) (lv : List (Option Value)) (st : List Value) (M : jx_M) (Q : jx_Po), jx_Ev d 113 124 lv st M Q ↔ jx_Ev d 113 69 lv st M Q) ∧
  (∀ (d : Nat) (st : List Value) (M : jx_M) (Q : jx_Po) (l1 l2 l3 l4 l5 l6 l7 l8 : Option Value) (x : Nat), jx_Ev d 113 127 [some (.ref x), l1, l2, l3, l4, l5, l6, l7, l8] st M Q ↔ jx_Ev d 113 128 [some (.ref x), l1, l2, l3, l4, l5, l6, l7, l8] (.ref x :: st) M Q) ∧
  (∀ (d : Nat) (st : List Value) (M : jx_M) (Q : jx_Po) (l0 l2 l3 l4 l5 l6 l7 l8 : Option Value) (x : Int32), jx_Ev d 113 128 [l0, some (.int x), l2, l3, l4, l5, l6, l7, l8] st M Q ↔ jx_Ev d 113 129 [l0, some (.int x), l2, l3, l4, l5, l6, l7, l8] (.int x :: st) M Q) ∧
  (∀ (d : Nat) (lv : List (Option Value)) (M : jx_M) (Q : jx_Po) (a0 : Int32), jx_Ev (d + 1) 113 129 lv [.int a0, .ref 36] M Q ↔ jx_I d 110 [.ref 36, .int a0] M (fun x M => jx_Ev (d + 1) 113 132 lv (.int x :: []) M Q)) ∧
  (∀ (d : Nat) (st : List Value) (M : jx_M) (Q : jx_Po) (l0 l1 l2 l3 l4 l5 l6 l7 l8 : Option Value) (x : Int32), jx_Ev d 113 132 [l0, l1, l2, l3, l4, l5, l6, l7, l8] (.int x :: st) M Q ↔ jx_Ev d 113 134 [l0, l1, l2, l3, l4, l5, l6, some (.int x), l8] st M Q) ∧
  (∀ (d : Nat) (st : List Value) (M : jx_M) (Q : jx_Po) (l0 l1 l2 l3 l5 l6 l7 l8 : Option Value) (x : Int32), jx_Ev d 113 134 [l0, l1, l2, l3, some (.int x), l5, l6, l7, l8] st M Q ↔ jx_Ev d 113 136 [l0, l1, l2, l3, some (.int x), l5, l6, l7, l8] (.int x :: st) M Q) ∧
  (∀ (d : Nat) (lv : List (Option Value)) (st : List Value) (M : jx_M) (Q : jx_Po), jx_Ev d 113 136 lv st M Q ↔ jx_Ev d 113 138 lv (.int (-9) :: st) M Q) ∧
  (∀ (d : Nat) (lv : List (Option Value)) (st : List Value) (M : jx_M) (Q : jx_Po) (x z : Int32), jx_Ev d 113 138 lv (.int z :: .int x :: st) M Q ↔ (if x = z then jx_Ev d 113 148 lv st M Q else jx_Ev d 113 141 lv st M Q)) ∧
  (∀ (d : Nat) (st : List Value) (M : jx_M) (Q : jx_Po) (l0 l1 l2 l3 l4 l5 l6 l8 : Option Value) (x : Int32), jx_Ev d 113 141 [l0, l1, l2, l3, l4, l5, l6, some (.int x), l8] st M Q ↔ jx_Ev d 113 143 [l0, l1, l2, l3, l4, l5, l6, some (.int x), l8] (.int x :: st) M Q) ∧
  (∀ (d : Nat) (st : List Value) (M : jx_M) (Q : jx_Po) (l0 l1 l2 l3 l5 l6 l7 l8 : Option Value) (x : Int32), jx_Ev d 113 143 [l0, l1, l2, l3, some (.int x), l5, l6, l7, l8] st M Q ↔ jx_Ev d 113 145 [l0, l1, l2, l3, some (.int x), l5, l6, l7, l8] (.int x :: st) M Q) ∧
  (∀ (d : Nat) (lv : List (Option Value)) (st : List Value) (M : jx_M) (Q : jx_Po) (x z : Int32), jx_Ev d 113 145 lv (.int z :: .int x :: st) M Q ↔ (if z ≤ x then jx_Ev d 113 184 lv st M Q else jx_Ev d 113 148 lv st M Q)) ∧
  (∀ (d : Nat) (st : List Value) (M : jx_M) (Q : jx_Po) (l0 l1 l2 l3 l4 l5 l6 l8 : Option Value) (x : Int32), jx_Ev d 113 148 [l0, l1, l2, l3, l4, l5, l6, some (.int x), l8] st M Q ↔ jx_Ev d 113 150 [l0, l1, l2, l3, l4, l5, l6, some (.int x), l8] (.int x :: st) M Q) ∧
  (∀ (d : Nat) (st : List Value) (M : jx_M) (Q : jx_Po) (l0 l1 l2 l3 l4 l5 l6 l7 l8 : Option Value) (x : Int32), jx_Ev d 113 150 [l0, l1, l2, l3, l4, l5, l6, l7, l8] (.int x :: st) M Q ↔ jx_Ev d 113 152 [l0, l1, l2, l3, some (.int x), l5, l6, l7, l8] st M Q) ∧
  (∀ (d : Nat) (lv : List (Option Value)) (st : List Value) (M : jx_M) (Q : jx_Po), jx_Ev d 113 152 lv st M Q ↔ jx_Ev d 113 153 lv (.int 0 :: st) M Q) ∧
  (∀ (d : Nat) (st : List Value) (M : jx_M) (Q : jx_Po) (l0 l1 l2 l3 l4 l5 l6 l7 l8 : Option Value) (x : Int32), jx_Ev d 113 153 [l0, l1, l2, l3, l4, l5, l6, l7, l8] (.int x :: st) M Q ↔ jx_Ev d 113 155 [l0, l1, l2, l3, l4, l5, l6, l7, some (.int x)] st M Q) ∧
  (∀ (d : Nat) (st : List Value) (M : jx_M) (Q : jx_Po) (l1 l2 l3 l4 l5 l6 l7 l8 : Option Value) (x : Nat), jx_Ev d 113 157 [some (.ref x), l1, l2, l3, l4, l5, l6, l7, l8] st M Q ↔ jx_Ev d 113 158 [some (.ref x), l1, l2, l3, l4, l5, l6, l7, l8] (.ref x :: st) M Q) ∧
  (∀ (d : Nat) (lv : List (Option Value)) (st : List Value) (M : jx_M) (Q : jx_Po), jx_Ev d 113 158 lv (.ref 36 :: st) M Q ↔ jx_Ev d 113 161 lv (.int (M 36 6) :: st) M Q) ∧
  (∀ (d : Nat) (lv : List (Option Value)) (st : List Value) (M : jx_M) (Q : jx_Po) (x z : Int32), jx_Ev d 113 161 lv (.int z :: .int x :: st) M Q ↔ (if z ≤ x then jx_Ev d 113 184 lv st M Q else jx_Ev d 113 164 lv st M Q)) ∧
  (∀ (d : Nat) (st : List Value) (M : jx_M) (Q : jx_Po) (l1 l2 l3 l4 l5 l6 l7 l8 : Option Value) (x : Nat), jx_Ev d 113 164 [some (.ref x), l1, l2, l3, l4, l5, l6, l7, l8] st M Q ↔ jx_Ev d 113 165 [some (.ref x), l1, l2, l3, l4, l5, l6, l7, l8] (.ref x :: st) M Q) ∧
  (∀ (d : Nat) (lv : List (Option Value)) (st : List Value) (M : jx_M) (Q : jx_Po), jx_Ev d 113 165 lv (.ref 36 :: st) M Q ↔ jx_Ev d 113 168 lv (.ref 51 :: st) M Q) ∧
  (∀ (d : Nat) (st : List Value) (M : jx_M) (Q : jx_Po) (l0 l1 l2 l3 l4 l5 l6 l7 : Option Value) (x : Int32), jx_Ev d 113 168 [l0, l1, l2, l3, l4, l5, l6, l7, some (.int x)] st M Q ↔ jx_Ev d 113 170 [l0, l1, l2, l3, l4, l5, l6, l7, some (.int x)] (.int x :: st) M Q) ∧
  (∀ (d : Nat) (st : List Value) (M : jx_M) (Q : jx_Po) (l1 l2 l3 l4 l5 l6 l7 l8 : Option Value) (x : Nat), jx_Ev d 113 170 [some (.ref x), l1, l2, l3, l4, l5, l6, l7, l8] st M Q ↔ jx_Ev d 113 171 [some (.ref x), l1, l2, l3, l4, l5, l6, l7, l8] (.ref x :: st) M Q) ∧
  (∀ (d : Nat) (lv : List (Option Value)) (st : List Value) (M : jx_M) (Q : jx_Po), jx_Ev d 113 171 lv (.ref 36 :: st) M Q ↔ jx_Ev d 113 174 lv (.ref 50 :: st) M Q) ∧
  (∀ (d : Nat) (st : List Value) (M : jx_M) (Q : jx_Po) (l0 l1 l2 l3 l4 l5 l6 l7 : Option Value) (x : Int32), jx_Ev d 113 174 [l0, l1, l2, l3, l4, l5, l6, l7, some (.int x)] st M Q ↔ jx_Ev d 113 176 [l0, l1, l2, l3, l4, l5, l6, l7, some (.int x)] (.int x :: st) M Q) ∧
  (∀ (d : Nat) (lv : List (Option Value)) (st : List Value) (M : jx_M) (Q : jx_Po) (x : Int32) (a : Nat) (ha : jx_cl a = 9), jx_Ev d 113 176 lv (.int x :: .ref a :: st) M Q ↔ (vp_in x (jx_sz a) ∧ jx_Ev d 113 177 lv (.int (M a x.toNatClampNeg) :: st) M Q)) ∧
  (∀ (d : Nat) (lv : List (Option Value)) (st : List Value) (M : jx_M) (Q : jx_Po) (x z : Int32) (a : Nat) (ha : jx_cl a = 9), jx_Ev d 113 177 lv (.int z :: .int x :: .ref a :: st) M Q ↔ (vp_in x (jx_sz a) ∧ jx_Ev d 113 178 lv st (jx_up M a x.toNatClampNeg z) Q)) ∧
  (∀ (d : Nat) (st : List Value) (M : jx_M) (Q : jx_Po) (l0 l1 l2 l3 l4 l5 l6 l7 : Option Value) (x : Int32), jx_Ev d 113 178 [l0, l1, l2, l3, l4, l5, l6, l7, some (.int x)] st M Q ↔ jx_Ev d 113 181 [l0, l1, l2, l3, l4, l5, l6, l7, some (.int (x + 1))] st M Q) ∧
  (∀ (d : Nat) (lv : List (Option Value)) (st : List Value) (M : jx_M) (Q : jx_Po), jx_Ev d 113 181 lv st M Q ↔ jx_Ev d 113 155 lv st M Q) ∧
  (∀ (d : Nat) (st : List Value) (M : jx_M) (Q : jx_Po) (l0 l1 l2 l3 l4 l6 l7 l8 : Option Value) (x : Int32), jx_Ev d 113 184 [l0, l1, l2, l3, l4, some (.int x), l6, l7, l8] st M Q ↔ jx_Ev d 113 187 [l0, l1, l2, l3, l4, some (.int (x + 1)), l6, l7, l8] st M Q) ∧
  (∀ (d : Nat) (lv : List (Option Value)) (st : List Value) (M : jx_M) (Q : jx_Po), jx_Ev d 113 187 lv st M Q ↔ jx_Ev d 113 51 lv st M Q) ∧
  (∀ (d : Nat) (st : List Value) (M : jx_M) (Q : jx_Po) (l0 l1 l2 l3 l5 l6 l7 l8 : Option Value) (x : Int32), jx_Ev d 113 190 [l0, l1, l2, l3, some (.int x), l5, l6, l7, l8] st M Q ↔ jx_Ev d 113 192 [l0, l1, l2, l3, some (.int x), l5, l6, l7, l8] (.int x :: st) M Q) ∧
  (∀ (d : Nat) (lv : List (Option Value)) (M : jx_M) (Q : jx_Po) (x : Int32), jx_Ev d 113 192 lv [.int x] M Q ↔ Q [.int x] M) := by
  refine ⟨?_, ?_, ?_, ?_, ?_, ?_, ?_, ?_, ?_, ?_, ?_, ?_, ?_, ?_, ?_, ?_, ?_, ?_, ?_, ?_, ?_, ?_, ?_, ?_, ?_, ?_, ?_, ?_, ?_, ?_, ?_, ?_, ?_, ?_, ?_, ?_, ?_, ?_, ?_, ?_, ?_, ?_, ?_, ?_, ?_, ?_, ?_, ?_, ?_, ?_, ?_, ?_, ?_, ?_, ?_, ?_, ?_, ?_, ?_, ?_, ?_, ?_, ?_, ?_, ?_, ?_, ?_, ?_, ?_, ?_, ?_, ?_, ?_, ?_, ?_, ?_, ?_, ?_, ?_, ?_, ?_, ?_, ?_, ?_, ?_, ?_, ?_, ?_, ?_, ?_, ?_, ?_, ?_, ?_, ?_, ?_, ?_, ?_, ?_, ?_, ?_, ?_⟩
  · exact fun d st M Q l1 l2 l3 l4 l5 l6 l7 l8 x => jx_ev_st (jx_fok (by decide +kernel : decode (jx_mb 113) 0 = .ok (.aload_n 0, 1))) rfl rfl rfl
  · exact fun d st M Q l0 l2 l3 l4 l5 l6 l7 l8 x => jx_ev_st (jx_fok (by decide +kernel : decode (jx_mb 113) 1 = .ok (.iload_n 1, 1))) rfl rfl rfl
  · exact fun d lv M Q a0 => jx_ev_ci (jx_fok (by decide +kernel : decode (jx_mb 113) 2 = .ok (.invokevirtual 145, 3))) rfl (jx_ccV (As := [.int a0]) (rest := []) rfl rfl rfl rfl rfl rfl) (by decide)
  · exact fun d st M Q l0 l1 l2 l3 l4 l5 l6 l7 l8 x => jx_ev_st (jx_fok (by decide +kernel : decode (jx_mb 113) 5 = .ok (.istore_n 2, 1))) rfl rfl rfl
  · exact fun d lv st M Q => jx_ev_st (jx_fok (by decide +kernel : decode (jx_mb 113) 6 = .ok (.iconst 1, 1))) rfl rfl rfl
  · exact fun d st M Q l0 l1 l2 l3 l4 l5 l6 l7 l8 x => jx_ev_st (jx_fok (by decide +kernel : decode (jx_mb 113) 7 = .ok (.istore_n 3, 1))) rfl rfl rfl
  · exact fun d lv st M Q => jx_ev_st (jx_fok (by decide +kernel : decode (jx_mb 113) 8 = .ok (.iconst 0, 1))) rfl rfl rfl
  · exact fun d st M Q l0 l1 l2 l3 l4 l5 l6 l7 l8 x => jx_ev_st (jx_fok (by decide +kernel : decode (jx_mb 113) 9 = .ok (.istore 4, 2))) rfl rfl rfl
  · exact fun d st M Q l1 l2 l3 l4 l5 l6 l7 l8 x => jx_ev_st (jx_fok (by decide +kernel : decode (jx_mb 113) 13 = .ok (.aload_n 0, 1))) rfl rfl rfl
  · exact fun d lv st M Q => jx_k_gf (jx_fok (by decide +kernel : decode (jx_mb 113) 14 = .ok (.getfield 80, 3))) rfl rfl rfl
  · exact fun d lv st M Q x z => jx_k_b2 (jx_fok (by decide +kernel : decode (jx_mb 113) 17 = .ok (.if_icmp .ge 27, 3))) rfl jx_hGe
  · exact fun d st M Q l0 l1 l2 l4 l5 l6 l7 l8 x => jx_ev_st (jx_fok (by decide +kernel : decode (jx_mb 113) 20 = .ok (.iload_n 3, 1))) rfl rfl rfl
  · exact fun d st M Q l0 l1 l3 l4 l5 l6 l7 l8 x => jx_ev_st (jx_fok (by decide +kernel : decode (jx_mb 113) 21 = .ok (.iload_n 2, 1))) rfl rfl rfl
  · exact fun d st M Q l0 l1 l2 l3 l5 l6 l7 l8 x => jx_ev_st (jx_fok (by decide +kernel : decode (jx_mb 113) 22 = .ok (.iload 4, 2))) rfl rfl rfl
  · exact fun d lv st M Q x z => jx_ev_st (jx_fok (by decide +kernel : decode (jx_mb 113) 24 = .ok (.ishr, 1))) rfl rfl rfl
  · exact fun d lv st M Q => jx_ev_st (jx_fok (by decide +kernel : decode (jx_mb 113) 25 = .ok (.iconst 1, 1))) rfl rfl rfl
  · exact fun d lv st M Q x z => jx_ev_st (jx_fok (by decide +kernel : decode (jx_mb 113) 26 = .ok (.iand, 1))) rfl rfl rfl
  · exact fun d lv st M Q => jx_ev_st (jx_fok (by decide +kernel : decode (jx_mb 113) 27 = .ok (.iconst 1, 1))) rfl rfl rfl
  · exact fun d lv st M Q x z => jx_k_b2n (jx_fok (by decide +kernel : decode (jx_mb 113) 28 = .ok (.if_icmp .ne 7, 3))) rfl jx_hNe
  · exact fun d lv st M Q => jx_ev_st (jx_fok (by decide +kernel : decode (jx_mb 113) 31 = .ok (.iconst 4, 1))) rfl rfl rfl
  · exact fun d lv st M Q => jx_k_goto (jx_fok (by decide +kernel : decode (jx_mb 113) 32 = .ok (.goto 4, 3))) rfl
  · exact fun d lv st M Q => jx_ev_st (jx_fok (by decide +kernel : decode (jx_mb 113) 35 = .ok (.iconst 1, 1))) rfl rfl rfl
  · exact fun d lv st M Q x z => jx_ev_st (jx_fok (by decide +kernel : decode (jx_mb 113) 36 = .ok (.imul, 1))) rfl rfl rfl
  · exact fun d st M Q l0 l1 l2 l3 l4 l5 l6 l7 l8 x => jx_ev_st (jx_fok (by decide +kernel : decode (jx_mb 113) 37 = .ok (.istore_n 3, 1))) rfl rfl rfl
  · exact fun d st M Q l0 l1 l2 l3 l5 l6 l7 l8 x => jx_ev_st (jx_fok (by decide +kernel : decode (jx_mb 113) 38 = .ok (.iinc 4 1, 3))) rfl rfl rfl
  · exact fun d lv st M Q => jx_k_goto (jx_fok (by decide +kernel : decode (jx_mb 113) 41 = .ok (.goto (-30), 3))) rfl
  · exact fun d lv st M Q => jx_ev_st (jx_fok (by decide +kernel : decode (jx_mb 113) 44 = .ok (.bipush (-9), 2))) rfl rfl rfl
  · exact fun d st M Q l0 l1 l2 l3 l4 l5 l6 l7 l8 x => jx_ev_st (jx_fok (by decide +kernel : decode (jx_mb 113) 46 = .ok (.istore 4, 2))) rfl rfl rfl
  · exact fun d lv st M Q => jx_ev_st (jx_fok (by decide +kernel : decode (jx_mb 113) 48 = .ok (.iconst 0, 1))) rfl rfl rfl
  · exact fun d st M Q l0 l1 l2 l3 l4 l5 l6 l7 l8 x => jx_ev_st (jx_fok (by decide +kernel : decode (jx_mb 113) 49 = .ok (.istore 5, 2))) rfl rfl rfl
  · exact fun d st M Q l0 l1 l2 l4 l5 l6 l7 l8 x => jx_ev_st (jx_fok (by decide +kernel : decode (jx_mb 113) 53 = .ok (.iload_n 3, 1))) rfl rfl rfl
  · exact fun d lv st M Q x z => jx_k_b2 (jx_fok (by decide +kernel : decode (jx_mb 113) 54 = .ok (.if_icmp .ge 136, 3))) rfl jx_hGe
  · exact fun d st M Q l0 l1 l2 l3 l4 l6 l7 l8 x => jx_ev_st (jx_fok (by decide +kernel : decode (jx_mb 113) 57 = .ok (.iload 5, 2))) rfl rfl rfl
  · exact fun d st M Q l0 l1 l2 l3 l4 l5 l6 l7 l8 x => jx_ev_st (jx_fok (by decide +kernel : decode (jx_mb 113) 59 = .ok (.istore 6, 2))) rfl rfl rfl
  · exact fun d st M Q l1 l2 l3 l4 l5 l6 l7 l8 x => jx_ev_st (jx_fok (by decide +kernel : decode (jx_mb 113) 61 = .ok (.aload_n 0, 1))) rfl rfl rfl
  · exact fun d lv st M Q => jx_k_gf (jx_fok (by decide +kernel : decode (jx_mb 113) 62 = .ok (.getfield 80, 3))) rfl rfl rfl
  · exact fun d lv st M Q => jx_ev_st (jx_fok (by decide +kernel : decode (jx_mb 113) 65 = .ok (.iconst 1, 1))) rfl rfl rfl
  · exact fun d lv st M Q x z => jx_ev_st (jx_fok (by decide +kernel : decode (jx_mb 113) 66 = .ok (.isub, 1))) rfl rfl rfl
  · exact fun d st M Q l0 l1 l2 l3 l4 l5 l6 l7 l8 x => jx_ev_st (jx_fok (by decide +kernel : decode (jx_mb 113) 67 = .ok (.istore 7, 2))) rfl rfl rfl
  · exact fun d lv st M Q x => jx_k_b1 (jx_fok (by decide +kernel : decode (jx_mb 113) 71 = .ok (.ifCond .lt 56, 3))) rfl jx_hLt
  · exact fun d st M Q l1 l2 l3 l4 l5 l6 l7 l8 x => jx_ev_st (jx_fok (by decide +kernel : decode (jx_mb 113) 74 = .ok (.aload_n 0, 1))) rfl rfl rfl
  · exact fun d lv st M Q => jx_k_gf (jx_fok (by decide +kernel : decode (jx_mb 113) 75 = .ok (.getfield 49, 3))) rfl rfl rfl
  · exact fun d st M Q l0 l1 l2 l3 l4 l5 l6 l8 x => jx_ev_st (jx_fok (by decide +kernel : decode (jx_mb 113) 78 = .ok (.iload 7, 2))) rfl rfl rfl
  · exact fun d st M Q l0 l1 l3 l4 l5 l6 l7 l8 x => jx_ev_st (jx_fok (by decide +kernel : decode (jx_mb 113) 80 = .ok (.iload_n 2, 1))) rfl rfl rfl
  · exact fun d st M Q l0 l1 l2 l3 l4 l5 l6 l8 x => jx_ev_st (jx_fok (by decide +kernel : decode (jx_mb 113) 81 = .ok (.iload 7, 2))) rfl rfl rfl
  · exact fun d lv st M Q x z => jx_ev_st (jx_fok (by decide +kernel : decode (jx_mb 113) 83 = .ok (.ishr, 1))) rfl rfl rfl
  · exact fun d lv st M Q => jx_ev_st (jx_fok (by decide +kernel : decode (jx_mb 113) 84 = .ok (.iconst 1, 1))) rfl rfl rfl
  · exact fun d lv st M Q x z => jx_ev_st (jx_fok (by decide +kernel : decode (jx_mb 113) 85 = .ok (.iand, 1))) rfl rfl rfl
  · exact fun d lv st M Q => jx_ev_st (jx_fok (by decide +kernel : decode (jx_mb 113) 86 = .ok (.iconst 1, 1))) rfl rfl rfl
  · exact fun d lv st M Q x z => jx_k_b2n (jx_fok (by decide +kernel : decode (jx_mb 113) 87 = .ok (.if_icmp .ne 10, 3))) rfl jx_hNe
  · exact fun d st M Q l0 l1 l2 l3 l4 l5 l7 l8 x => jx_ev_st (jx_fok (by decide +kernel : decode (jx_mb 113) 90 = .ok (.iload 6, 2))) rfl rfl rfl
  · exact fun d lv st M Q => jx_ev_st (jx_fok (by decide +kernel : decode (jx_mb 113) 92 = .ok (.iconst 4, 1))) rfl rfl rfl
  · exact fun d lv st M Q x z => jx_k_irem (jx_fok (by decide +kernel : decode (jx_mb 113) 93 = .ok (.irem, 1)))
  · exact fun d lv st M Q => jx_k_goto (jx_fok (by decide +kernel : decode (jx_mb 113) 94 = .ok (.goto 5, 3))) rfl
  · exact fun d lv st M Q => jx_ev_st (jx_fok (by decide +kernel : decode (jx_mb 113) 97 = .ok (.bipush (-9), 2))) rfl rfl rfl
  · exact fun d lv st M Q x z a ha => jx_k_as (jx_fok (by decide +kernel : decode (jx_mb 113) 99 = .ok (.iastore, 1))) ha
  · exact fun d st M Q l0 l1 l3 l4 l5 l6 l7 l8 x => jx_ev_st (jx_fok (by decide +kernel : decode (jx_mb 113) 100 = .ok (.iload_n 2, 1))) rfl rfl rfl
  · exact fun d st M Q l0 l1 l2 l3 l4 l5 l6 l8 x => jx_ev_st (jx_fok (by decide +kernel : decode (jx_mb 113) 101 = .ok (.iload 7, 2))) rfl rfl rfl
  · exact fun d lv st M Q x z => jx_ev_st (jx_fok (by decide +kernel : decode (jx_mb 113) 103 = .ok (.ishr, 1))) rfl rfl rfl
  · exact fun d lv st M Q => jx_ev_st (jx_fok (by decide +kernel : decode (jx_mb 113) 104 = .ok (.iconst 1, 1))) rfl rfl rfl
  · exact fun d lv st M Q x z => jx_ev_st (jx_fok (by decide +kernel : decode (jx_mb 113) 105 = .ok (.iand, 1))) rfl rfl rfl
  · exact fun d lv st M Q => jx_ev_st (jx_fok (by decide +kernel : decode (jx_mb 113) 106 = .ok (.iconst 1, 1))) rfl rfl rfl
  · exact fun d lv st M Q x z => jx_k_b2n (jx_fok (by decide +kernel : decode (jx_mb 113) 107 = .ok (.if_icmp .ne 10, 3))) rfl jx_hNe
  · exact fun d st M Q l0 l1 l2 l3 l4 l5 l7 l8 x => jx_ev_st (jx_fok (by decide +kernel : decode (jx_mb 113) 110 = .ok (.iload 6, 2))) rfl rfl rfl
  · exact fun d lv st M Q => jx_ev_st (jx_fok (by decide +kernel : decode (jx_mb 113) 112 = .ok (.iconst 4, 1))) rfl rfl rfl
  · exact fun d lv st M Q x z => jx_k_idiv (jx_fok (by decide +kernel : decode (jx_mb 113) 113 = .ok (.idiv, 1)))
  · exact fun d lv st M Q => jx_k_goto (jx_fok (by decide +kernel : decode (jx_mb 113) 114 = .ok (.goto 5, 3))) rfl
  · exact fun d st M Q l0 l1 l2 l3 l4 l5 l7 l8 x => jx_ev_st (jx_fok (by decide +kernel : decode (jx_mb 113) 117 = .ok (.iload 6, 2))) rfl rfl rfl
  · exact fun d st M Q l0 l1 l2 l3 l4 l5 l6 l7 l8 x => jx_ev_st (jx_fok (by decide +kernel : decode (jx_mb 113) 119 = .ok (.istore 6, 2))) rfl rfl rfl
  · exact fun d st M Q l0 l1 l2 l3 l4 l5 l6 l8 x => jx_ev_st (jx_fok (by decide +kernel : decode (jx_mb 113) 121 = .ok (.iinc 7 (-1), 3))) rfl rfl rfl
  · exact fun d lv st M Q => jx_k_goto (jx_fok (by decide +kernel : decode (jx_mb 113) 124 = .ok (.goto (-55), 3))) rfl
  · exact fun d st M Q l1 l2 l3 l4 l5 l6 l7 l8 x => jx_ev_st (jx_fok (by decide +kernel : decode (jx_mb 113) 127 = .ok (.aload_n 0, 1))) rfl rfl rfl
  · exact fun d st M Q l0 l2 l3 l4 l5 l6 l7 l8 x => jx_ev_st (jx_fok (by decide +kernel : decode (jx_mb 113) 128 = .ok (.iload_n 1, 1))) rfl rfl rfl
  · exact fun d lv M Q a0 => jx_ev_ci (jx_fok (by decide +kernel : decode (jx_mb 113) 129 = .ok (.invokevirtual 164, 3))) rfl (jx_ccV (As := [.int a0]) (rest := []) rfl rfl rfl rfl rfl rfl) (by decide)
  · exact fun d st M Q l0 l1 l2 l3 l4 l5 l6 l7 l8 x => jx_ev_st (jx_fok (by decide +kernel : decode (jx_mb 113) 132 = .ok (.istore 7, 2))) rfl rfl rfl
  · exact fun d st M Q l0 l1 l2 l3 l5 l6 l7 l8 x => jx_ev_st (jx_fok (by decide +kernel : decode (jx_mb 113) 134 = .ok (.iload 4, 2))) rfl rfl rfl
  · exact fun d lv st M Q => jx_ev_st (jx_fok (by decide +kernel : decode (jx_mb 113) 136 = .ok (.bipush (-9), 2))) rfl rfl rfl
  · exact fun d lv st M Q x z => jx_k_b2 (jx_fok (by decide +kernel : decode (jx_mb 113) 138 = .ok (.if_icmp .eq 10, 3))) rfl jx_hEq
  · exact fun d st M Q l0 l1 l2 l3 l4 l5 l6 l8 x => jx_ev_st (jx_fok (by decide +kernel : decode (jx_mb 113) 141 = .ok (.iload 7, 2))) rfl rfl rfl
  · exact fun d st M Q l0 l1 l2 l3 l5 l6 l7 l8 x => jx_ev_st (jx_fok (by decide +kernel : decode (jx_mb 113) 143 = .ok (.iload 4, 2))) rfl rfl rfl
  · exact fun d lv st M Q x z => jx_k_b2 (jx_fok (by decide +kernel : decode (jx_mb 113) 145 = .ok (.if_icmp .ge 39, 3))) rfl jx_hGe
  · exact fun d st M Q l0 l1 l2 l3 l4 l5 l6 l8 x => jx_ev_st (jx_fok (by decide +kernel : decode (jx_mb 113) 148 = .ok (.iload 7, 2))) rfl rfl rfl
  · exact fun d st M Q l0 l1 l2 l3 l4 l5 l6 l7 l8 x => jx_ev_st (jx_fok (by decide +kernel : decode (jx_mb 113) 150 = .ok (.istore 4, 2))) rfl rfl rfl
  · exact fun d lv st M Q => jx_ev_st (jx_fok (by decide +kernel : decode (jx_mb 113) 152 = .ok (.iconst 0, 1))) rfl rfl rfl
  · exact fun d st M Q l0 l1 l2 l3 l4 l5 l6 l7 l8 x => jx_ev_st (jx_fok (by decide +kernel : decode (jx_mb 113) 153 = .ok (.istore 8, 2))) rfl rfl rfl
  · exact fun d st M Q l1 l2 l3 l4 l5 l6 l7 l8 x => jx_ev_st (jx_fok (by decide +kernel : decode (jx_mb 113) 157 = .ok (.aload_n 0, 1))) rfl rfl rfl
  · exact fun d lv st M Q => jx_k_gf (jx_fok (by decide +kernel : decode (jx_mb 113) 158 = .ok (.getfield 80, 3))) rfl rfl rfl
  · exact fun d lv st M Q x z => jx_k_b2 (jx_fok (by decide +kernel : decode (jx_mb 113) 161 = .ok (.if_icmp .ge 23, 3))) rfl jx_hGe
  · exact fun d st M Q l1 l2 l3 l4 l5 l6 l7 l8 x => jx_ev_st (jx_fok (by decide +kernel : decode (jx_mb 113) 164 = .ok (.aload_n 0, 1))) rfl rfl rfl
  · exact fun d lv st M Q => jx_k_gf (jx_fok (by decide +kernel : decode (jx_mb 113) 165 = .ok (.getfield 52, 3))) rfl rfl rfl
  · exact fun d st M Q l0 l1 l2 l3 l4 l5 l6 l7 x => jx_ev_st (jx_fok (by decide +kernel : decode (jx_mb 113) 168 = .ok (.iload 8, 2))) rfl rfl rfl
  · exact fun d st M Q l1 l2 l3 l4 l5 l6 l7 l8 x => jx_ev_st (jx_fok (by decide +kernel : decode (jx_mb 113) 170 = .ok (.aload_n 0, 1))) rfl rfl rfl
  · exact fun d lv st M Q => jx_k_gf (jx_fok (by decide +kernel : decode (jx_mb 113) 171 = .ok (.getfield 49, 3))) rfl rfl rfl
  · exact fun d st M Q l0 l1 l2 l3 l4 l5 l6 l7 x => jx_ev_st (jx_fok (by decide +kernel : decode (jx_mb 113) 174 = .ok (.iload 8, 2))) rfl rfl rfl
  · exact fun d lv st M Q x a ha => jx_k_al (jx_fok (by decide +kernel : decode (jx_mb 113) 176 = .ok (.iaload, 1))) ha
  · exact fun d lv st M Q x z a ha => jx_k_as (jx_fok (by decide +kernel : decode (jx_mb 113) 177 = .ok (.iastore, 1))) ha
  · exact fun d st M Q l0 l1 l2 l3 l4 l5 l6 l7 x => jx_ev_st (jx_fok (by decide +kernel : decode (jx_mb 113) 178 = .ok (.iinc 8 1, 3))) rfl rfl rfl
  · exact fun d lv st M Q => jx_k_goto (jx_fok (by decide +kernel : decode (jx_mb 113) 181 = .ok (.goto (-26), 3))) rfl
  · exact fun d st M Q l0 l1 l2 l3 l4 l6 l7 l8 x => jx_ev_st (jx_fok (by decide +kernel : decode (jx_mb 113) 184 = .ok (.iinc 5 1, 3))) rfl rfl rfl
  · exact fun d lv st M Q => jx_k_goto (jx_fok (by decide +kernel : decode (jx_mb 113) 187 = .ok (.goto (-136), 3))) rfl
  · exact fun d st M Q l0 l1 l2 l3 l5 l6 l7 l8 x => jx_ev_st (jx_fok (by decide +kernel : decode (jx_mb 113) 190 = .ok (.iload 4, 2))) rfl rfl rfl
  · exact fun d lv M Q x => jx_k_ri (jx_fok (by decide +kernel : decode (jx_mb 113) 192 = .ok (.ireturn, 1))) rfl
theorem eX8_findEase_11 (d : Nat) (st : List Value) (M : jx_M) (Q : jx_Po) (l0 l1 l2 l3 l5 l6 l7 l8 : Option Value) (x : Int32) : jx_Ev d 113 11 [l0, l1, l2, l3, some (.int x), l5, l6, l7, l8] st M Q ↔ jx_Ev d 113 13 [l0, l1, l2, l3, some (.int x), l5, l6, l7, l8] (.int x :: st) M Q := jx_ev_st (jx_fok (by decide +kernel : decode (jx_mb 113) 11 = .ok (.iload 4, 2))) rfl rfl rfl
theorem eX8_findEase_51 (d : Nat) (st : List Value) (M : jx_M) (Q : jx_Po) (l0 l1 l2 l3 l4 l6 l7 l8 : Option Value) (x : Int32) : jx_Ev d 113 51 [l0, l1, l2, l3, l4, some (.int x), l6, l7, l8] st M Q ↔ jx_Ev d 113 53 [l0, l1, l2, l3, l4, some (.int x), l6, l7, l8] (.int x :: st) M Q := jx_ev_st (jx_fok (by decide +kernel : decode (jx_mb 113) 51 = .ok (.iload 5, 2))) rfl rfl rfl
theorem eX8_findEase_69 (d : Nat) (st : List Value) (M : jx_M) (Q : jx_Po) (l0 l1 l2 l3 l4 l5 l6 l8 : Option Value) (x : Int32) : jx_Ev d 113 69 [l0, l1, l2, l3, l4, l5, l6, some (.int x), l8] st M Q ↔ jx_Ev d 113 71 [l0, l1, l2, l3, l4, l5, l6, some (.int x), l8] (.int x :: st) M Q := jx_ev_st (jx_fok (by decide +kernel : decode (jx_mb 113) 69 = .ok (.iload 7, 2))) rfl rfl rfl
theorem eX8_findEase_155 (d : Nat) (st : List Value) (M : jx_M) (Q : jx_Po) (l0 l1 l2 l3 l4 l5 l6 l7 : Option Value) (x : Int32) : jx_Ev d 113 155 [l0, l1, l2, l3, l4, l5, l6, l7, some (.int x)] st M Q ↔ jx_Ev d 113 157 [l0, l1, l2, l3, l4, l5, l6, l7, some (.int x)] (.int x :: st) M Q := jx_ev_st (jx_fok (by decide +kernel : decode (jx_mb 113) 155 = .ok (.iload 8, 2))) rfl rfl rfl
theorem kX8_findEase (d : Nat) (M : jx_M) (q : Int32 → jx_M → Prop) (a0 a1 : Value) : jx_I d 113 [a0, a1] M q ↔ jx_Ev d 113 0 [some a0, some a1, none, none, none, none, none, none, none] [] M (jx_qI q) := Iff.rfl
set_option maxRecDepth 100000 in
theorem eX8_ease :
  (∀ (d : Nat) (st : List Value) (M : jx_M) (Q : jx_Po) (l1 l2 l3 : Option Value) (x : Nat), jx_Ev d 114 0 [some (.ref x), l1, l2, l3] st M Q ↔ jx_Ev d 114 1 [some (.ref x), l1, l2, l3] (.ref x :: st) M Q) ∧
  (∀ (d : Nat) (st : List Value) (M : jx_M) (Q : jx_Po) (l0 l2 l3 : Option Value) (x : Int32), jx_Ev d 114 1 [l0, some (.int x), l2, l3] st M Q ↔ jx_Ev d 114 2 [l0, some (.int x), l2, l3] (.int x :: st) M Q) ∧
  (∀ (d : Nat) (lv : List (Option Value)) (M : jx_M) (Q : jx_Po) (a0 : Int32), jx_Ev (d + 1) 114 2 lv [.int a0, .ref 36] M Q ↔ jx_I d 89 [.ref 36, .int a0] M (fun x M => jx_Ev (d + 1) 114 5 lv (.int x :: []) M Q)) ∧
  (∀ (d : Nat) (lv : List (Option Value)) (st : List Value) (M : jx_M) (Q : jx_Po) (x : Int32), jx_Ev d 114 5 lv (.int x :: st) M Q ↔ (if x = 0 then jx_Ev d 114 8 lv st M Q else jx_Ev d 114 10 lv st M Q)) ∧
  (∀ (d : Nat) (lv : List (Option Value)) (st : List Value) (M : jx_M) (Q : jx_Po), jx_Ev d 114 8 lv st M Q ↔ jx_Ev d 114 9 lv (.int (-1) :: st) M Q) ∧
  (∀ (d : Nat) (lv : List (Option Value)) (M : jx_M) (Q : jx_Po) (x : Int32), jx_Ev d 114 9 lv [.int x] M Q ↔ Q [.int x] M) ∧
  (∀ (d : Nat) (st : List Value) (M : jx_M) (Q : jx_Po) (l0 l1 l3 : Option Value) (x : Int32), jx_Ev d 114 10 [l0, l1, some (.int x), l3] st M Q ↔ jx_Ev d 114 11 [l0, l1, some (.int x), l3] (.int x :: st) M Q) ∧
  (∀ (d : Nat) (lv : List (Option Value)) (st : List Value) (M : jx_M) (Q : jx_Po), jx_Ev d 114 11 lv st M Q ↔ jx_Ev d 114 12 lv (.int (-1) :: st) M Q) ∧
  (∀ (d : Nat) (lv : List (Option Value)) (st : List Value) (M : jx_M) (Q : jx_Po), jx_Ev d 114 12 lv st M Q ↔ jx_Ev d 114 13 lv (.int 5 :: st) M Q) ∧
  (∀ (d : Nat) (lv : List (Option Value)) (M : jx_M) (Q : jx_Po) (a0 : Int32) (a1 : Int32) (a2 : Int32), jx_Ev (d + 1) 114 13 lv [.int a0, .int a1, .int a2] M Q ↔ jx_I d 85 [.int a2, .int a1, .int a0] M (fun x M => jx_Ev (d + 1) 114 16 lv (.int x :: []) M Q)) ∧
  (∀ (d : Nat) (lv : List (Option Value)) (st : List Value) (M : jx_M) (Q : jx_Po) (x : Int32), jx_Ev d 114 16 lv (.int x :: st) M Q ↔ (if x = 0 then jx_Ev d 114 19 lv st M Q else jx_Ev d 114 22 lv st M Q)) ∧
  (∀ (d : Nat) (lv : List (Option Value)) (st : List Value) (M : jx_M) (Q : jx_Po), jx_Ev d 114 19 lv st M Q ↔ jx_Ev d 114 21 lv (.int (-2) :: st) M Q) ∧
  (∀ (d : Nat) (lv : List (Option Value)) (M : jx_M) (Q : jx_Po) (x : Int32), jx_Ev d 114 21 lv [.int x] M Q ↔ Q [.int x] M) ∧
  (∀ (d : Nat) (st : List Value) (M : jx_M) (Q : jx_Po) (l1 l2 l3 : Option Value) (x : Nat), jx_Ev d 114 22 [some (.ref x), l1, l2, l3] st M Q ↔ jx_Ev d 114 23 [some (.ref x), l1, l2, l3] (.ref x :: st) M Q) ∧
  (∀ (d : Nat) (st : List Value) (M : jx_M) (Q : jx_Po) (l0 l2 l3 : Option Value) (x : Int32), jx_Ev d 114 23 [l0, some (.int x), l2, l3] st M Q ↔ jx_Ev d 114 24 [l0, some (.int x), l2, l3] (.int x :: st) M Q) ∧
  (∀ (d : Nat) (lv : List (Option Value)) (M : jx_M) (Q : jx_Po) (a0 : Int32), jx_Ev (d + 1) 114 24 lv [.int a0, .ref 36] M Q ↔ jx_I d 113 [.ref 36, .int a0] M (fun x M => jx_Ev (d + 1) 114 27 lv (.int x :: []) M Q)) ∧
  (∀ (d : Nat) (st : List Value) (M : jx_M) (Q : jx_Po) (l0 l1 l2 l3 : Option Value) (x : Int32), jx_Ev d 114 27 [l0, l1, l2, l3] (.int x :: st) M Q ↔ jx_Ev d 114 28 [l0, l1, l2, some (.int x)] st M Q) ∧
  (∀ (d : Nat) (st : List Value) (M : jx_M) (Q : jx_Po) (l0 l1 l3 : Option Value) (x : Int32), jx_Ev d 114 28 [l0, l1, some (.int x), l3] st M Q ↔ jx_Ev d 114 29 [l0, l1, some (.int x), l3] (.int x :: st) M Q) ∧
  (∀ (d : Nat) (lv : List (Option Value)) (st : List Value) (M : jx_M) (Q : jx_Po), jx_Ev d 114 29 lv st M Q ↔ jx_Ev d 114 30 lv (.int (-1) :: st) M Q) ∧
  (∀ (d : Nat) (lv : List (Option Value)) (st : List Value) (M : jx_M) (Q : jx_Po) (x z : Int32), jx_Ev d 114 30 lv (.int z :: .int x :: st) M Q ↔ (if x = z then jx_Ev d 114 33 lv st M Q else jx_Ev d 114 37 lv st M Q)) ∧
  (∀ (d : Nat) (st : List Value) (M : jx_M) (Q : jx_Po) (l0 l1 l2 : Option Value) (x : Int32), jx_Ev d 114 33 [l0, l1, l2, some (.int x)] st M Q ↔ jx_Ev d 114 34 [l0, l1, l2, some (.int x)] (.int x :: st) M Q) ∧
  (∀ (d : Nat) (lv : List (Option Value)) (st : List Value) (M : jx_M) (Q : jx_Po), jx_Ev d 114 34 lv st M Q ↔ jx_Ev d 114 56 lv st M Q) ∧
  (∀ (d : Nat) (st : List Value) (M : jx_M) (Q : jx_Po) (l0 l1 l3 : Option Value) (x : Int32), jx_Ev d 114 37 [l0, l1, some (.int x), l3] st M Q ↔ jx_Ev d 114 38 [l0, l1, some (.int x), l3] (.int x :: st) M Q) ∧
  (∀ (d : Nat) (st : List Value) (M : jx_M) (Q : jx_Po) (l1 l2 l3 : Option Value) (x : Nat), jx_Ev d 114 38 [some (.ref x), l1, l2, l3] st M Q ↔ jx_Ev d 114 39 [some (.ref x), l1, l2, l3] (.ref x :: st) M Q) ∧
  (∀ (d : Nat) (lv : List (Option Value)) (st : List Value) (M : jx_M) (Q : jx_Po), jx_Ev d 114 39 lv (.ref 36 :: st) M Q ↔ jx_Ev d 114 42 lv (.int (M 36 6) :: st) M Q) ∧
  (∀ (d : Nat) (lv : List (Option Value)) (st : List Value) (M : jx_M) (Q : jx_Po) (x z : Int32), jx_Ev d 114 42 lv (.int z :: .int x :: st) M Q ↔ (if z ≤ x then jx_Ev d 114 54 lv st M Q else jx_Ev d 114 45 lv st M Q)) ∧
  (∀ (d : Nat) (st : List Value) (M : jx_M) (Q : jx_Po) (l1 l2 l3 : Option Value) (x : Nat), jx_Ev d 114 45 [some (.ref x), l1, l2, l3] st M Q ↔ jx_Ev d 114 46 [some (.ref x), l1, l2, l3] (.ref x :: st) M Q) ∧
  (∀ (d : Nat) (lv : List (Option Value)) (st : List Value) (M : jx_M) (Q : jx_Po), jx_Ev d 114 46 lv (.ref 36 :: st) M Q ↔ jx_Ev d 114 49 lv (.ref 51 :: st) M Q) ∧
  (∀ (d : Nat) (st : List Value) (M : jx_M) (Q : jx_Po) (l0 l1 l3 : Option Value) (x : Int32), jx_Ev d 114 49 [l0, l1, some (.int x), l3] st M Q ↔ jx_Ev d 114 50 [l0, l1, some (.int x), l3] (.int x :: st) M Q) ∧
  (∀ (d : Nat) (lv : List (Option Value)) (st : List Value) (M : jx_M) (Q : jx_Po) (x : Int32) (a : Nat) (ha : jx_cl a = 9), jx_Ev d 114 50 lv (.int x :: .ref a :: st) M Q ↔ (vp_in x (jx_sz a) ∧ jx_Ev d 114 51 lv (.int (M a x.toNatClampNeg) :: st) M Q)) ∧
  (∀ (d : Nat) (lv : List (Option Value)) (st : List Value) (M : jx_M) (Q : jx_Po), jx_Ev d 114 51 lv st M Q ↔ jx_Ev d 114 56 lv st M Q) ∧
  (∀ (d : Nat) (lv : List (Option Value)) (st : List Value) (M : jx_M) (Q : jx_Po), jx_Ev d 114 54 lv st M Q ↔ jx_Ev d 114 56 lv (.int (-9) :: st) M Q) ∧
  (∀ (d : Nat) (lv : List (Option Value)) (M : jx_M) (Q : jx_Po) (x : Int32), jx_Ev d 114 56 lv [.int x] M Q ↔ Q [.int x] M) := by
  refine ⟨?_, ?_, ?_, ?_, ?_, ?_, ?_, ?_, ?_, ?_, ?_, ?_, ?_, ?_, ?_, ?_, ?_, ?_, ?_, ?_, ?_, ?_, ?_, ?_, ?_, ?_, ?_, ?_, ?_, ?_, ?_, ?_, ?_⟩
  · exact fun d st M Q l1 l2 l3 x => jx_ev_st (jx_fok (by decide +kernel : decode (jx_mb 114) 0 = .ok (.aload_n 0, 1))) rfl rfl rfl
  · exact fun d st M Q l0 l2 l3 x => jx_ev_st (jx_fok (by decide +kernel : decode (jx_mb 114) 1 = .ok (.iload_n 1, 1))) rfl rfl rfl
  · exact fun d lv M Q a0 => jx_ev_ci (jx_fok (by decide +kernel : decode (jx_mb 114) 2 = .ok (.invokevirtual 142, 3))) rfl (jx_ccV (As := [.int a0]) (rest := []) rfl rfl rfl rfl rfl rfl) (by decide)
  · exact fun d lv st M Q x => jx_k_b1n (jx_fok (by decide +kernel : decode (jx_mb 114) 5 = .ok (.ifCond .ne 5, 3))) rfl jx_hNe
  · exact fun d lv st M Q => jx_ev_st (jx_fok (by decide +kernel : decode (jx_mb 114) 8 = .ok (.iconst (-1), 1))) rfl rfl rfl
  · exact fun d lv M Q x => jx_k_ri (jx_fok (by decide +kernel : decode (jx_mb 114) 9 = .ok (.ireturn, 1))) rfl
  · exact fun d st M Q l0 l1 l3 x => jx_ev_st (jx_fok (by decide +kernel : decode (jx_mb 114) 10 = .ok (.iload_n 2, 1))) rfl rfl rfl
  · exact fun d lv st M Q => jx_ev_st (jx_fok (by decide +kernel : decode (jx_mb 114) 11 = .ok (.iconst (-1), 1))) rfl rfl rfl
  · exact fun d lv st M Q => jx_ev_st (jx_fok (by decide +kernel : decode (jx_mb 114) 12 = .ok (.iconst 5, 1))) rfl rfl rfl
  · exact fun d lv M Q a0 a1 a2 => jx_ev_ci (jx_fok (by decide +kernel : decode (jx_mb 114) 13 = .ok (.invokestatic 73, 3))) rfl (jx_ccS (As := [.int a2, .int a1, .int a0]) (rest := []) rfl rfl rfl rfl rfl) (by decide)
  · exact fun d lv st M Q x => jx_k_b1n (jx_fok (by decide +kernel : decode (jx_mb 114) 16 = .ok (.ifCond .ne 6, 3))) rfl jx_hNe
  · exact fun d lv st M Q => jx_ev_st (jx_fok (by decide +kernel : decode (jx_mb 114) 19 = .ok (.bipush (-2), 2))) rfl rfl rfl
  · exact fun d lv M Q x => jx_k_ri (jx_fok (by decide +kernel : decode (jx_mb 114) 21 = .ok (.ireturn, 1))) rfl
  · exact fun d st M Q l1 l2 l3 x => jx_ev_st (jx_fok (by decide +kernel : decode (jx_mb 114) 22 = .ok (.aload_n 0, 1))) rfl rfl rfl
  · exact fun d st M Q l0 l2 l3 x => jx_ev_st (jx_fok (by decide +kernel : decode (jx_mb 114) 23 = .ok (.iload_n 1, 1))) rfl rfl rfl
  · exact fun d lv M Q a0 => jx_ev_ci (jx_fok (by decide +kernel : decode (jx_mb 114) 24 = .ok (.invokevirtual 167, 3))) rfl (jx_ccV (As := [.int a0]) (rest := []) rfl rfl rfl rfl rfl rfl) (by decide)
  · exact fun d st M Q l0 l1 l2 l3 x => jx_ev_st (jx_fok (by decide +kernel : decode (jx_mb 114) 27 = .ok (.istore_n 3, 1))) rfl rfl rfl
  · exact fun d st M Q l0 l1 l3 x => jx_ev_st (jx_fok (by decide +kernel : decode (jx_mb 114) 28 = .ok (.iload_n 2, 1))) rfl rfl rfl
  · exact fun d lv st M Q => jx_ev_st (jx_fok (by decide +kernel : decode (jx_mb 114) 29 = .ok (.iconst (-1), 1))) rfl rfl rfl
  · exact fun d lv st M Q x z => jx_k_b2n (jx_fok (by decide +kernel : decode (jx_mb 114) 30 = .ok (.if_icmp .ne 7, 3))) rfl jx_hNe
  · exact fun d st M Q l0 l1 l2 x => jx_ev_st (jx_fok (by decide +kernel : decode (jx_mb 114) 33 = .ok (.iload_n 3, 1))) rfl rfl rfl
  · exact fun d lv st M Q => jx_k_goto (jx_fok (by decide +kernel : decode (jx_mb 114) 34 = .ok (.goto 22, 3))) rfl
  · exact fun d st M Q l0 l1 l3 x => jx_ev_st (jx_fok (by decide +kernel : decode (jx_mb 114) 37 = .ok (.iload_n 2, 1))) rfl rfl rfl
  · exact fun d st M Q l1 l2 l3 x => jx_ev_st (jx_fok (by decide +kernel : decode (jx_mb 114) 38 = .ok (.aload_n 0, 1))) rfl rfl rfl
  · exact fun d lv st M Q => jx_k_gf (jx_fok (by decide +kernel : decode (jx_mb 114) 39 = .ok (.getfield 80, 3))) rfl rfl rfl
  · exact fun d lv st M Q x z => jx_k_b2 (jx_fok (by decide +kernel : decode (jx_mb 114) 42 = .ok (.if_icmp .ge 12, 3))) rfl jx_hGe
  · exact fun d st M Q l1 l2 l3 x => jx_ev_st (jx_fok (by decide +kernel : decode (jx_mb 114) 45 = .ok (.aload_n 0, 1))) rfl rfl rfl
  · exact fun d lv st M Q => jx_k_gf (jx_fok (by decide +kernel : decode (jx_mb 114) 46 = .ok (.getfield 52, 3))) rfl rfl rfl
  · exact fun d st M Q l0 l1 l3 x => jx_ev_st (jx_fok (by decide +kernel : decode (jx_mb 114) 49 = .ok (.iload_n 2, 1))) rfl rfl rfl
  · exact fun d lv st M Q x a ha => jx_k_al (jx_fok (by decide +kernel : decode (jx_mb 114) 50 = .ok (.iaload, 1))) ha
  · exact fun d lv st M Q => jx_k_goto (jx_fok (by decide +kernel : decode (jx_mb 114) 51 = .ok (.goto 5, 3))) rfl
  · exact fun d lv st M Q => jx_ev_st (jx_fok (by decide +kernel : decode (jx_mb 114) 54 = .ok (.bipush (-9), 2))) rfl rfl rfl
  · exact fun d lv M Q x => jx_k_ri (jx_fok (by decide +kernel : decode (jx_mb 114) 56 = .ok (.ireturn, 1))) rfl
theorem kX8_ease (d : Nat) (M : jx_M) (q : Int32 → jx_M → Prop) (a0 a1 a2 : Value) : jx_I d 114 [a0, a1, a2] M q ↔ jx_Ev d 114 0 [some a0, some a1, some a2, none] [] M (jx_qI q) := Iff.rfl
set_option maxRecDepth 100000 in
theorem eX8_isApart :
  (∀ (d : Nat) (st : List Value) (M : jx_M) (Q : jx_Po) (l1 l2 l3 l4 : Option Value) (x : Nat), jx_Ev d 115 0 [some (.ref x), l1, l2, l3, l4] st M Q ↔ jx_Ev d 115 1 [some (.ref x), l1, l2, l3, l4] (.ref x :: st) M Q) ∧
  (∀ (d : Nat) (st : List Value) (M : jx_M) (Q : jx_Po) (l0 l2 l3 l4 : Option Value) (x : Int32), jx_Ev d 115 1 [l0, some (.int x), l2, l3, l4] st M Q ↔ jx_Ev d 115 2 [l0, some (.int x), l2, l3, l4] (.int x :: st) M Q) ∧
  (∀ (d : Nat) (st : List Value) (M : jx_M) (Q : jx_Po) (l0 l1 l2 l4 : Option Value) (x : Int32), jx_Ev d 115 2 [l0, l1, l2, some (.int x), l4] st M Q ↔ jx_Ev d 115 3 [l0, l1, l2, some (.int x), l4] (.int x :: st) M Q) ∧
  (∀ (d : Nat) (lv : List (Option Value)) (M : jx_M) (Q : jx_Po) (a0 : Int32) (a1 : Int32), jx_Ev (d + 1) 115 3 lv [.int a0, .int a1, .ref 36] M Q ↔ jx_I d 104 [.ref 36, .int a1, .int a0] M (fun x M => jx_Ev (d + 1) 115 6 lv (.int x :: []) M Q)) ∧
  (∀ (d : Nat) (st : List Value) (M : jx_M) (Q : jx_Po) (l1 l2 l3 l4 : Option Value) (x : Nat), jx_Ev d 115 6 [some (.ref x), l1, l2, l3, l4] st M Q ↔ jx_Ev d 115 7 [some (.ref x), l1, l2, l3, l4] (.ref x :: st) M Q) ∧
  (∀ (d : Nat) (st : List Value) (M : jx_M) (Q : jx_Po) (l0 l1 l3 l4 : Option Value) (x : Int32), jx_Ev d 115 7 [l0, l1, some (.int x), l3, l4] st M Q ↔ jx_Ev d 115 8 [l0, l1, some (.int x), l3, l4] (.int x :: st) M Q) ∧
  (∀ (d : Nat) (st : List Value) (M : jx_M) (Q : jx_Po) (l0 l1 l2 l4 : Option Value) (x : Int32), jx_Ev d 115 8 [l0, l1, l2, some (.int x), l4] st M Q ↔ jx_Ev d 115 9 [l0, l1, l2, some (.int x), l4] (.int x :: st) M Q) ∧
  (∀ (d : Nat) (lv : List (Option Value)) (M : jx_M) (Q : jx_Po) (a0 : Int32) (a1 : Int32) (a3 : Int32), jx_Ev (d + 1) 115 9 lv [.int a0, .int a1, .ref 36, .int a3] M Q ↔ jx_I d 104 [.ref 36, .int a1, .int a0] M (fun x M => jx_Ev (d + 1) 115 12 lv (.int x :: [.int a3]) M Q)) ∧
  (∀ (d : Nat) (lv : List (Option Value)) (st : List Value) (M : jx_M) (Q : jx_Po) (x z : Int32), jx_Ev d 115 12 lv (.int z :: .int x :: st) M Q ↔ jx_Ev d 115 13 lv (.int (x - z) :: st) M Q) ∧
  (∀ (d : Nat) (st : List Value) (M : jx_M) (Q : jx_Po) (l0 l1 l2 l3 l4 : Option Value) (x : Int32), jx_Ev d 115 13 [l0, l1, l2, l3, l4] (.int x :: st) M Q ↔ jx_Ev d 115 15 [l0, l1, l2, l3, some (.int x)] st M Q) ∧
  (∀ (d : Nat) (st : List Value) (M : jx_M) (Q : jx_Po) (l0 l1 l2 l3 : Option Value) (x : Int32), jx_Ev d 115 15 [l0, l1, l2, l3, some (.int x)] st M Q ↔ jx_Ev d 115 17 [l0, l1, l2, l3, some (.int x)] (.int x :: st) M Q) ∧
  (∀ (d : Nat) (st : List Value) (M : jx_M) (Q : jx_Po) (l1 l2 l3 l4 : Option Value) (x : Nat), jx_Ev d 115 17 [some (.ref x), l1, l2, l3, l4] st M Q ↔ jx_Ev d 115 18 [some (.ref x), l1, l2, l3, l4] (.ref x :: st) M Q) ∧
  (∀ (d : Nat) (lv : List (Option Value)) (st : List Value) (M : jx_M) (Q : jx_Po), jx_Ev d 115 18 lv (.ref 36 :: st) M Q ↔ jx_Ev d 115 21 lv (.int (M 36 8) :: st) M Q) ∧
  (∀ (d : Nat) (lv : List (Option Value)) (st : List Value) (M : jx_M) (Q : jx_Po) (x z : Int32), jx_Ev d 115 21 lv (.int z :: .int x :: st) M Q ↔ (if z ≤ x then jx_Ev d 115 34 lv st M Q else jx_Ev d 115 24 lv st M Q)) ∧
  (∀ (d : Nat) (st : List Value) (M : jx_M) (Q : jx_Po) (l0 l1 l2 l3 : Option Value) (x : Int32), jx_Ev d 115 24 [l0, l1, l2, l3, some (.int x)] st M Q ↔ jx_Ev d 115 26 [l0, l1, l2, l3, some (.int x)] (.int x :: st) M Q) ∧
  (∀ (d : Nat) (lv : List (Option Value)) (st : List Value) (M : jx_M) (Q : jx_Po) (x : Int32), jx_Ev d 115 26 lv (.int x :: st) M Q ↔ jx_Ev d 115 27 lv (.int (-x) :: st) M Q) ∧
  (∀ (d : Nat) (st : List Value) (M : jx_M) (Q : jx_Po) (l1 l2 l3 l4 : Option Value) (x : Nat), jx_Ev d 115 27 [some (.ref x), l1, l2, l3, l4] st M Q ↔ jx_Ev d 115 28 [some (.ref x), l1, l2, l3, l4] (.ref x :: st) M Q) ∧
  (∀ (d : Nat) (lv : List (Option Value)) (st : List Value) (M : jx_M) (Q : jx_Po), jx_Ev d 115 28 lv (.ref 36 :: st) M Q ↔ jx_Ev d 115 31 lv (.int (M 36 8) :: st) M Q) ∧
  (∀ (d : Nat) (lv : List (Option Value)) (st : List Value) (M : jx_M) (Q : jx_Po) (x z : Int32), jx_Ev d 115 31 lv (.int z :: .int x :: st) M Q ↔ (if x < z then jx_Ev d 115 38 lv st M Q else jx_Ev d 115 34 lv st M Q)) ∧
  (∀ (d : Nat) (lv : List (Option Value)) (st : List Value) (M : jx_M) (Q : jx_Po), jx_Ev d 115 34 lv st M Q ↔ jx_Ev d 115 35 lv (.int 1 :: st) M Q) ∧
  (∀ (d : Nat) (lv : List (Option Value)) (st : List Value) (M : jx_M) (Q : jx_Po), jx_Ev d 115 35 lv st M Q ↔ jx_Ev d 115 39 lv st M Q) ∧
  (∀ (d : Nat) (lv : List (Option Value)) (st : List Value) (M : jx_M) (Q : jx_Po), jx_Ev d 115 38 lv st M Q ↔ jx_Ev d 115 39 lv (.int 0 :: st) M Q) ∧
  (∀ (d : Nat) (lv : List (Option Value)) (M : jx_M) (Q : jx_Po) (x : Int32), jx_Ev d 115 39 lv [.int x] M Q ↔ ((x = 0 ∨ x = 1) ∧ Q [.int x] M)) := by
  refine ⟨?_, ?_, ?_, ?_, ?_, ?_, ?_, ?_, ?_, ?_, ?_, ?_, ?_, ?_, ?_, ?_, ?_, ?_, ?_, ?_, ?_, ?_, ?_⟩
  · exact fun d st M Q l1 l2 l3 l4 x => jx_ev_st (jx_fok (by decide +kernel : decode (jx_mb 115) 0 = .ok (.aload_n 0, 1))) rfl rfl rfl
  · exact fun d st M Q l0 l2 l3 l4 x => jx_ev_st (jx_fok (by decide +kernel : decode (jx_mb 115) 1 = .ok (.iload_n 1, 1))) rfl rfl rfl
  · exact fun d st M Q l0 l1 l2 l4 x => jx_ev_st (jx_fok (by decide +kernel : decode (jx_mb 115) 2 = .ok (.iload_n 3, 1))) rfl rfl rfl
  · exact fun d lv M Q a0 a1 => jx_ev_ci (jx_fok (by decide +kernel : decode (jx_mb 115) 3 = .ok (.invokevirtual 154, 3))) rfl (jx_ccV (As := [.int a1, .int a0]) (rest := []) rfl rfl rfl rfl rfl rfl) (by decide)
  · exact fun d st M Q l1 l2 l3 l4 x => jx_ev_st (jx_fok (by decide +kernel : decode (jx_mb 115) 6 = .ok (.aload_n 0, 1))) rfl rfl rfl
  · exact fun d st M Q l0 l1 l3 l4 x => jx_ev_st (jx_fok (by decide +kernel : decode (jx_mb 115) 7 = .ok (.iload_n 2, 1))) rfl rfl rfl
  · exact fun d st M Q l0 l1 l2 l4 x => jx_ev_st (jx_fok (by decide +kernel : decode (jx_mb 115) 8 = .ok (.iload_n 3, 1))) rfl rfl rfl
  · exact fun d lv M Q a0 a1 a3 => jx_ev_ci (jx_fok (by decide +kernel : decode (jx_mb 115) 9 = .ok (.invokevirtual 154, 3))) rfl (jx_ccV (As := [.int a1, .int a0]) (rest := [.int a3]) rfl rfl rfl rfl rfl rfl) (by decide)
  · exact fun d lv st M Q x z => jx_ev_st (jx_fok (by decide +kernel : decode (jx_mb 115) 12 = .ok (.isub, 1))) rfl rfl rfl
  · exact fun d st M Q l0 l1 l2 l3 l4 x => jx_ev_st (jx_fok (by decide +kernel : decode (jx_mb 115) 13 = .ok (.istore 4, 2))) rfl rfl rfl
  · exact fun d st M Q l0 l1 l2 l3 x => jx_ev_st (jx_fok (by decide +kernel : decode (jx_mb 115) 15 = .ok (.iload 4, 2))) rfl rfl rfl
  · exact fun d st M Q l1 l2 l3 l4 x => jx_ev_st (jx_fok (by decide +kernel : decode (jx_mb 115) 17 = .ok (.aload_n 0, 1))) rfl rfl rfl
  · exact fun d lv st M Q => jx_k_gf (jx_fok (by decide +kernel : decode (jx_mb 115) 18 = .ok (.getfield 116, 3))) rfl rfl rfl
  · exact fun d lv st M Q x z => jx_k_b2 (jx_fok (by decide +kernel : decode (jx_mb 115) 21 = .ok (.if_icmp .ge 13, 3))) rfl jx_hGe
  · exact fun d st M Q l0 l1 l2 l3 x => jx_ev_st (jx_fok (by decide +kernel : decode (jx_mb 115) 24 = .ok (.iload 4, 2))) rfl rfl rfl
  · exact fun d lv st M Q x => jx_ev_st (jx_fok (by decide +kernel : decode (jx_mb 115) 26 = .ok (.ineg, 1))) rfl rfl rfl
  · exact fun d st M Q l1 l2 l3 l4 x => jx_ev_st (jx_fok (by decide +kernel : decode (jx_mb 115) 27 = .ok (.aload_n 0, 1))) rfl rfl rfl
  · exact fun d lv st M Q => jx_k_gf (jx_fok (by decide +kernel : decode (jx_mb 115) 28 = .ok (.getfield 116, 3))) rfl rfl rfl
  · exact fun d lv st M Q x z => jx_k_b2 (jx_fok (by decide +kernel : decode (jx_mb 115) 31 = .ok (.if_icmp .lt 7, 3))) rfl jx_hLt
  · exact fun d lv st M Q => jx_ev_st (jx_fok (by decide +kernel : decode (jx_mb 115) 34 = .ok (.iconst 1, 1))) rfl rfl rfl
  · exact fun d lv st M Q => jx_k_goto (jx_fok (by decide +kernel : decode (jx_mb 115) 35 = .ok (.goto 4, 3))) rfl
  · exact fun d lv st M Q => jx_ev_st (jx_fok (by decide +kernel : decode (jx_mb 115) 38 = .ok (.iconst 0, 1))) rfl rfl rfl
  · exact fun d lv M Q x => jx_k_rz (jx_fok (by decide +kernel : decode (jx_mb 115) 39 = .ok (.ireturn, 1))) rfl
theorem kX8_isApart (d : Nat) (M : jx_M) (q : Int32 → jx_M → Prop) (a0 a1 a2 a3 : Value) : jx_I d 115 [a0, a1, a2, a3] M q ↔ jx_Ev d 115 0 [some a0, some a1, some a2, some a3, none] [] M (jx_qI q) := Iff.rfl
set_option maxRecDepth 100000 in
theorem eX8_shelf :
  (∀ (d : Nat) (st : List Value) (M : jx_M) (Q : jx_Po) (l1 l2 l3 l4 l5 l6 l7 l8 l9 l10 : Option Value) (x : Nat), jx_Ev d 116 0 [some (.ref x), l1, l2, l3, l4, l5, l6, l7, l8, l9, l10] st M Q ↔ jx_Ev d 116 1 [some (.ref x), l1, l2, l3, l4, l5, l6, l7, l8, l9, l10] (.ref x :: st) M Q) ∧
  (∀ (d : Nat) (lv : List (Option Value)) (st : List Value) (M : jx_M) (Q : jx_Po), jx_Ev d 116 1 lv st M Q ↔ jx_Ev d 116 2 lv (.int 0 :: st) M Q) ∧
  (∀ (d : Nat) (lv : List (Option Value)) (st : List Value) (M : jx_M) (Q : jx_Po) (x : Int32), jx_Ev d 116 2 lv (.int x :: .ref 36 :: st) M Q ↔ jx_Ev d 116 5 lv st (jx_up M 36 0 x) Q) ∧
  (∀ (d : Nat) (st : List Value) (M : jx_M) (Q : jx_Po) (l0 l1 l3 l4 l5 l6 l7 l8 l9 l10 : Option Value) (x : Int32), jx_Ev d 116 5 [l0, l1, some (.int x), l3, l4, l5, l6, l7, l8, l9, l10] st M Q ↔ jx_Ev d 116 6 [l0, l1, some (.int x), l3, l4, l5, l6, l7, l8, l9, l10] (.int x :: st) M Q) ∧
  (∀ (d : Nat) (lv : List (Option Value)) (M : jx_M) (Q : jx_Po) (a0 : Int32), jx_Ev (d + 1) 116 6 lv [.int a0] M Q ↔ jx_I d 86 [.int a0] M (fun x M => jx_Ev (d + 1) 116 9 lv (.int x :: []) M Q)) ∧
  (∀ (d : Nat) (lv : List (Option Value)) (st : List Value) (M : jx_M) (Q : jx_Po) (x : Int32), jx_Ev d 116 9 lv (.int x :: st) M Q ↔ (if x = 0 then jx_Ev d 116 12 lv st M Q else jx_Ev d 116 14 lv st M Q)) ∧
  (∀ (d : Nat) (lv : List (Option Value)) (st : List Value) (M : jx_M) (Q : jx_Po), jx_Ev d 116 12 lv st M Q ↔ jx_Ev d 116 13 lv (.int (-1) :: st) M Q) ∧
  (∀ (d : Nat) (lv : List (Option Value)) (M : jx_M) (Q : jx_Po) (x : Int32), jx_Ev d 116 13 lv [.int x] M Q ↔ Q [.int x] M) ∧
  (∀ (d : Nat) (st : List Value) (M : jx_M) (Q : jx_Po) (l0 l2 l3 l4 l5 l6 l7 l8 l9 l10 : Option Value) (x : Int32), jx_Ev d 116 14 [l0, some (.int x), l2, l3, l4, l5, l6, l7, l8, l9, l10] st M Q ↔ jx_Ev d 116 15 [l0, some (.int x), l2, l3, l4, l5, l6, l7, l8, l9, l10] (.int x :: st) M Q) ∧
  (∀ (d : Nat) (lv : List (Option Value)) (M : jx_M) (Q : jx_Po) (a0 : Int32), jx_Ev (d + 1) 116 15 lv [.int a0] M Q ↔ jx_I d 105 [.int a0] M (fun x M => jx_Ev (d + 1) 116 18 lv (.int x :: []) M Q)) ∧
  (∀ (d : Nat) (lv : List (Option Value)) (st : List Value) (M : jx_M) (Q : jx_Po) (x : Int32), jx_Ev d 116 18 lv (.int x :: st) M Q ↔ (if x = 0 then jx_Ev d 116 39 lv st M Q else jx_Ev d 116 21 lv st M Q)) ∧
  (∀ (d : Nat) (st : List Value) (M : jx_M) (Q : jx_Po) (l0 l1 l2 l4 l5 l6 l7 l8 l9 l10 : Option Value) (x : Int32), jx_Ev d 116 21 [l0, l1, l2, some (.int x), l4, l5, l6, l7, l8, l9, l10] st M Q ↔ jx_Ev d 116 22 [l0, l1, l2, some (.int x), l4, l5, l6, l7, l8, l9, l10] (.int x :: st) M Q) ∧
  (∀ (d : Nat) (lv : List (Option Value)) (M : jx_M) (Q : jx_Po) (a0 : Int32), jx_Ev (d + 1) 116 22 lv [.int a0] M Q ↔ jx_I d 87 [.int a0] M (fun x M => jx_Ev (d + 1) 116 25 lv (.int x :: []) M Q)) ∧
  (∀ (d : Nat) (lv : List (Option Value)) (st : List Value) (M : jx_M) (Q : jx_Po) (x : Int32), jx_Ev d 116 25 lv (.int x :: st) M Q ↔ (if x = 0 then jx_Ev d 116 39 lv st M Q else jx_Ev d 116 28 lv st M Q)) ∧
  (∀ (d : Nat) (st : List Value) (M : jx_M) (Q : jx_Po) (l0 l1 l2 l3 l4 l6 l7 l8 l9 l10 : Option Value) (x : Int32), jx_Ev d 116 28 [l0, l1, l2, l3, l4, some (.int x), l6, l7, l8, l9, l10] st M Q ↔ jx_Ev d 116 30 [l0, l1, l2, l3, l4, some (.int x), l6, l7, l8, l9, l10] (.int x :: st) M Q) ∧
  (∀ (d : Nat) (lv : List (Option Value)) (st : List Value) (M : jx_M) (Q : jx_Po), jx_Ev d 116 30 lv st M Q ↔ jx_Ev d 116 31 lv (.int 0 :: st) M Q) ∧
  (∀ (d : Nat) (lv : List (Option Value)) (st : List Value) (M : jx_M) (Q : jx_Po), jx_Ev d 116 31 lv st M Q ↔ jx_Ev d 116 33 lv (.int 20 :: st) M Q) ∧
  (∀ (d : Nat) (lv : List (Option Value)) (M : jx_M) (Q : jx_Po) (a0 : Int32) (a1 : Int32) (a2 : Int32), jx_Ev (d + 1) 116 33 lv [.int a0, .int a1, .int a2] M Q ↔ jx_I d 85 [.int a2, .int a1, .int a0] M (fun x M => jx_Ev (d + 1) 116 36 lv (.int x :: []) M Q)) ∧
  (∀ (d : Nat) (lv : List (Option Value)) (st : List Value) (M : jx_M) (Q : jx_Po) (x : Int32), jx_Ev d 116 36 lv (.int x :: st) M Q ↔ (if x = 0 then jx_Ev d 116 39 lv st M Q else jx_Ev d 116 42 lv st M Q)) ∧
  (∀ (d : Nat) (lv : List (Option Value)) (st : List Value) (M : jx_M) (Q : jx_Po), jx_Ev d 116 39 lv st M Q ↔ jx_Ev d 116 41 lv (.int (-2) :: st) M Q) ∧
  (∀ (d : Nat) (lv : List (Option Value)) (M : jx_M) (Q : jx_Po) (x : Int32), jx_Ev d 116 41 lv [.int x] M Q ↔ Q [.int x] M) ∧
  (∀ (d : Nat) (st : List Value) (M : jx_M) (Q : jx_Po) (l1 l2 l3 l4 l5 l6 l7 l8 l9 l10 : Option Value) (x : Nat), jx_Ev d 116 42 [some (.ref x), l1, l2, l3, l4, l5, l6, l7, l8, l9, l10] st M Q ↔ jx_Ev d 116 43 [some (.ref x), l1, l2, l3, l4, l5, l6, l7, l8, l9, l10] (.ref x :: st) M Q) ∧
  (∀ (d : Nat) (st : List Value) (M : jx_M) (Q : jx_Po) (l0 l1 l3 l4 l5 l6 l7 l8 l9 l10 : Option Value) (x : Int32), jx_Ev d 116 43 [l0, l1, some (.int x), l3, l4, l5, l6, l7, l8, l9, l10] st M Q ↔ jx_Ev d 116 44 [l0, l1, some (.int x), l3, l4, l5, l6, l7, l8, l9, l10] (.int x :: st) M Q) ∧
  (∀ (d : Nat) (st : List Value) (M : jx_M) (Q : jx_Po) (l0 l1 l2 l4 l5 l6 l7 l8 l9 l10 : Option Value) (x : Int32), jx_Ev d 116 44 [l0, l1, l2, some (.int x), l4, l5, l6, l7, l8, l9, l10] st M Q ↔ jx_Ev d 116 45 [l0, l1, l2, some (.int x), l4, l5, l6, l7, l8, l9, l10] (.int x :: st) M Q) ∧
  (∀ (d : Nat) (st : List Value) (M : jx_M) (Q : jx_Po) (l0 l1 l2 l3 l5 l6 l7 l8 l9 l10 : Option Value) (x : Int32), jx_Ev d 116 45 [l0, l1, l2, l3, some (.int x), l5, l6, l7, l8, l9, l10] st M Q ↔ jx_Ev d 116 47 [l0, l1, l2, l3, some (.int x), l5, l6, l7, l8, l9, l10] (.int x :: st) M Q) ∧
  (∀ (d : Nat) (st : List Value) (M : jx_M) (Q : jx_Po) (l0 l1 l2 l3 l4 l6 l7 l8 l9 l10 : Option Value) (x : Int32), jx_Ev d 116 47 [l0, l1, l2, l3, l4, some (.int x), l6, l7, l8, l9, l10] st M Q ↔ jx_Ev d 116 49 [l0, l1, l2, l3, l4, some (.int x), l6, l7, l8, l9, l10] (.int x :: st) M Q) ∧
  (∀ (d : Nat) (lv : List (Option Value)) (M : jx_M) (Q : jx_Po) (a0 : Int32) (a1 : Int32) (a2 : Int32) (a3 : Int32), jx_Ev (d + 1) 116 49 lv [.int a0, .int a1, .int a2, .int a3, .ref 36] M Q ↔ jx_I d 88 [.ref 36, .int a3, .int a2, .int a1, .int a0] M (fun x M => jx_Ev (d + 1) 116 52 lv (.int x :: []) M Q)) ∧
  (∀ (d : Nat) (st : List Value) (M : jx_M) (Q : jx_Po) (l0 l1 l2 l3 l4 l5 l6 l7 l8 l9 l10 : Option Value) (x : Int32), jx_Ev d 116 52 [l0, l1, l2, l3, l4, l5, l6, l7, l8, l9, l10] (.int x :: st) M Q ↔ jx_Ev d 116 54 [l0, l1, l2, l3, l4, l5, some (.int x), l7, l8, l9, l10] st M Q) ∧
  (∀ (d : Nat) (st : List Value) (M : jx_M) (Q : jx_Po) (l0 l1 l2 l3 l4 l5 l7 l8 l9 l10 : Option Value) (x : Int32), jx_Ev d 116 54 [l0, l1, l2, l3, l4, l5, some (.int x), l7, l8, l9, l10] st M Q ↔ jx_Ev d 116 56 [l0, l1, l2, l3, l4, l5, some (.int x), l7, l8, l9, l10] (.int x :: st) M Q) ∧
  (∀ (d : Nat) (lv : List (Option Value)) (st : List Value) (M : jx_M) (Q : jx_Po) (x : Int32), jx_Ev d 116 56 lv (.int x :: st) M Q ↔ (if x = 0 then jx_Ev d 116 66 lv st M Q else jx_Ev d 116 59 lv st M Q)) ∧
  (∀ (d : Nat) (st : List Value) (M : jx_M) (Q : jx_Po) (l1 l2 l3 l4 l5 l6 l7 l8 l9 l10 : Option Value) (x : Nat), jx_Ev d 116 59 [some (.ref x), l1, l2, l3, l4, l5, l6, l7, l8, l9, l10] st M Q ↔ jx_Ev d 116 60 [some (.ref x), l1, l2, l3, l4, l5, l6, l7, l8, l9, l10] (.ref x :: st) M Q) ∧
  (∀ (d : Nat) (st : List Value) (M : jx_M) (Q : jx_Po) (l0 l1 l2 l3 l4 l5 l7 l8 l9 l10 : Option Value) (x : Int32), jx_Ev d 116 60 [l0, l1, l2, l3, l4, l5, some (.int x), l7, l8, l9, l10] st M Q ↔ jx_Ev d 116 62 [l0, l1, l2, l3, l4, l5, some (.int x), l7, l8, l9, l10] (.int x :: st) M Q) ∧
  (∀ (d : Nat) (lv : List (Option Value)) (M : jx_M) (Q : jx_Po) (a0 : Int32), jx_Ev (d + 1) 116 62 lv [.int a0, .ref 36] M Q ↔ jx_I d 83 [.ref 36, .int a0] M (fun x M => jx_Ev (d + 1) 116 65 lv (.int x :: []) M Q)) ∧
  (∀ (d : Nat) (lv : List (Option Value)) (M : jx_M) (Q : jx_Po) (x : Int32), jx_Ev d 116 65 lv [.int x] M Q ↔ Q [.int x] M) ∧
  (∀ (d : Nat) (lv : List (Option Value)) (st : List Value) (M : jx_M) (Q : jx_Po), jx_Ev d 116 66 lv st M Q ↔ jx_Ev d 116 68 lv (.int 60 :: st) M Q) ∧
  (∀ (d : Nat) (st : List Value) (M : jx_M) (Q : jx_Po) (l0 l1 l3 l4 l5 l6 l7 l8 l9 l10 : Option Value) (x : Int32), jx_Ev d 116 68 [l0, l1, some (.int x), l3, l4, l5, l6, l7, l8, l9, l10] st M Q ↔ jx_Ev d 116 69 [l0, l1, some (.int x), l3, l4, l5, l6, l7, l8, l9, l10] (.int x :: st) M Q) ∧
  (∀ (d : Nat) (lv : List (Option Value)) (st : List Value) (M : jx_M) (Q : jx_Po) (x z : Int32), jx_Ev d 116 69 lv (.int z :: .int x :: st) M Q ↔ jx_Ev d 116 70 lv (.int (x * z) :: st) M Q) ∧
  (∀ (d : Nat) (st : List Value) (M : jx_M) (Q : jx_Po) (l0 l1 l2 l3 l5 l6 l7 l8 l9 l10 : Option Value) (x : Int32), jx_Ev d 116 70 [l0, l1, l2, l3, some (.int x), l5, l6, l7, l8, l9, l10] st M Q ↔ jx_Ev d 116 72 [l0, l1, l2, l3, some (.int x), l5, l6, l7, l8, l9, l10] (.int x :: st) M Q) ∧
  (∀ (d : Nat) (lv : List (Option Value)) (st : List Value) (M : jx_M) (Q : jx_Po) (x z : Int32), jx_Ev d 116 72 lv (.int z :: .int x :: st) M Q ↔ jx_Ev d 116 73 lv (.int (x + z) :: st) M Q) ∧
  (∀ (d : Nat) (st : List Value) (M : jx_M) (Q : jx_Po) (l0 l1 l2 l3 l4 l5 l6 l7 l8 l9 l10 : Option Value) (x : Int32), jx_Ev d 116 73 [l0, l1, l2, l3, l4, l5, l6, l7, l8, l9, l10] (.int x :: st) M Q ↔ jx_Ev d 116 75 [l0, l1, l2, l3, l4, l5, l6, some (.int x), l8, l9, l10] st M Q) ∧
  (∀ (d : Nat) (lv : List (Option Value)) (st : List Value) (M : jx_M) (Q : jx_Po), jx_Ev d 116 75 lv st M Q ↔ jx_Ev d 116 76 lv (.int 0 :: st) M Q) ∧
  (∀ (d : Nat) (st : List Value) (M : jx_M) (Q : jx_Po) (l0 l1 l2 l3 l4 l5 l6 l7 l8 l9 l10 : Option Value) (x : Int32), jx_Ev d 116 76 [l0, l1, l2, l3, l4, l5, l6, l7, l8, l9, l10] (.int x :: st) M Q ↔ jx_Ev d 116 78 [l0, l1, l2, l3, l4, l5, l6, l7, some (.int x), l9, l10] st M Q) ∧
  (∀ (d : Nat) (st : List Value) (M : jx_M) (Q : jx_Po) (l0 l1 l2 l3 l4 l6 l7 l8 l9 l10 : Option Value) (x : Int32), jx_Ev d 116 80 [l0, l1, l2, l3, l4, some (.int x), l6, l7, l8, l9, l10] st M Q ↔ jx_Ev d 116 82 [l0, l1, l2, l3, l4, some (.int x), l6, l7, l8, l9, l10] (.int x :: st) M Q) ∧
  (∀ (d : Nat) (lv : List (Option Value)) (st : List Value) (M : jx_M) (Q : jx_Po) (x z : Int32), jx_Ev d 116 82 lv (.int z :: .int x :: st) M Q ↔ (if z ≤ x then jx_Ev d 116 110 lv st M Q else jx_Ev d 116 85 lv st M Q)) ∧
  (∀ (d : Nat) (st : List Value) (M : jx_M) (Q : jx_Po) (l1 l2 l3 l4 l5 l6 l7 l8 l9 l10 : Option Value) (x : Nat), jx_Ev d 116 85 [some (.ref x), l1, l2, l3, l4, l5, l6, l7, l8, l9, l10] st M Q ↔ jx_Ev d 116 86 [some (.ref x), l1, l2, l3, l4, l5, l6, l7, l8, l9, l10] (.ref x :: st) M Q) ∧
  (∀ (d : Nat) (st : List Value) (M : jx_M) (Q : jx_Po) (l1 l2 l3 l4 l5 l6 l7 l8 l9 l10 : Option Value) (x : Nat), jx_Ev d 116 86 [some (.ref x), l1, l2, l3, l4, l5, l6, l7, l8, l9, l10] st M Q ↔ jx_Ev d 116 87 [some (.ref x), l1, l2, l3, l4, l5, l6, l7, l8, l9, l10] (.ref x :: st) M Q) ∧
  (∀ (d : Nat) (lv : List (Option Value)) (st : List Value) (M : jx_M) (Q : jx_Po), jx_Ev d 116 87 lv (.ref 36 :: st) M Q ↔ jx_Ev d 116 90 lv (.ref 39 :: st) M Q) ∧
  (∀ (d : Nat) (st : List Value) (M : jx_M) (Q : jx_Po) (l0 l1 l2 l3 l4 l5 l6 l8 l9 l10 : Option Value) (x : Int32), jx_Ev d 116 90 [l0, l1, l2, l3, l4, l5, l6, some (.int x), l8, l9, l10] st M Q ↔ jx_Ev d 116 92 [l0, l1, l2, l3, l4, l5, l6, some (.int x), l8, l9, l10] (.int x :: st) M Q) ∧
  (∀ (d : Nat) (st : List Value) (M : jx_M) (Q : jx_Po) (l0 l1 l2 l3 l4 l5 l6 l7 l9 l10 : Option Value) (x : Int32), jx_Ev d 116 92 [l0, l1, l2, l3, l4, l5, l6, l7, some (.int x), l9, l10] st M Q ↔ jx_Ev d 116 94 [l0, l1, l2, l3, l4, l5, l6, l7, some (.int x), l9, l10] (.int x :: st) M Q) ∧
  (∀ (d : Nat) (lv : List (Option Value)) (st : List Value) (M : jx_M) (Q : jx_Po) (x z : Int32), jx_Ev d 116 94 lv (.int z :: .int x :: st) M Q ↔ jx_Ev d 116 95 lv (.int (x + z) :: st) M Q) ∧
  (∀ (d : Nat) (lv : List (Option Value)) (st : List Value) (M : jx_M) (Q : jx_Po) (x : Int32) (a : Nat) (ha : jx_cl a = 9), jx_Ev d 116 95 lv (.int x :: .ref a :: st) M Q ↔ (vp_in x (jx_sz a) ∧ jx_Ev d 116 96 lv (.int (M a x.toNatClampNeg) :: st) M Q)) ∧
  (∀ (d : Nat) (lv : List (Option Value)) (M : jx_M) (Q : jx_Po) (a0 : Int32), jx_Ev (d + 1) 116 96 lv [.int a0, .ref 36] M Q ↔ jx_I d 90 [.ref 36, .int a0] M (fun x M => jx_Ev (d + 1) 116 99 lv (.int x :: []) M Q)) ∧
  (∀ (d : Nat) (lv : List (Option Value)) (st : List Value) (M : jx_M) (Q : jx_Po) (x : Int32), jx_Ev d 116 99 lv (.int x :: st) M Q ↔ (if x = 0 then jx_Ev d 116 102 lv st M Q else jx_Ev d 116 104 lv st M Q)) ∧
  (∀ (d : Nat) (lv : List (Option Value)) (st : List Value) (M : jx_M) (Q : jx_Po), jx_Ev d 116 102 lv st M Q ↔ jx_Ev d 116 103 lv (.int (-1) :: st) M Q) ∧
  (∀ (d : Nat) (lv : List (Option Value)) (M : jx_M) (Q : jx_Po) (x : Int32), jx_Ev d 116 103 lv [.int x] M Q ↔ Q [.int x] M) ∧
  (∀ (d : Nat) (st : List Value) (M : jx_M) (Q : jx_Po) (l0 l1 l2 l3 l4 l5 l6 l7 l9 l10 : Option Value) (x : Int32), jx_Ev d 116 104 [l0, l1, l2, l3, l4, l5, l6, l7, some (.int x), l9, l10] st M Q ↔ jx_Ev d 116 107 [l0, l1, l2, l3, l4, l5, l6, l7, some (.int (x + 1)), l9, l10] st M Q) ∧
  (∀ (d : Nat) (lv : List (Option Value)) (st : List Value) (M : jx_M) (Q : jx_Po), jx_Ev d 116 107 lv st M Q ↔ jx_Ev d 116 78 lv st M Q) ∧
  (∀ (d : Nat) (lv : List (Option Value)) (st : List Value) (M : jx_M) (Q : jx_Po), jx_Ev d 116 110 lv st M Q ↔ jx_Ev d 116 111 lv (.int 0 :: st) M Q) ∧
  (∀ (d : Nat) (st : List Value) (M : jx_M) (Q : jx_Po) (l0 l1 l2 l3 l4 l5 l6 l7 l8 l9 l10 : Option Value) (x : Int32), jx_Ev d 116 111 [l0, l1, l2, l3, l4, l5, l6, l7, l8, l9, l10] (.int x :: st) M Q ↔ jx_Ev d 116 113 [l0, l1, l2, l3, l4, l5, l6, l7, some (.int x), l9, l10] st M Q) ∧
  (∀ (d : Nat) (lv : List (Option Value)) (st : List Value) (M : jx_M) (Q : jx_Po), jx_Ev d 116 113 lv st M Q ↔ jx_Ev d 116 114 lv (.int 0 :: st) M Q) ∧
  (∀ (d : Nat) (st : List Value) (M : jx_M) (Q : jx_Po) (l0 l1 l2 l3 l4 l5 l6 l7 l8 l9 l10 : Option Value) (x : Int32), jx_Ev d 116 114 [l0, l1, l2, l3, l4, l5, l6, l7, l8, l9, l10] (.int x :: st) M Q ↔ jx_Ev d 116 116 [l0, l1, l2, l3, l4, l5, l6, l7, l8, some (.int x), l10] st M Q) ∧
  (∀ (d : Nat) (st : List Value) (M : jx_M) (Q : jx_Po) (l0 l1 l2 l3 l4 l6 l7 l8 l9 l10 : Option Value) (x : Int32), jx_Ev d 116 118 [l0, l1, l2, l3, l4, some (.int x), l6, l7, l8, l9, l10] st M Q ↔ jx_Ev d 116 120 [l0, l1, l2, l3, l4, some (.int x), l6, l7, l8, l9, l10] (.int x :: st) M Q) ∧
  (∀ (d : Nat) (lv : List (Option Value)) (st : List Value) (M : jx_M) (Q : jx_Po) (x z : Int32), jx_Ev d 116 120 lv (.int z :: .int x :: st) M Q ↔ (if z ≤ x then jx_Ev d 116 191 lv st M Q else jx_Ev d 116 123 lv st M Q)) ∧
  (∀ (d : Nat) (st : List Value) (M : jx_M) (Q : jx_Po) (l1 l2 l3 l4 l5 l6 l7 l8 l9 l10 : Option Value) (x : Nat), jx_Ev d 116 123 [some (.ref x), l1, l2, l3, l4, l5, l6, l7, l8, l9, l10] st M Q ↔ jx_Ev d 116 124 [some (.ref x), l1, l2, l3, l4, l5, l6, l7, l8, l9, l10] (.ref x :: st) M Q) ∧
  (∀ (d : Nat) (lv : List (Option Value)) (st : List Value) (M : jx_M) (Q : jx_Po), jx_Ev d 116 124 lv (.ref 36 :: st) M Q ↔ jx_Ev d 116 127 lv (.ref 39 :: st) M Q) ∧
  (∀ (d : Nat) (st : List Value) (M : jx_M) (Q : jx_Po) (l0 l1 l2 l3 l4 l5 l6 l8 l9 l10 : Option Value) (x : Int32), jx_Ev d 116 127 [l0, l1, l2, l3, l4, l5, l6, some (.int x), l8, l9, l10] st M Q ↔ jx_Ev d 116 129 [l0, l1, l2, l3, l4, l5, l6, some (.int x), l8, l9, l10] (.int x :: st) M Q) ∧
  (∀ (d : Nat) (st : List Value) (M : jx_M) (Q : jx_Po) (l0 l1 l2 l3 l4 l5 l6 l7 l8 l10 : Option Value) (x : Int32), jx_Ev d 116 129 [l0, l1, l2, l3, l4, l5, l6, l7, l8, some (.int x), l10] st M Q ↔ jx_Ev d 116 131 [l0, l1, l2, l3, l4, l5, l6, l7, l8, some (.int x), l10] (.int x :: st) M Q) ∧
  (∀ (d : Nat) (lv : List (Option Value)) (st : List Value) (M : jx_M) (Q : jx_Po) (x z : Int32), jx_Ev d 116 131 lv (.int z :: .int x :: st) M Q ↔ jx_Ev d 116 132 lv (.int (x + z) :: st) M Q) ∧
  (∀ (d : Nat) (lv : List (Option Value)) (st : List Value) (M : jx_M) (Q : jx_Po) (x : Int32) (a : Nat) (ha : jx_cl a = 9), jx_Ev d 116 132 lv (.int x :: .ref a :: st) M Q ↔ (vp_in x (jx_sz a) ∧ jx_Ev d 116 133 lv (.int (M a x.toNatClampNeg) :: st) M Q)) ∧
  (∀ (d : Nat) (st : List Value) (M : jx_M) (Q : jx_Po) (l0 l1 l2 l3 l4 l5 l6 l7 l8 l9 l10 : Option Value) (x : Int32), jx_Ev d 116 133 [l0, l1, l2, l3, l4, l5, l6, l7, l8, l9, l10] (.int x :: st) M Q ↔ jx_Ev d 116 135 [l0, l1, l2, l3, l4, l5, l6, l7, l8, l9, some (.int x)] st M Q) ∧
  (∀ (d : Nat) (st : List Value) (M : jx_M) (Q : jx_Po) (l0 l1 l2 l3 l4 l5 l6 l7 l9 l10 : Option Value) (x : Int32), jx_Ev d 116 135 [l0, l1, l2, l3, l4, l5, l6, l7, some (.int x), l9, l10] st M Q ↔ jx_Ev d 116 137 [l0, l1, l2, l3, l4, l5, l6, l7, some (.int x), l9, l10] (.int x :: st) M Q) ∧
  (∀ (d : Nat) (st : List Value) (M : jx_M) (Q : jx_Po) (l0 l1 l2 l3 l4 l5 l6 l7 l8 l9 : Option Value) (x : Int32), jx_Ev d 116 137 [l0, l1, l2, l3, l4, l5, l6, l7, l8, l9, some (.int x)] st M Q ↔ jx_Ev d 116 139 [l0, l1, l2, l3, l4, l5, l6, l7, l8, l9, some (.int x)] (.int x :: st) M Q) ∧
  (∀ (d : Nat) (lv : List (Option Value)) (st : List Value) (M : jx_M) (Q : jx_Po) (x z : Int32), jx_Ev d 116 139 lv (.int z :: .int x :: st) M Q ↔ jx_Ev d 116 140 lv (.int (x >>> (z &&& 31)) :: st) M Q) ∧
  (∀ (d : Nat) (lv : List (Option Value)) (st : List Value) (M : jx_M) (Q : jx_Po), jx_Ev d 116 140 lv st M Q ↔ jx_Ev d 116 141 lv (.int 1 :: st) M Q) ∧
  (∀ (d : Nat) (lv : List (Option Value)) (st : List Value) (M : jx_M) (Q : jx_Po) (x z : Int32), jx_Ev d 116 141 lv (.int z :: .int x :: st) M Q ↔ jx_Ev d 116 142 lv (.int (x &&& z) :: st) M Q) ∧
  (∀ (d : Nat) (lv : List (Option Value)) (st : List Value) (M : jx_M) (Q : jx_Po), jx_Ev d 116 142 lv st M Q ↔ jx_Ev d 116 143 lv (.int 1 :: st) M Q) ∧
  (∀ (d : Nat) (lv : List (Option Value)) (st : List Value) (M : jx_M) (Q : jx_Po) (x z : Int32), jx_Ev d 116 143 lv (.int z :: .int x :: st) M Q ↔ (if x = z then jx_Ev d 116 173 lv st M Q else jx_Ev d 116 146 lv st M Q)) ∧
  (∀ (d : Nat) (st : List Value) (M : jx_M) (Q : jx_Po) (l0 l1 l2 l3 l4 l5 l6 l7 l8 l10 : Option Value) (x : Int32), jx_Ev d 116 146 [l0, l1, l2, l3, l4, l5, l6, l7, l8, some (.int x), l10] st M Q ↔ jx_Ev d 116 148 [l0, l1, l2, l3, l4, l5, l6, l7, l8, some (.int x), l10] (.int x :: st) M Q) ∧
  (∀ (d : Nat) (lv : List (Option Value)) (st : List Value) (M : jx_M) (Q : jx_Po) (x : Int32), jx_Ev d 116 148 lv (.int x :: st) M Q ↔ (if x ≤ 0 then jx_Ev d 116 176 lv st M Q else jx_Ev d 116 151 lv st M Q)) ∧
  (∀ (d : Nat) (st : List Value) (M : jx_M) (Q : jx_Po) (l1 l2 l3 l4 l5 l6 l7 l8 l9 l10 : Option Value) (x : Nat), jx_Ev d 116 151 [some (.ref x), l1, l2, l3, l4, l5, l6, l7, l8, l9, l10] st M Q ↔ jx_Ev d 116 152 [some (.ref x), l1, l2, l3, l4, l5, l6, l7, l8, l9, l10] (.ref x :: st) M Q) ∧
  (∀ (d : Nat) (st : List Value) (M : jx_M) (Q : jx_Po) (l1 l2 l3 l4 l5 l6 l7 l8 l9 l10 : Option Value) (x : Nat), jx_Ev d 116 152 [some (.ref x), l1, l2, l3, l4, l5, l6, l7, l8, l9, l10] st M Q ↔ jx_Ev d 116 153 [some (.ref x), l1, l2, l3, l4, l5, l6, l7, l8, l9, l10] (.ref x :: st) M Q) ∧
  (∀ (d : Nat) (lv : List (Option Value)) (st : List Value) (M : jx_M) (Q : jx_Po), jx_Ev d 116 153 lv (.ref 36 :: st) M Q ↔ jx_Ev d 116 156 lv (.ref 39 :: st) M Q) ∧
  (∀ (d : Nat) (st : List Value) (M : jx_M) (Q : jx_Po) (l0 l1 l2 l3 l4 l5 l6 l8 l9 l10 : Option Value) (x : Int32), jx_Ev d 116 156 [l0, l1, l2, l3, l4, l5, l6, some (.int x), l8, l9, l10] st M Q ↔ jx_Ev d 116 158 [l0, l1, l2, l3, l4, l5, l6, some (.int x), l8, l9, l10] (.int x :: st) M Q) ∧
  (∀ (d : Nat) (st : List Value) (M : jx_M) (Q : jx_Po) (l0 l1 l2 l3 l4 l5 l6 l7 l8 l10 : Option Value) (x : Int32), jx_Ev d 116 158 [l0, l1, l2, l3, l4, l5, l6, l7, l8, some (.int x), l10] st M Q ↔ jx_Ev d 116 160 [l0, l1, l2, l3, l4, l5, l6, l7, l8, some (.int x), l10] (.int x :: st) M Q) ∧
  (∀ (d : Nat) (lv : List (Option Value)) (st : List Value) (M : jx_M) (Q : jx_Po) (x z : Int32), jx_Ev d 116 160 lv (.int z :: .int x :: st) M Q ↔ jx_Ev d 116 161 lv (.int (x + z) :: st) M Q) ∧
  (∀ (d : Nat) (lv : List (Option Value)) (st : List Value) (M : jx_M) (Q : jx_Po), jx_Ev d 116 161 lv st M Q ↔ jx_Ev d 116 162 lv (.int 1 :: st) M Q) ∧
  (∀ (d : Nat) (lv : List (Option Value)) (st : List Value) (M : jx_M) (Q : jx_Po) (x z : Int32), jx_Ev d 116 162 lv (.int z :: .int x :: st) M Q ↔ jx_Ev d 116 163 lv (.int (x - z) :: st) M Q) ∧
  (∀ (d : Nat) (lv : List (Option Value)) (st : List Value) (M : jx_M) (Q : jx_Po) (x : Int32) (a : Nat) (ha : jx_cl a = 9), jx_Ev d 116 163 lv (.int x :: .ref a :: st) M Q ↔ (vp_in x (jx_sz a) ∧ jx_Ev d 116 164 lv (.int (M a x.toNatClampNeg) :: st) M Q)) ∧
  (∀ (d : Nat) (st : List Value) (M : jx_M) (Q : jx_Po) (l0 l1 l2 l3 l4 l5 l6 l7 l8 l9 : Option Value) (x : Int32), jx_Ev d 116 164 [l0, l1, l2, l3, l4, l5, l6, l7, l8, l9, some (.int x)] st M Q ↔ jx_Ev d 116 166 [l0, l1, l2, l3, l4, l5, l6, l7, l8, l9, some (.int x)] (.int x :: st) M Q) ∧
  (∀ (d : Nat) (st : List Value) (M : jx_M) (Q : jx_Po) (l0 l2 l3 l4 l5 l6 l7 l8 l9 l10 : Option Value) (x : Int32), jx_Ev d 116 166 [l0, some (.int x), l2, l3, l4, l5, l6, l7, l8, l9, l10] st M Q ↔ jx_Ev d 116 167 [l0, some (.int x), l2, l3, l4, l5, l6, l7, l8, l9, l10] (.int x :: st) M Q) ∧
  (∀ (d : Nat) (lv : List (Option Value)) (M : jx_M) (Q : jx_Po) (a0 : Int32) (a1 : Int32) (a2 : Int32), jx_Ev (d + 1) 116 167 lv [.int a0, .int a1, .int a2, .ref 36] M Q ↔ jx_I d 115 [.ref 36, .int a2, .int a1, .int a0] M (fun x M => jx_Ev (d + 1) 116 170 lv (.int x :: []) M Q)) ∧
  (∀ (d : Nat) (lv : List (Option Value)) (st : List Value) (M : jx_M) (Q : jx_Po) (x : Int32), jx_Ev d 116 170 lv (.int x :: st) M Q ↔ (if x = 0 then jx_Ev d 116 173 lv st M Q else jx_Ev d 116 176 lv st M Q)) ∧
  (∀ (d : Nat) (st : List Value) (M : jx_M) (Q : jx_Po) (l0 l1 l2 l3 l4 l5 l6 l7 l8 l10 : Option Value) (x : Int32), jx_Ev d 116 173 [l0, l1, l2, l3, l4, l5, l6, l7, l8, some (.int x), l10] st M Q ↔ jx_Ev d 116 175 [l0, l1, l2, l3, l4, l5, l6, l7, l8, some (.int x), l10] (.int x :: st) M Q) ∧
  (∀ (d : Nat) (lv : List (Option Value)) (M : jx_M) (Q : jx_Po) (x : Int32), jx_Ev d 116 175 lv [.int x] M Q ↔ Q [.int x] M) ∧
  (∀ (d : Nat) (st : List Value) (M : jx_M) (Q : jx_Po) (l0 l1 l2 l3 l4 l5 l6 l7 l9 l10 : Option Value) (x : Int32), jx_Ev d 116 176 [l0, l1, l2, l3, l4, l5, l6, l7, some (.int x), l9, l10] st M Q ↔ jx_Ev d 116 178 [l0, l1, l2, l3, l4, l5, l6, l7, some (.int x), l9, l10] (.int x :: st) M Q) ∧
  (∀ (d : Nat) (lv : List (Option Value)) (st : List Value) (M : jx_M) (Q : jx_Po), jx_Ev d 116 178 lv st M Q ↔ jx_Ev d 116 179 lv (.int 1 :: st) M Q) ∧
  (∀ (d : Nat) (st : List Value) (M : jx_M) (Q : jx_Po) (l0 l1 l2 l3 l4 l5 l6 l7 l8 l9 : Option Value) (x : Int32), jx_Ev d 116 179 [l0, l1, l2, l3, l4, l5, l6, l7, l8, l9, some (.int x)] st M Q ↔ jx_Ev d 116 181 [l0, l1, l2, l3, l4, l5, l6, l7, l8, l9, some (.int x)] (.int x :: st) M Q) ∧
  (∀ (d : Nat) (lv : List (Option Value)) (st : List Value) (M : jx_M) (Q : jx_Po) (x z : Int32), jx_Ev d 116 181 lv (.int z :: .int x :: st) M Q ↔ jx_Ev d 116 182 lv (.int (x <<< (z &&& 31)) :: st) M Q) ∧
  (∀ (d : Nat) (lv : List (Option Value)) (st : List Value) (M : jx_M) (Q : jx_Po) (x z : Int32), jx_Ev d 116 182 lv (.int z :: .int x :: st) M Q ↔ jx_Ev d 116 183 lv (.int (x ||| z) :: st) M Q) ∧
  (∀ (d : Nat) (st : List Value) (M : jx_M) (Q : jx_Po) (l0 l1 l2 l3 l4 l5 l6 l7 l8 l9 l10 : Option Value) (x : Int32), jx_Ev d 116 183 [l0, l1, l2, l3, l4, l5, l6, l7, l8, l9, l10] (.int x :: st) M Q ↔ jx_Ev d 116 185 [l0, l1, l2, l3, l4, l5, l6, l7, some (.int x), l9, l10] st M Q) ∧
  (∀ (d : Nat) (st : List Value) (M : jx_M) (Q : jx_Po) (l0 l1 l2 l3 l4 l5 l6 l7 l8 l10 : Option Value) (x : Int32), jx_Ev d 116 185 [l0, l1, l2, l3, l4, l5, l6, l7, l8, some (.int x), l10] st M Q ↔ jx_Ev d 116 188 [l0, l1, l2, l3, l4, l5, l6, l7, l8, some (.int (x + 1)), l10] st M Q) ∧
  (∀ (d : Nat) (lv : List (Option Value)) (st : List Value) (M : jx_M) (Q : jx_Po), jx_Ev d 116 188 lv st M Q ↔ jx_Ev d 116 116 lv st M Q) ∧
  (∀ (d : Nat) (lv : List (Option Value)) (st : List Value) (M : jx_M) (Q : jx_Po), jx_Ev d 116 191 lv st M Q ↔ jx_Ev d 116 193 lv (.int (-9) :: st) M Q) ∧
  (∀ (d : Nat) (lv : List (Option Value)) (M : jx_M) (Q : jx_Po) (x : Int32), jx_Ev d 116 193 lv [.int x] M Q ↔ Q [.int x] M) := by
  refine ⟨?_, ?_, ?_, ?_, ?_, ?_, ?_, ?_, ?_, ?_, ?_, ?_, ?_, ?_, ?_, ?_, ?_, ?_, ?_, ?_, ?_, ?_, ?_, ?_, ?_, ?_, ?_, ?_, ?_, ?_, ?_, ?_, ?_, ?_, ?_, ?_, ?_, ?_, ?_, ?_, ?_, ?_, ?_, ?_, ?_, ?_, ?_, ?_, ?_, ?_, ?_, ?_, ?_, ?_, ?_, ?_, ?_, ?_, ?_, ?_, ?_, ?_, ?_, ?_, ?_, ?_, ?_, ?_, ?_, ?_, ?_, ?_, ?_, ?_, ?_, ?_, ?_, ?_, ?_, ?_, ?_, ?_, ?_, ?_, ?_, ?_, ?_, ?_, ?_, ?_, ?_, ?_, ?_, ?_, ?_, ?_, ?_, ?_, ?_, ?_, ?_, ?_, ?_, ?_⟩
  · exact fun d st M Q l1 l2 l3 l4 l5 l6 l7 l8 l9 l10 x => jx_ev_st (jx_fok (by decide +kernel : decode (jx_mb 116) 0 = .ok (.aload_n 0, 1))) rfl rfl rfl
  · exact fun d lv st M Q => jx_ev_st (jx_fok (by decide +kernel : decode (jx_mb 116) 1 = .ok (.iconst 0, 1))) rfl rfl rfl
  · exact fun d lv st M Q x => jx_k_pf0 (jx_fok (by decide +kernel : decode (jx_mb 116) 2 = .ok (.putfield 67, 3))) rfl rfl rfl
  · exact fun d st M Q l0 l1 l3 l4 l5 l6 l7 l8 l9 l10 x => jx_ev_st (jx_fok (by decide +kernel : decode (jx_mb 116) 5 = .ok (.iload_n 2, 1))) rfl rfl rfl
  · exact fun d lv M Q a0 => jx_ev_ci (jx_fok (by decide +kernel : decode (jx_mb 116) 6 = .ok (.invokestatic 86, 3))) rfl (jx_ccS (As := [.int a0]) (rest := []) rfl rfl rfl rfl rfl) (by decide)
  · exact fun d lv st M Q x => jx_k_b1n (jx_fok (by decide +kernel : decode (jx_mb 116) 9 = .ok (.ifCond .ne 5, 3))) rfl jx_hNe
  · exact fun d lv st M Q => jx_ev_st (jx_fok (by decide +kernel : decode (jx_mb 116) 12 = .ok (.iconst (-1), 1))) rfl rfl rfl
  · exact fun d lv M Q x => jx_k_ri (jx_fok (by decide +kernel : decode (jx_mb 116) 13 = .ok (.ireturn, 1))) rfl
  · exact fun d st M Q l0 l2 l3 l4 l5 l6 l7 l8 l9 l10 x => jx_ev_st (jx_fok (by decide +kernel : decode (jx_mb 116) 14 = .ok (.iload_n 1, 1))) rfl rfl rfl
  · exact fun d lv M Q a0 => jx_ev_ci (jx_fok (by decide +kernel : decode (jx_mb 116) 15 = .ok (.invokestatic 151, 3))) rfl (jx_ccS (As := [.int a0]) (rest := []) rfl rfl rfl rfl rfl) (by decide)
  · exact fun d lv st M Q x => jx_k_b1 (jx_fok (by decide +kernel : decode (jx_mb 116) 18 = .ok (.ifCond .eq 21, 3))) rfl jx_hEq
  · exact fun d st M Q l0 l1 l2 l4 l5 l6 l7 l8 l9 l10 x => jx_ev_st (jx_fok (by decide +kernel : decode (jx_mb 116) 21 = .ok (.iload_n 3, 1))) rfl rfl rfl
  · exact fun d lv M Q a0 => jx_ev_ci (jx_fok (by decide +kernel : decode (jx_mb 116) 22 = .ok (.invokestatic 90, 3))) rfl (jx_ccS (As := [.int a0]) (rest := []) rfl rfl rfl rfl rfl) (by decide)
  · exact fun d lv st M Q x => jx_k_b1 (jx_fok (by decide +kernel : decode (jx_mb 116) 25 = .ok (.ifCond .eq 14, 3))) rfl jx_hEq
  · exact fun d st M Q l0 l1 l2 l3 l4 l6 l7 l8 l9 l10 x => jx_ev_st (jx_fok (by decide +kernel : decode (jx_mb 116) 28 = .ok (.iload 5, 2))) rfl rfl rfl
  · exact fun d lv st M Q => jx_ev_st (jx_fok (by decide +kernel : decode (jx_mb 116) 30 = .ok (.iconst 0, 1))) rfl rfl rfl
  · exact fun d lv st M Q => jx_ev_st (jx_fok (by decide +kernel : decode (jx_mb 116) 31 = .ok (.bipush 20, 2))) rfl rfl rfl
  · exact fun d lv M Q a0 a1 a2 => jx_ev_ci (jx_fok (by decide +kernel : decode (jx_mb 116) 33 = .ok (.invokestatic 73, 3))) rfl (jx_ccS (As := [.int a2, .int a1, .int a0]) (rest := []) rfl rfl rfl rfl rfl) (by decide)
  · exact fun d lv st M Q x => jx_k_b1n (jx_fok (by decide +kernel : decode (jx_mb 116) 36 = .ok (.ifCond .ne 6, 3))) rfl jx_hNe
  · exact fun d lv st M Q => jx_ev_st (jx_fok (by decide +kernel : decode (jx_mb 116) 39 = .ok (.bipush (-2), 2))) rfl rfl rfl
  · exact fun d lv M Q x => jx_k_ri (jx_fok (by decide +kernel : decode (jx_mb 116) 41 = .ok (.ireturn, 1))) rfl
  · exact fun d st M Q l1 l2 l3 l4 l5 l6 l7 l8 l9 l10 x => jx_ev_st (jx_fok (by decide +kernel : decode (jx_mb 116) 42 = .ok (.aload_n 0, 1))) rfl rfl rfl
  · exact fun d st M Q l0 l1 l3 l4 l5 l6 l7 l8 l9 l10 x => jx_ev_st (jx_fok (by decide +kernel : decode (jx_mb 116) 43 = .ok (.iload_n 2, 1))) rfl rfl rfl
  · exact fun d st M Q l0 l1 l2 l4 l5 l6 l7 l8 l9 l10 x => jx_ev_st (jx_fok (by decide +kernel : decode (jx_mb 116) 44 = .ok (.iload_n 3, 1))) rfl rfl rfl
  · exact fun d st M Q l0 l1 l2 l3 l5 l6 l7 l8 l9 l10 x => jx_ev_st (jx_fok (by decide +kernel : decode (jx_mb 116) 45 = .ok (.iload 4, 2))) rfl rfl rfl
  · exact fun d st M Q l0 l1 l2 l3 l4 l6 l7 l8 l9 l10 x => jx_ev_st (jx_fok (by decide +kernel : decode (jx_mb 116) 47 = .ok (.iload 5, 2))) rfl rfl rfl
  · exact fun d lv M Q a0 a1 a2 a3 => jx_ev_ci (jx_fok (by decide +kernel : decode (jx_mb 116) 49 = .ok (.invokevirtual 93, 3))) rfl (jx_ccV (As := [.int a3, .int a2, .int a1, .int a0]) (rest := []) rfl rfl rfl rfl rfl rfl) (by decide)
  · exact fun d st M Q l0 l1 l2 l3 l4 l5 l6 l7 l8 l9 l10 x => jx_ev_st (jx_fok (by decide +kernel : decode (jx_mb 116) 52 = .ok (.istore 6, 2))) rfl rfl rfl
  · exact fun d st M Q l0 l1 l2 l3 l4 l5 l7 l8 l9 l10 x => jx_ev_st (jx_fok (by decide +kernel : decode (jx_mb 116) 54 = .ok (.iload 6, 2))) rfl rfl rfl
  · exact fun d lv st M Q x => jx_k_b1 (jx_fok (by decide +kernel : decode (jx_mb 116) 56 = .ok (.ifCond .eq 10, 3))) rfl jx_hEq
  · exact fun d st M Q l1 l2 l3 l4 l5 l6 l7 l8 l9 l10 x => jx_ev_st (jx_fok (by decide +kernel : decode (jx_mb 116) 59 = .ok (.aload_n 0, 1))) rfl rfl rfl
  · exact fun d st M Q l0 l1 l2 l3 l4 l5 l7 l8 l9 l10 x => jx_ev_st (jx_fok (by decide +kernel : decode (jx_mb 116) 60 = .ok (.iload 6, 2))) rfl rfl rfl
  · exact fun d lv M Q a0 => jx_ev_ci (jx_fok (by decide +kernel : decode (jx_mb 116) 62 = .ok (.invokevirtual 97, 3))) rfl (jx_ccV (As := [.int a0]) (rest := []) rfl rfl rfl rfl rfl rfl) (by decide)
  · exact fun d lv M Q x => jx_k_ri (jx_fok (by decide +kernel : decode (jx_mb 116) 65 = .ok (.ireturn, 1))) rfl
  · exact fun d lv st M Q => jx_ev_st (jx_fok (by decide +kernel : decode (jx_mb 116) 66 = .ok (.bipush 60, 2))) rfl rfl rfl
  · exact fun d st M Q l0 l1 l3 l4 l5 l6 l7 l8 l9 l10 x => jx_ev_st (jx_fok (by decide +kernel : decode (jx_mb 116) 68 = .ok (.iload_n 2, 1))) rfl rfl rfl
  · exact fun d lv st M Q x z => jx_ev_st (jx_fok (by decide +kernel : decode (jx_mb 116) 69 = .ok (.imul, 1))) rfl rfl rfl
  · exact fun d st M Q l0 l1 l2 l3 l5 l6 l7 l8 l9 l10 x => jx_ev_st (jx_fok (by decide +kernel : decode (jx_mb 116) 70 = .ok (.iload 4, 2))) rfl rfl rfl
  · exact fun d lv st M Q x z => jx_ev_st (jx_fok (by decide +kernel : decode (jx_mb 116) 72 = .ok (.iadd, 1))) rfl rfl rfl
  · exact fun d st M Q l0 l1 l2 l3 l4 l5 l6 l7 l8 l9 l10 x => jx_ev_st (jx_fok (by decide +kernel : decode (jx_mb 116) 73 = .ok (.istore 7, 2))) rfl rfl rfl
  · exact fun d lv st M Q => jx_ev_st (jx_fok (by decide +kernel : decode (jx_mb 116) 75 = .ok (.iconst 0, 1))) rfl rfl rfl
  · exact fun d st M Q l0 l1 l2 l3 l4 l5 l6 l7 l8 l9 l10 x => jx_ev_st (jx_fok (by decide +kernel : decode (jx_mb 116) 76 = .ok (.istore 8, 2))) rfl rfl rfl
  · exact fun d st M Q l0 l1 l2 l3 l4 l6 l7 l8 l9 l10 x => jx_ev_st (jx_fok (by decide +kernel : decode (jx_mb 116) 80 = .ok (.iload 5, 2))) rfl rfl rfl
  · exact fun d lv st M Q x z => jx_k_b2 (jx_fok (by decide +kernel : decode (jx_mb 116) 82 = .ok (.if_icmp .ge 28, 3))) rfl jx_hGe
  · exact fun d st M Q l1 l2 l3 l4 l5 l6 l7 l8 l9 l10 x => jx_ev_st (jx_fok (by decide +kernel : decode (jx_mb 116) 85 = .ok (.aload_n 0, 1))) rfl rfl rfl
  · exact fun d st M Q l1 l2 l3 l4 l5 l6 l7 l8 l9 l10 x => jx_ev_st (jx_fok (by decide +kernel : decode (jx_mb 116) 86 = .ok (.aload_n 0, 1))) rfl rfl rfl
  · exact fun d lv st M Q => jx_k_gf (jx_fok (by decide +kernel : decode (jx_mb 116) 87 = .ok (.getfield 16, 3))) rfl rfl rfl
  · exact fun d st M Q l0 l1 l2 l3 l4 l5 l6 l8 l9 l10 x => jx_ev_st (jx_fok (by decide +kernel : decode (jx_mb 116) 90 = .ok (.iload 7, 2))) rfl rfl rfl
  · exact fun d st M Q l0 l1 l2 l3 l4 l5 l6 l7 l9 l10 x => jx_ev_st (jx_fok (by decide +kernel : decode (jx_mb 116) 92 = .ok (.iload 8, 2))) rfl rfl rfl
  · exact fun d lv st M Q x z => jx_ev_st (jx_fok (by decide +kernel : decode (jx_mb 116) 94 = .ok (.iadd, 1))) rfl rfl rfl
  · exact fun d lv st M Q x a ha => jx_k_al (jx_fok (by decide +kernel : decode (jx_mb 116) 95 = .ok (.iaload, 1))) ha
  · exact fun d lv M Q a0 => jx_ev_ci (jx_fok (by decide +kernel : decode (jx_mb 116) 96 = .ok (.invokevirtual 148, 3))) rfl (jx_ccV (As := [.int a0]) (rest := []) rfl rfl rfl rfl rfl rfl) (by decide)
  · exact fun d lv st M Q x => jx_k_b1n (jx_fok (by decide +kernel : decode (jx_mb 116) 99 = .ok (.ifCond .ne 5, 3))) rfl jx_hNe
  · exact fun d lv st M Q => jx_ev_st (jx_fok (by decide +kernel : decode (jx_mb 116) 102 = .ok (.iconst (-1), 1))) rfl rfl rfl
  · exact fun d lv M Q x => jx_k_ri (jx_fok (by decide +kernel : decode (jx_mb 116) 103 = .ok (.ireturn, 1))) rfl
  · exact fun d st M Q l0 l1 l2 l3 l4 l5 l6 l7 l9 l10 x => jx_ev_st (jx_fok (by decide +kernel : decode (jx_mb 116) 104 = .ok (.iinc 8 1, 3))) rfl rfl rfl
  · exact fun d lv st M Q => jx_k_goto (jx_fok (by decide +kernel : decode (jx_mb 116) 107 = .ok (.goto (-29), 3))) rfl
  · exact fun d lv st M Q => jx_ev_st (jx_fok (by decide +kernel : decode (jx_mb 116) 110 = .ok (.iconst 0, 1))) rfl rfl rfl
  · exact fun d st M Q l0 l1 l2 l3 l4 l5 l6 l7 l8 l9 l10 x => jx_ev_st (jx_fok (by decide +kernel : decode (jx_mb 116) 111 = .ok (.istore 8, 2))) rfl rfl rfl
  · exact fun d lv st M Q => jx_ev_st (jx_fok (by decide +kernel : decode (jx_mb 116) 113 = .ok (.iconst 0, 1))) rfl rfl rfl
  · exact fun d st M Q l0 l1 l2 l3 l4 l5 l6 l7 l8 l9 l10 x => jx_ev_st (jx_fok (by decide +kernel : decode (jx_mb 116) 114 = .ok (.istore 9, 2))) rfl rfl rfl
  · exact fun d st M Q l0 l1 l2 l3 l4 l6 l7 l8 l9 l10 x => jx_ev_st (jx_fok (by decide +kernel : decode (jx_mb 116) 118 = .ok (.iload 5, 2))) rfl rfl rfl
  · exact fun d lv st M Q x z => jx_k_b2 (jx_fok (by decide +kernel : decode (jx_mb 116) 120 = .ok (.if_icmp .ge 71, 3))) rfl jx_hGe
  · exact fun d st M Q l1 l2 l3 l4 l5 l6 l7 l8 l9 l10 x => jx_ev_st (jx_fok (by decide +kernel : decode (jx_mb 116) 123 = .ok (.aload_n 0, 1))) rfl rfl rfl
  · exact fun d lv st M Q => jx_k_gf (jx_fok (by decide +kernel : decode (jx_mb 116) 124 = .ok (.getfield 16, 3))) rfl rfl rfl
  · exact fun d st M Q l0 l1 l2 l3 l4 l5 l6 l8 l9 l10 x => jx_ev_st (jx_fok (by decide +kernel : decode (jx_mb 116) 127 = .ok (.iload 7, 2))) rfl rfl rfl
  · exact fun d st M Q l0 l1 l2 l3 l4 l5 l6 l7 l8 l10 x => jx_ev_st (jx_fok (by decide +kernel : decode (jx_mb 116) 129 = .ok (.iload 9, 2))) rfl rfl rfl
  · exact fun d lv st M Q x z => jx_ev_st (jx_fok (by decide +kernel : decode (jx_mb 116) 131 = .ok (.iadd, 1))) rfl rfl rfl
  · exact fun d lv st M Q x a ha => jx_k_al (jx_fok (by decide +kernel : decode (jx_mb 116) 132 = .ok (.iaload, 1))) ha
  · exact fun d st M Q l0 l1 l2 l3 l4 l5 l6 l7 l8 l9 l10 x => jx_ev_st (jx_fok (by decide +kernel : decode (jx_mb 116) 133 = .ok (.istore 10, 2))) rfl rfl rfl
  · exact fun d st M Q l0 l1 l2 l3 l4 l5 l6 l7 l9 l10 x => jx_ev_st (jx_fok (by decide +kernel : decode (jx_mb 116) 135 = .ok (.iload 8, 2))) rfl rfl rfl
  · exact fun d st M Q l0 l1 l2 l3 l4 l5 l6 l7 l8 l9 x => jx_ev_st (jx_fok (by decide +kernel : decode (jx_mb 116) 137 = .ok (.iload 10, 2))) rfl rfl rfl
  · exact fun d lv st M Q x z => jx_ev_st (jx_fok (by decide +kernel : decode (jx_mb 116) 139 = .ok (.ishr, 1))) rfl rfl rfl
  · exact fun d lv st M Q => jx_ev_st (jx_fok (by decide +kernel : decode (jx_mb 116) 140 = .ok (.iconst 1, 1))) rfl rfl rfl
  · exact fun d lv st M Q x z => jx_ev_st (jx_fok (by decide +kernel : decode (jx_mb 116) 141 = .ok (.iand, 1))) rfl rfl rfl
  · exact fun d lv st M Q => jx_ev_st (jx_fok (by decide +kernel : decode (jx_mb 116) 142 = .ok (.iconst 1, 1))) rfl rfl rfl
  · exact fun d lv st M Q x z => jx_k_b2 (jx_fok (by decide +kernel : decode (jx_mb 116) 143 = .ok (.if_icmp .eq 30, 3))) rfl jx_hEq
  · exact fun d st M Q l0 l1 l2 l3 l4 l5 l6 l7 l8 l10 x => jx_ev_st (jx_fok (by decide +kernel : decode (jx_mb 116) 146 = .ok (.iload 9, 2))) rfl rfl rfl
  · exact fun d lv st M Q x => jx_k_b1 (jx_fok (by decide +kernel : decode (jx_mb 116) 148 = .ok (.ifCond .le 28, 3))) rfl jx_hLe
  · exact fun d st M Q l1 l2 l3 l4 l5 l6 l7 l8 l9 l10 x => jx_ev_st (jx_fok (by decide +kernel : decode (jx_mb 116) 151 = .ok (.aload_n 0, 1))) rfl rfl rfl
  · exact fun d st M Q l1 l2 l3 l4 l5 l6 l7 l8 l9 l10 x => jx_ev_st (jx_fok (by decide +kernel : decode (jx_mb 116) 152 = .ok (.aload_n 0, 1))) rfl rfl rfl
  · exact fun d lv st M Q => jx_k_gf (jx_fok (by decide +kernel : decode (jx_mb 116) 153 = .ok (.getfield 16, 3))) rfl rfl rfl
  · exact fun d st M Q l0 l1 l2 l3 l4 l5 l6 l8 l9 l10 x => jx_ev_st (jx_fok (by decide +kernel : decode (jx_mb 116) 156 = .ok (.iload 7, 2))) rfl rfl rfl
  · exact fun d st M Q l0 l1 l2 l3 l4 l5 l6 l7 l8 l10 x => jx_ev_st (jx_fok (by decide +kernel : decode (jx_mb 116) 158 = .ok (.iload 9, 2))) rfl rfl rfl
  · exact fun d lv st M Q x z => jx_ev_st (jx_fok (by decide +kernel : decode (jx_mb 116) 160 = .ok (.iadd, 1))) rfl rfl rfl
  · exact fun d lv st M Q => jx_ev_st (jx_fok (by decide +kernel : decode (jx_mb 116) 161 = .ok (.iconst 1, 1))) rfl rfl rfl
  · exact fun d lv st M Q x z => jx_ev_st (jx_fok (by decide +kernel : decode (jx_mb 116) 162 = .ok (.isub, 1))) rfl rfl rfl
  · exact fun d lv st M Q x a ha => jx_k_al (jx_fok (by decide +kernel : decode (jx_mb 116) 163 = .ok (.iaload, 1))) ha
  · exact fun d st M Q l0 l1 l2 l3 l4 l5 l6 l7 l8 l9 x => jx_ev_st (jx_fok (by decide +kernel : decode (jx_mb 116) 164 = .ok (.iload 10, 2))) rfl rfl rfl
  · exact fun d st M Q l0 l2 l3 l4 l5 l6 l7 l8 l9 l10 x => jx_ev_st (jx_fok (by decide +kernel : decode (jx_mb 116) 166 = .ok (.iload_n 1, 1))) rfl rfl rfl
  · exact fun d lv M Q a0 a1 a2 => jx_ev_ci (jx_fok (by decide +kernel : decode (jx_mb 116) 167 = .ok (.invokevirtual 170, 3))) rfl (jx_ccV (As := [.int a2, .int a1, .int a0]) (rest := []) rfl rfl rfl rfl rfl rfl) (by decide)
  · exact fun d lv st M Q x => jx_k_b1n (jx_fok (by decide +kernel : decode (jx_mb 116) 170 = .ok (.ifCond .ne 6, 3))) rfl jx_hNe
  · exact fun d st M Q l0 l1 l2 l3 l4 l5 l6 l7 l8 l10 x => jx_ev_st (jx_fok (by decide +kernel : decode (jx_mb 116) 173 = .ok (.iload 9, 2))) rfl rfl rfl
  · exact fun d lv M Q x => jx_k_ri (jx_fok (by decide +kernel : decode (jx_mb 116) 175 = .ok (.ireturn, 1))) rfl
  · exact fun d st M Q l0 l1 l2 l3 l4 l5 l6 l7 l9 l10 x => jx_ev_st (jx_fok (by decide +kernel : decode (jx_mb 116) 176 = .ok (.iload 8, 2))) rfl rfl rfl
  · exact fun d lv st M Q => jx_ev_st (jx_fok (by decide +kernel : decode (jx_mb 116) 178 = .ok (.iconst 1, 1))) rfl rfl rfl
  · exact fun d st M Q l0 l1 l2 l3 l4 l5 l6 l7 l8 l9 x => jx_ev_st (jx_fok (by decide +kernel : decode (jx_mb 116) 179 = .ok (.iload 10, 2))) rfl rfl rfl
  · exact fun d lv st M Q x z => jx_ev_st (jx_fok (by decide +kernel : decode (jx_mb 116) 181 = .ok (.ishl, 1))) rfl rfl rfl
  · exact fun d lv st M Q x z => jx_ev_st (jx_fok (by decide +kernel : decode (jx_mb 116) 182 = .ok (.ior, 1))) rfl rfl rfl
  · exact fun d st M Q l0 l1 l2 l3 l4 l5 l6 l7 l8 l9 l10 x => jx_ev_st (jx_fok (by decide +kernel : decode (jx_mb 116) 183 = .ok (.istore 8, 2))) rfl rfl rfl
  · exact fun d st M Q l0 l1 l2 l3 l4 l5 l6 l7 l8 l10 x => jx_ev_st (jx_fok (by decide +kernel : decode (jx_mb 116) 185 = .ok (.iinc 9 1, 3))) rfl rfl rfl
  · exact fun d lv st M Q => jx_k_goto (jx_fok (by decide +kernel : decode (jx_mb 116) 188 = .ok (.goto (-72), 3))) rfl
  · exact fun d lv st M Q => jx_ev_st (jx_fok (by decide +kernel : decode (jx_mb 116) 191 = .ok (.bipush (-9), 2))) rfl rfl rfl
  · exact fun d lv M Q x => jx_k_ri (jx_fok (by decide +kernel : decode (jx_mb 116) 193 = .ok (.ireturn, 1))) rfl
theorem eX8_shelf_78 (d : Nat) (st : List Value) (M : jx_M) (Q : jx_Po) (l0 l1 l2 l3 l4 l5 l6 l7 l9 l10 : Option Value) (x : Int32) : jx_Ev d 116 78 [l0, l1, l2, l3, l4, l5, l6, l7, some (.int x), l9, l10] st M Q ↔ jx_Ev d 116 80 [l0, l1, l2, l3, l4, l5, l6, l7, some (.int x), l9, l10] (.int x :: st) M Q := jx_ev_st (jx_fok (by decide +kernel : decode (jx_mb 116) 78 = .ok (.iload 8, 2))) rfl rfl rfl
theorem eX8_shelf_116 (d : Nat) (st : List Value) (M : jx_M) (Q : jx_Po) (l0 l1 l2 l3 l4 l5 l6 l7 l8 l10 : Option Value) (x : Int32) : jx_Ev d 116 116 [l0, l1, l2, l3, l4, l5, l6, l7, l8, some (.int x), l10] st M Q ↔ jx_Ev d 116 118 [l0, l1, l2, l3, l4, l5, l6, l7, l8, some (.int x), l10] (.int x :: st) M Q := jx_ev_st (jx_fok (by decide +kernel : decode (jx_mb 116) 116 = .ok (.iload 9, 2))) rfl rfl rfl
theorem kX8_shelf (d : Nat) (M : jx_M) (q : Int32 → jx_M → Prop) (a0 a1 a2 a3 a4 a5 : Value) : jx_I d 116 [a0, a1, a2, a3, a4, a5] M q ↔ jx_Ev d 116 0 [some a0, some a1, some a2, some a3, some a4, some a5, none, none, none, none, none] [] M (jx_qI q) := Iff.rfl
set_option maxRecDepth 100000 in
theorem eX8_mayStand :
  (∀ (d : Nat) (lv : List (Option Value)) (st : List Value) (M : jx_M) (Q : jx_Po), jx_Ev d 117 0 lv st M Q ↔ jx_Ev d 117 1 lv (.int 0 :: st) M Q) ∧
  (∀ (d : Nat) (st : List Value) (M : jx_M) (Q : jx_Po) (l0 l1 l2 l3 : Option Value) (x : Int32), jx_Ev d 117 1 [l0, l1, l2, l3] (.int x :: st) M Q ↔ jx_Ev d 117 2 [l0, l1, l2, some (.int x)] st M Q) ∧
  (∀ (d : Nat) (st : List Value) (M : jx_M) (Q : jx_Po) (l0 l2 l3 : Option Value) (x : Int32), jx_Ev d 117 3 [l0, some (.int x), l2, l3] st M Q ↔ jx_Ev d 117 4 [l0, some (.int x), l2, l3] (.int x :: st) M Q) ∧
  (∀ (d : Nat) (lv : List (Option Value)) (st : List Value) (M : jx_M) (Q : jx_Po) (x z : Int32), jx_Ev d 117 4 lv (.int z :: .int x :: st) M Q ↔ (if z ≤ x then jx_Ev d 117 30 lv st M Q else jx_Ev d 117 7 lv st M Q)) ∧
  (∀ (d : Nat) (st : List Value) (M : jx_M) (Q : jx_Po) (l1 l2 l3 : Option Value) (x : Nat), jx_Ev d 117 7 [some (.ref x), l1, l2, l3] st M Q ↔ jx_Ev d 117 8 [some (.ref x), l1, l2, l3] (.ref x :: st) M Q) ∧
  (∀ (d : Nat) (lv : List (Option Value)) (st : List Value) (M : jx_M) (Q : jx_Po), jx_Ev d 117 8 lv (.ref 36 :: st) M Q ↔ jx_Ev d 117 11 lv (.ref 52 :: st) M Q) ∧
  (∀ (d : Nat) (st : List Value) (M : jx_M) (Q : jx_Po) (l0 l1 l2 : Option Value) (x : Int32), jx_Ev d 117 11 [l0, l1, l2, some (.int x)] st M Q ↔ jx_Ev d 117 12 [l0, l1, l2, some (.int x)] (.int x :: st) M Q) ∧
  (∀ (d : Nat) (lv : List (Option Value)) (st : List Value) (M : jx_M) (Q : jx_Po) (x : Int32) (a : Nat) (ha : jx_cl a = 9), jx_Ev d 117 12 lv (.int x :: .ref a :: st) M Q ↔ (vp_in x (jx_sz a) ∧ jx_Ev d 117 13 lv (.int (M a x.toNatClampNeg) :: st) M Q)) ∧
  (∀ (d : Nat) (st : List Value) (M : jx_M) (Q : jx_Po) (l1 l2 l3 : Option Value) (x : Nat), jx_Ev d 117 13 [some (.ref x), l1, l2, l3] st M Q ↔ jx_Ev d 117 14 [some (.ref x), l1, l2, l3] (.ref x :: st) M Q) ∧
  (∀ (d : Nat) (lv : List (Option Value)) (st : List Value) (M : jx_M) (Q : jx_Po), jx_Ev d 117 14 lv (.ref 36 :: st) M Q ↔ jx_Ev d 117 17 lv (.ref 52 :: st) M Q) ∧
  (∀ (d : Nat) (st : List Value) (M : jx_M) (Q : jx_Po) (l0 l2 l3 : Option Value) (x : Int32), jx_Ev d 117 17 [l0, some (.int x), l2, l3] st M Q ↔ jx_Ev d 117 18 [l0, some (.int x), l2, l3] (.int x :: st) M Q) ∧
  (∀ (d : Nat) (lv : List (Option Value)) (st : List Value) (M : jx_M) (Q : jx_Po) (x : Int32) (a : Nat) (ha : jx_cl a = 9), jx_Ev d 117 18 lv (.int x :: .ref a :: st) M Q ↔ (vp_in x (jx_sz a) ∧ jx_Ev d 117 19 lv (.int (M a x.toNatClampNeg) :: st) M Q)) ∧
  (∀ (d : Nat) (lv : List (Option Value)) (st : List Value) (M : jx_M) (Q : jx_Po) (x z : Int32), jx_Ev d 117 19 lv (.int z :: .int x :: st) M Q ↔ (if x = z then jx_Ev d 117 22 lv st M Q else jx_Ev d 117 24 lv st M Q)) ∧
  (∀ (d : Nat) (lv : List (Option Value)) (st : List Value) (M : jx_M) (Q : jx_Po), jx_Ev d 117 22 lv st M Q ↔ jx_Ev d 117 23 lv (.int 0 :: st) M Q) ∧
  (∀ (d : Nat) (lv : List (Option Value)) (M : jx_M) (Q : jx_Po) (x : Int32), jx_Ev d 117 23 lv [.int x] M Q ↔ ((x = 0 ∨ x = 1) ∧ Q [.int x] M)) ∧
  (∀ (d : Nat) (st : List Value) (M : jx_M) (Q : jx_Po) (l0 l1 l2 : Option Value) (x : Int32), jx_Ev d 117 24 [l0, l1, l2, some (.int x)] st M Q ↔ jx_Ev d 117 27 [l0, l1, l2, some (.int (x + 1))] st M Q) ∧
  (∀ (d : Nat) (lv : List (Option Value)) (st : List Value) (M : jx_M) (Q : jx_Po), jx_Ev d 117 27 lv st M Q ↔ jx_Ev d 117 2 lv st M Q) ∧
  (∀ (d : Nat) (st : List Value) (M : jx_M) (Q : jx_Po) (l0 l2 l3 : Option Value) (x : Int32), jx_Ev d 117 30 [l0, some (.int x), l2, l3] st M Q ↔ jx_Ev d 117 31 [l0, some (.int x), l2, l3] (.int x :: st) M Q) ∧
  (∀ (d : Nat) (lv : List (Option Value)) (st : List Value) (M : jx_M) (Q : jx_Po) (x : Int32), jx_Ev d 117 31 lv (.int x :: st) M Q ↔ (if x = 0 then jx_Ev d 117 56 lv st M Q else jx_Ev d 117 34 lv st M Q)) ∧
  (∀ (d : Nat) (st : List Value) (M : jx_M) (Q : jx_Po) (l1 l2 l3 : Option Value) (x : Nat), jx_Ev d 117 34 [some (.ref x), l1, l2, l3] st M Q ↔ jx_Ev d 117 35 [some (.ref x), l1, l2, l3] (.ref x :: st) M Q) ∧
  (∀ (d : Nat) (st : List Value) (M : jx_M) (Q : jx_Po) (l1 l2 l3 : Option Value) (x : Nat), jx_Ev d 117 35 [some (.ref x), l1, l2, l3] st M Q ↔ jx_Ev d 117 36 [some (.ref x), l1, l2, l3] (.ref x :: st) M Q) ∧
  (∀ (d : Nat) (lv : List (Option Value)) (st : List Value) (M : jx_M) (Q : jx_Po), jx_Ev d 117 36 lv (.ref 36 :: st) M Q ↔ jx_Ev d 117 39 lv (.ref 52 :: st) M Q) ∧
  (∀ (d : Nat) (st : List Value) (M : jx_M) (Q : jx_Po) (l0 l2 l3 : Option Value) (x : Int32), jx_Ev d 117 39 [l0, some (.int x), l2, l3] st M Q ↔ jx_Ev d 117 40 [l0, some (.int x), l2, l3] (.int x :: st) M Q) ∧
  (∀ (d : Nat) (lv : List (Option Value)) (st : List Value) (M : jx_M) (Q : jx_Po), jx_Ev d 117 40 lv st M Q ↔ jx_Ev d 117 41 lv (.int 1 :: st) M Q) ∧
  (∀ (d : Nat) (lv : List (Option Value)) (st : List Value) (M : jx_M) (Q : jx_Po) (x z : Int32), jx_Ev d 117 41 lv (.int z :: .int x :: st) M Q ↔ jx_Ev d 117 42 lv (.int (x - z) :: st) M Q) ∧
  (∀ (d : Nat) (lv : List (Option Value)) (st : List Value) (M : jx_M) (Q : jx_Po) (x : Int32) (a : Nat) (ha : jx_cl a = 9), jx_Ev d 117 42 lv (.int x :: .ref a :: st) M Q ↔ (vp_in x (jx_sz a) ∧ jx_Ev d 117 43 lv (.int (M a x.toNatClampNeg) :: st) M Q)) ∧
  (∀ (d : Nat) (st : List Value) (M : jx_M) (Q : jx_Po) (l1 l2 l3 : Option Value) (x : Nat), jx_Ev d 117 43 [some (.ref x), l1, l2, l3] st M Q ↔ jx_Ev d 117 44 [some (.ref x), l1, l2, l3] (.ref x :: st) M Q) ∧
  (∀ (d : Nat) (lv : List (Option Value)) (st : List Value) (M : jx_M) (Q : jx_Po), jx_Ev d 117 44 lv (.ref 36 :: st) M Q ↔ jx_Ev d 117 47 lv (.ref 52 :: st) M Q) ∧
  (∀ (d : Nat) (st : List Value) (M : jx_M) (Q : jx_Po) (l0 l2 l3 : Option Value) (x : Int32), jx_Ev d 117 47 [l0, some (.int x), l2, l3] st M Q ↔ jx_Ev d 117 48 [l0, some (.int x), l2, l3] (.int x :: st) M Q) ∧
  (∀ (d : Nat) (lv : List (Option Value)) (st : List Value) (M : jx_M) (Q : jx_Po) (x : Int32) (a : Nat) (ha : jx_cl a = 9), jx_Ev d 117 48 lv (.int x :: .ref a :: st) M Q ↔ (vp_in x (jx_sz a) ∧ jx_Ev d 117 49 lv (.int (M a x.toNatClampNeg) :: st) M Q)) ∧
  (∀ (d : Nat) (st : List Value) (M : jx_M) (Q : jx_Po) (l0 l1 l3 : Option Value) (x : Int32), jx_Ev d 117 49 [l0, l1, some (.int x), l3] st M Q ↔ jx_Ev d 117 50 [l0, l1, some (.int x), l3] (.int x :: st) M Q) ∧
  (∀ (d : Nat) (lv : List (Option Value)) (M : jx_M) (Q : jx_Po) (a0 : Int32) (a1 : Int32) (a2 : Int32), jx_Ev (d + 1) 117 50 lv [.int a0, .int a1, .int a2, .ref 36] M Q ↔ jx_I d 115 [.ref 36, .int a2, .int a1, .int a0] M (fun x M => jx_Ev (d + 1) 117 53 lv (.int x :: []) M Q)) ∧
  (∀ (d : Nat) (lv : List (Option Value)) (st : List Value) (M : jx_M) (Q : jx_Po) (x : Int32), jx_Ev d 117 53 lv (.int x :: st) M Q ↔ (if x = 0 then jx_Ev d 117 60 lv st M Q else jx_Ev d 117 56 lv st M Q)) ∧
  (∀ (d : Nat) (lv : List (Option Value)) (st : List Value) (M : jx_M) (Q : jx_Po), jx_Ev d 117 56 lv st M Q ↔ jx_Ev d 117 57 lv (.int 1 :: st) M Q) ∧
  (∀ (d : Nat) (lv : List (Option Value)) (st : List Value) (M : jx_M) (Q : jx_Po), jx_Ev d 117 57 lv st M Q ↔ jx_Ev d 117 61 lv st M Q) ∧
  (∀ (d : Nat) (lv : List (Option Value)) (st : List Value) (M : jx_M) (Q : jx_Po), jx_Ev d 117 60 lv st M Q ↔ jx_Ev d 117 61 lv (.int 0 :: st) M Q) ∧
  (∀ (d : Nat) (lv : List (Option Value)) (M : jx_M) (Q : jx_Po) (x : Int32), jx_Ev d 117 61 lv [.int x] M Q ↔ ((x = 0 ∨ x = 1) ∧ Q [.int x] M)) := by
  refine ⟨?_, ?_, ?_, ?_, ?_, ?_, ?_, ?_, ?_, ?_, ?_, ?_, ?_, ?_, ?_, ?_, ?_, ?_, ?_, ?_, ?_, ?_, ?_, ?_, ?_, ?_, ?_, ?_, ?_, ?_, ?_, ?_, ?_, ?_, ?_, ?_, ?_⟩
  · exact fun d lv st M Q => jx_ev_st (jx_fok (by decide +kernel : decode (jx_mb 117) 0 = .ok (.iconst 0, 1))) rfl rfl rfl
  · exact fun d st M Q l0 l1 l2 l3 x => jx_ev_st (jx_fok (by decide +kernel : decode (jx_mb 117) 1 = .ok (.istore_n 3, 1))) rfl rfl rfl
  · exact fun d st M Q l0 l2 l3 x => jx_ev_st (jx_fok (by decide +kernel : decode (jx_mb 117) 3 = .ok (.iload_n 1, 1))) rfl rfl rfl
  · exact fun d lv st M Q x z => jx_k_b2 (jx_fok (by decide +kernel : decode (jx_mb 117) 4 = .ok (.if_icmp .ge 26, 3))) rfl jx_hGe
  · exact fun d st M Q l1 l2 l3 x => jx_ev_st (jx_fok (by decide +kernel : decode (jx_mb 117) 7 = .ok (.aload_n 0, 1))) rfl rfl rfl
  · exact fun d lv st M Q => jx_k_gf (jx_fok (by decide +kernel : decode (jx_mb 117) 8 = .ok (.getfield 55, 3))) rfl rfl rfl
  · exact fun d st M Q l0 l1 l2 x => jx_ev_st (jx_fok (by decide +kernel : decode (jx_mb 117) 11 = .ok (.iload_n 3, 1))) rfl rfl rfl
  · exact fun d lv st M Q x a ha => jx_k_al (jx_fok (by decide +kernel : decode (jx_mb 117) 12 = .ok (.iaload, 1))) ha
  · exact fun d st M Q l1 l2 l3 x => jx_ev_st (jx_fok (by decide +kernel : decode (jx_mb 117) 13 = .ok (.aload_n 0, 1))) rfl rfl rfl
  · exact fun d lv st M Q => jx_k_gf (jx_fok (by decide +kernel : decode (jx_mb 117) 14 = .ok (.getfield 55, 3))) rfl rfl rfl
  · exact fun d st M Q l0 l2 l3 x => jx_ev_st (jx_fok (by decide +kernel : decode (jx_mb 117) 17 = .ok (.iload_n 1, 1))) rfl rfl rfl
  · exact fun d lv st M Q x a ha => jx_k_al (jx_fok (by decide +kernel : decode (jx_mb 117) 18 = .ok (.iaload, 1))) ha
  · exact fun d lv st M Q x z => jx_k_b2n (jx_fok (by decide +kernel : decode (jx_mb 117) 19 = .ok (.if_icmp .ne 5, 3))) rfl jx_hNe
  · exact fun d lv st M Q => jx_ev_st (jx_fok (by decide +kernel : decode (jx_mb 117) 22 = .ok (.iconst 0, 1))) rfl rfl rfl
  · exact fun d lv M Q x => jx_k_rz (jx_fok (by decide +kernel : decode (jx_mb 117) 23 = .ok (.ireturn, 1))) rfl
  · exact fun d st M Q l0 l1 l2 x => jx_ev_st (jx_fok (by decide +kernel : decode (jx_mb 117) 24 = .ok (.iinc 3 1, 3))) rfl rfl rfl
  · exact fun d lv st M Q => jx_k_goto (jx_fok (by decide +kernel : decode (jx_mb 117) 27 = .ok (.goto (-25), 3))) rfl
  · exact fun d st M Q l0 l2 l3 x => jx_ev_st (jx_fok (by decide +kernel : decode (jx_mb 117) 30 = .ok (.iload_n 1, 1))) rfl rfl rfl
  · exact fun d lv st M Q x => jx_k_b1 (jx_fok (by decide +kernel : decode (jx_mb 117) 31 = .ok (.ifCond .eq 25, 3))) rfl jx_hEq
  · exact fun d st M Q l1 l2 l3 x => jx_ev_st (jx_fok (by decide +kernel : decode (jx_mb 117) 34 = .ok (.aload_n 0, 1))) rfl rfl rfl
  · exact fun d st M Q l1 l2 l3 x => jx_ev_st (jx_fok (by decide +kernel : decode (jx_mb 117) 35 = .ok (.aload_n 0, 1))) rfl rfl rfl
  · exact fun d lv st M Q => jx_k_gf (jx_fok (by decide +kernel : decode (jx_mb 117) 36 = .ok (.getfield 55, 3))) rfl rfl rfl
  · exact fun d st M Q l0 l2 l3 x => jx_ev_st (jx_fok (by decide +kernel : decode (jx_mb 117) 39 = .ok (.iload_n 1, 1))) rfl rfl rfl
  · exact fun d lv st M Q => jx_ev_st (jx_fok (by decide +kernel : decode (jx_mb 117) 40 = .ok (.iconst 1, 1))) rfl rfl rfl
  · exact fun d lv st M Q x z => jx_ev_st (jx_fok (by decide +kernel : decode (jx_mb 117) 41 = .ok (.isub, 1))) rfl rfl rfl
  · exact fun d lv st M Q x a ha => jx_k_al (jx_fok (by decide +kernel : decode (jx_mb 117) 42 = .ok (.iaload, 1))) ha
  · exact fun d st M Q l1 l2 l3 x => jx_ev_st (jx_fok (by decide +kernel : decode (jx_mb 117) 43 = .ok (.aload_n 0, 1))) rfl rfl rfl
  · exact fun d lv st M Q => jx_k_gf (jx_fok (by decide +kernel : decode (jx_mb 117) 44 = .ok (.getfield 55, 3))) rfl rfl rfl
  · exact fun d st M Q l0 l2 l3 x => jx_ev_st (jx_fok (by decide +kernel : decode (jx_mb 117) 47 = .ok (.iload_n 1, 1))) rfl rfl rfl
  · exact fun d lv st M Q x a ha => jx_k_al (jx_fok (by decide +kernel : decode (jx_mb 117) 48 = .ok (.iaload, 1))) ha
  · exact fun d st M Q l0 l1 l3 x => jx_ev_st (jx_fok (by decide +kernel : decode (jx_mb 117) 49 = .ok (.iload_n 2, 1))) rfl rfl rfl
  · exact fun d lv M Q a0 a1 a2 => jx_ev_ci (jx_fok (by decide +kernel : decode (jx_mb 117) 50 = .ok (.invokevirtual 170, 3))) rfl (jx_ccV (As := [.int a2, .int a1, .int a0]) (rest := []) rfl rfl rfl rfl rfl rfl) (by decide)
  · exact fun d lv st M Q x => jx_k_b1 (jx_fok (by decide +kernel : decode (jx_mb 117) 53 = .ok (.ifCond .eq 7, 3))) rfl jx_hEq
  · exact fun d lv st M Q => jx_ev_st (jx_fok (by decide +kernel : decode (jx_mb 117) 56 = .ok (.iconst 1, 1))) rfl rfl rfl
  · exact fun d lv st M Q => jx_k_goto (jx_fok (by decide +kernel : decode (jx_mb 117) 57 = .ok (.goto 4, 3))) rfl
  · exact fun d lv st M Q => jx_ev_st (jx_fok (by decide +kernel : decode (jx_mb 117) 60 = .ok (.iconst 0, 1))) rfl rfl rfl
  · exact fun d lv M Q x => jx_k_rz (jx_fok (by decide +kernel : decode (jx_mb 117) 61 = .ok (.ireturn, 1))) rfl
theorem eX8_mayStand_2 (d : Nat) (st : List Value) (M : jx_M) (Q : jx_Po) (l0 l1 l2 : Option Value) (x : Int32) : jx_Ev d 117 2 [l0, l1, l2, some (.int x)] st M Q ↔ jx_Ev d 117 3 [l0, l1, l2, some (.int x)] (.int x :: st) M Q := jx_ev_st (jx_fok (by decide +kernel : decode (jx_mb 117) 2 = .ok (.iload_n 3, 1))) rfl rfl rfl
theorem kX8_mayStand (d : Nat) (M : jx_M) (q : Int32 → jx_M → Prop) (a0 a1 a2 : Value) : jx_I d 117 [a0, a1, a2] M q ↔ jx_Ev d 117 0 [some a0, some a1, some a2, none] [] M (jx_qI q) := Iff.rfl
set_option maxRecDepth 100000 in
theorem eX8_findOrder :
  (∀ (d : Nat) (lv : List (Option Value)) (st : List Value) (M : jx_M) (Q : jx_Po), jx_Ev d 118 0 lv st M Q ↔ jx_Ev d 118 1 lv (.int 0 :: st) M Q) ∧
  (∀ (d : Nat) (st : List Value) (M : jx_M) (Q : jx_Po) (l0 l1 l2 : Option Value) (x : Int32), jx_Ev d 118 1 [l0, l1, l2] (.int x :: st) M Q ↔ jx_Ev d 118 2 [l0, l1, some (.int x)] st M Q) ∧
  (∀ (d : Nat) (st : List Value) (M : jx_M) (Q : jx_Po) (l1 l2 : Option Value) (x : Nat), jx_Ev d 118 2 [some (.ref x), l1, l2] st M Q ↔ jx_Ev d 118 3 [some (.ref x), l1, l2] (.ref x :: st) M Q) ∧
  (∀ (d : Nat) (lv : List (Option Value)) (st : List Value) (M : jx_M) (Q : jx_Po), jx_Ev d 118 3 lv (.ref 36 :: st) M Q ↔ jx_Ev d 118 6 lv (.ref 52 :: st) M Q) ∧
  (∀ (d : Nat) (lv : List (Option Value)) (st : List Value) (M : jx_M) (Q : jx_Po), jx_Ev d 118 6 lv st M Q ↔ jx_Ev d 118 7 lv (.int 0 :: st) M Q) ∧
  (∀ (d : Nat) (lv : List (Option Value)) (st : List Value) (M : jx_M) (Q : jx_Po), jx_Ev d 118 7 lv st M Q ↔ jx_Ev d 118 9 lv (.int (-9) :: st) M Q) ∧
  (∀ (d : Nat) (lv : List (Option Value)) (st : List Value) (M : jx_M) (Q : jx_Po) (x z : Int32) (a : Nat) (ha : jx_cl a = 9), jx_Ev d 118 9 lv (.int z :: .int x :: .ref a :: st) M Q ↔ (vp_in x (jx_sz a) ∧ jx_Ev d 118 10 lv st (jx_up M a x.toNatClampNeg z) Q)) ∧
  (∀ (d : Nat) (lv : List (Option Value)) (st : List Value) (M : jx_M) (Q : jx_Po) (x : Int32), jx_Ev d 118 11 lv (.int x :: st) M Q ↔ (if x < 0 then jx_Ev d 118 101 lv st M Q else jx_Ev d 118 14 lv st M Q)) ∧
  (∀ (d : Nat) (st : List Value) (M : jx_M) (Q : jx_Po) (l0 l1 : Option Value) (x : Int32), jx_Ev d 118 14 [l0, l1, some (.int x)] st M Q ↔ jx_Ev d 118 15 [l0, l1, some (.int x)] (.int x :: st) M Q) ∧
  (∀ (d : Nat) (st : List Value) (M : jx_M) (Q : jx_Po) (l1 l2 : Option Value) (x : Nat), jx_Ev d 118 15 [some (.ref x), l1, l2] st M Q ↔ jx_Ev d 118 16 [some (.ref x), l1, l2] (.ref x :: st) M Q) ∧
  (∀ (d : Nat) (lv : List (Option Value)) (st : List Value) (M : jx_M) (Q : jx_Po), jx_Ev d 118 16 lv (.ref 36 :: st) M Q ↔ jx_Ev d 118 19 lv (.int (M 36 6) :: st) M Q) ∧
  (∀ (d : Nat) (lv : List (Option Value)) (st : List Value) (M : jx_M) (Q : jx_Po) (x z : Int32), jx_Ev d 118 19 lv (.int z :: .int x :: st) M Q ↔ (if z ≤ x then jx_Ev d 118 101 lv st M Q else jx_Ev d 118 22 lv st M Q)) ∧
  (∀ (d : Nat) (st : List Value) (M : jx_M) (Q : jx_Po) (l1 l2 : Option Value) (x : Nat), jx_Ev d 118 22 [some (.ref x), l1, l2] st M Q ↔ jx_Ev d 118 23 [some (.ref x), l1, l2] (.ref x :: st) M Q) ∧
  (∀ (d : Nat) (lv : List (Option Value)) (st : List Value) (M : jx_M) (Q : jx_Po), jx_Ev d 118 23 lv (.ref 36 :: st) M Q ↔ jx_Ev d 118 26 lv (.ref 52 :: st) M Q) ∧
  (∀ (d : Nat) (st : List Value) (M : jx_M) (Q : jx_Po) (l0 l1 : Option Value) (x : Int32), jx_Ev d 118 26 [l0, l1, some (.int x)] st M Q ↔ jx_Ev d 118 27 [l0, l1, some (.int x)] (.int x :: st) M Q) ∧
  (∀ (d : Nat) (st : List Value) (M : jx_M) (Q : jx_Po) (l1 l2 : Option Value) (x : Nat), jx_Ev d 118 27 [some (.ref x), l1, l2] st M Q ↔ jx_Ev d 118 28 [some (.ref x), l1, l2] (.ref x :: st) M Q) ∧
  (∀ (d : Nat) (lv : List (Option Value)) (st : List Value) (M : jx_M) (Q : jx_Po), jx_Ev d 118 28 lv (.ref 36 :: st) M Q ↔ jx_Ev d 118 31 lv (.ref 52 :: st) M Q) ∧
  (∀ (d : Nat) (st : List Value) (M : jx_M) (Q : jx_Po) (l0 l1 : Option Value) (x : Int32), jx_Ev d 118 31 [l0, l1, some (.int x)] st M Q ↔ jx_Ev d 118 32 [l0, l1, some (.int x)] (.int x :: st) M Q) ∧
  (∀ (d : Nat) (lv : List (Option Value)) (st : List Value) (M : jx_M) (Q : jx_Po) (x : Int32) (a : Nat) (ha : jx_cl a = 9), jx_Ev d 118 32 lv (.int x :: .ref a :: st) M Q ↔ (vp_in x (jx_sz a) ∧ jx_Ev d 118 33 lv (.int (M a x.toNatClampNeg) :: st) M Q)) ∧
  (∀ (d : Nat) (lv : List (Option Value)) (st : List Value) (M : jx_M) (Q : jx_Po), jx_Ev d 118 33 lv st M Q ↔ jx_Ev d 118 35 lv (.int (-9) :: st) M Q) ∧
  (∀ (d : Nat) (lv : List (Option Value)) (st : List Value) (M : jx_M) (Q : jx_Po) (x z : Int32), jx_Ev d 118 35 lv (.int z :: .int x :: st) M Q ↔ (if x = z then jx_Ev d 118 38 lv st M Q else jx_Ev d 118 42 lv st M Q)) ∧
  (∀ (d : Nat) (lv : List (Option Value)) (st : List Value) (M : jx_M) (Q : jx_Po), jx_Ev d 118 38 lv st M Q ↔ jx_Ev d 118 39 lv (.int 0 :: st) M Q) ∧
  (∀ (d : Nat) (lv : List (Option Value)) (st : List Value) (M : jx_M) (Q : jx_Po), jx_Ev d 118 39 lv st M Q ↔ jx_Ev d 118 50 lv st M Q) ∧
  (∀ (d : Nat) (st : List Value) (M : jx_M) (Q : jx_Po) (l1 l2 : Option Value) (x : Nat), jx_Ev d 118 42 [some (.ref x), l1, l2] st M Q ↔ jx_Ev d 118 43 [some (.ref x), l1, l2] (.ref x :: st) M Q) ∧
  (∀ (d : Nat) (lv : List (Option Value)) (st : List Value) (M : jx_M) (Q : jx_Po), jx_Ev d 118 43 lv (.ref 36 :: st) M Q ↔ jx_Ev d 118 46 lv (.ref 52 :: st) M Q) ∧
  (∀ (d : Nat) (st : List Value) (M : jx_M) (Q : jx_Po) (l0 l1 : Option Value) (x : Int32), jx_Ev d 118 46 [l0, l1, some (.int x)] st M Q ↔ jx_Ev d 118 47 [l0, l1, some (.int x)] (.int x :: st) M Q) ∧
  (∀ (d : Nat) (lv : List (Option Value)) (st : List Value) (M : jx_M) (Q : jx_Po) (x : Int32) (a : Nat) (ha : jx_cl a = 9), jx_Ev d 118 47 lv (.int x :: .ref a :: st) M Q ↔ (vp_in x (jx_sz a) ∧ jx_Ev d 118 48 lv (.int (M a x.toNatClampNeg) :: st) M Q)) ∧
  (∀ (d : Nat) (lv : List (Option Value)) (st : List Value) (M : jx_M) (Q : jx_Po), jx_Ev d 118 48 lv st M Q ↔ jx_Ev d 118 49 lv (.int 1 :: st) M Q) ∧
  (∀ (d : Nat) (lv : List (Option Value)) (st : List Value) (M : jx_M) (Q : jx_Po) (x z : Int32), jx_Ev d 118 49 lv (.int z :: .int x :: st) M Q ↔ jx_Ev d 118 50 lv (.int (x + z) :: st) M Q) ∧
  (∀ (d : Nat) (lv : List (Option Value)) (st : List Value) (M : jx_M) (Q : jx_Po) (x z : Int32) (a : Nat) (ha : jx_cl a = 9), jx_Ev d 118 50 lv (.int z :: .int x :: .ref a :: st) M Q ↔ (vp_in x (jx_sz a) ∧ jx_Ev d 118 51 lv st (jx_up M a x.toNatClampNeg z) Q)) ∧
  (∀ (d : Nat) (st : List Value) (M : jx_M) (Q : jx_Po) (l1 l2 : Option Value) (x : Nat), jx_Ev d 118 51 [some (.ref x), l1, l2] st M Q ↔ jx_Ev d 118 52 [some (.ref x), l1, l2] (.ref x :: st) M Q) ∧
  (∀ (d : Nat) (lv : List (Option Value)) (st : List Value) (M : jx_M) (Q : jx_Po), jx_Ev d 118 52 lv (.ref 36 :: st) M Q ↔ jx_Ev d 118 55 lv (.ref 52 :: st) M Q) ∧
  (∀ (d : Nat) (st : List Value) (M : jx_M) (Q : jx_Po) (l0 l1 : Option Value) (x : Int32), jx_Ev d 118 55 [l0, l1, some (.int x)] st M Q ↔ jx_Ev d 118 56 [l0, l1, some (.int x)] (.int x :: st) M Q) ∧
  (∀ (d : Nat) (lv : List (Option Value)) (st : List Value) (M : jx_M) (Q : jx_Po) (x : Int32) (a : Nat) (ha : jx_cl a = 9), jx_Ev d 118 56 lv (.int x :: .ref a :: st) M Q ↔ (vp_in x (jx_sz a) ∧ jx_Ev d 118 57 lv (.int (M a x.toNatClampNeg) :: st) M Q)) ∧
  (∀ (d : Nat) (st : List Value) (M : jx_M) (Q : jx_Po) (l1 l2 : Option Value) (x : Nat), jx_Ev d 118 57 [some (.ref x), l1, l2] st M Q ↔ jx_Ev d 118 58 [some (.ref x), l1, l2] (.ref x :: st) M Q) ∧
  (∀ (d : Nat) (lv : List (Option Value)) (st : List Value) (M : jx_M) (Q : jx_Po), jx_Ev d 118 58 lv (.ref 36 :: st) M Q ↔ jx_Ev d 118 61 lv (.int (M 36 6) :: st) M Q) ∧
  (∀ (d : Nat) (lv : List (Option Value)) (st : List Value) (M : jx_M) (Q : jx_Po) (x z : Int32), jx_Ev d 118 61 lv (.int z :: .int x :: st) M Q ↔ (if x = z then jx_Ev d 118 64 lv st M Q else jx_Ev d 118 70 lv st M Q)) ∧
  (∀ (d : Nat) (st : List Value) (M : jx_M) (Q : jx_Po) (l0 l1 : Option Value) (x : Int32), jx_Ev d 118 64 [l0, l1, some (.int x)] st M Q ↔ jx_Ev d 118 67 [l0, l1, some (.int (x + (-1)))] st M Q) ∧
  (∀ (d : Nat) (lv : List (Option Value)) (st : List Value) (M : jx_M) (Q : jx_Po), jx_Ev d 118 67 lv st M Q ↔ jx_Ev d 118 10 lv st M Q) ∧
  (∀ (d : Nat) (st : List Value) (M : jx_M) (Q : jx_Po) (l1 l2 : Option Value) (x : Nat), jx_Ev d 118 70 [some (.ref x), l1, l2] st M Q ↔ jx_Ev d 118 71 [some (.ref x), l1, l2] (.ref x :: st) M Q) ∧
  (∀ (d : Nat) (st : List Value) (M : jx_M) (Q : jx_Po) (l0 l1 : Option Value) (x : Int32), jx_Ev d 118 71 [l0, l1, some (.int x)] st M Q ↔ jx_Ev d 118 72 [l0, l1, some (.int x)] (.int x :: st) M Q) ∧
  (∀ (d : Nat) (st : List Value) (M : jx_M) (Q : jx_Po) (l0 l2 : Option Value) (x : Int32), jx_Ev d 118 72 [l0, some (.int x), l2] st M Q ↔ jx_Ev d 118 73 [l0, some (.int x), l2] (.int x :: st) M Q) ∧
  (∀ (d : Nat) (lv : List (Option Value)) (M : jx_M) (Q : jx_Po) (a0 : Int32) (a1 : Int32), jx_Ev (d + 1) 118 73 lv [.int a0, .int a1, .ref 36] M Q ↔ jx_I d 117 [.ref 36, .int a1, .int a0] M (fun x M => jx_Ev (d + 1) 118 76 lv (.int x :: []) M Q)) ∧
  (∀ (d : Nat) (lv : List (Option Value)) (st : List Value) (M : jx_M) (Q : jx_Po) (x : Int32), jx_Ev d 118 76 lv (.int x :: st) M Q ↔ (if x = 0 then jx_Ev d 118 10 lv st M Q else jx_Ev d 118 79 lv st M Q)) ∧
  (∀ (d : Nat) (st : List Value) (M : jx_M) (Q : jx_Po) (l0 l1 : Option Value) (x : Int32), jx_Ev d 118 79 [l0, l1, some (.int x)] st M Q ↔ jx_Ev d 118 82 [l0, l1, some (.int (x + 1))] st M Q) ∧
  (∀ (d : Nat) (st : List Value) (M : jx_M) (Q : jx_Po) (l0 l1 : Option Value) (x : Int32), jx_Ev d 118 82 [l0, l1, some (.int x)] st M Q ↔ jx_Ev d 118 83 [l0, l1, some (.int x)] (.int x :: st) M Q) ∧
  (∀ (d : Nat) (st : List Value) (M : jx_M) (Q : jx_Po) (l1 l2 : Option Value) (x : Nat), jx_Ev d 118 83 [some (.ref x), l1, l2] st M Q ↔ jx_Ev d 118 84 [some (.ref x), l1, l2] (.ref x :: st) M Q) ∧
  (∀ (d : Nat) (lv : List (Option Value)) (st : List Value) (M : jx_M) (Q : jx_Po), jx_Ev d 118 84 lv (.ref 36 :: st) M Q ↔ jx_Ev d 118 87 lv (.int (M 36 6) :: st) M Q) ∧
  (∀ (d : Nat) (lv : List (Option Value)) (st : List Value) (M : jx_M) (Q : jx_Po) (x z : Int32), jx_Ev d 118 87 lv (.int z :: .int x :: st) M Q ↔ (if z ≤ x then jx_Ev d 118 10 lv st M Q else jx_Ev d 118 90 lv st M Q)) ∧
  (∀ (d : Nat) (st : List Value) (M : jx_M) (Q : jx_Po) (l1 l2 : Option Value) (x : Nat), jx_Ev d 118 90 [some (.ref x), l1, l2] st M Q ↔ jx_Ev d 118 91 [some (.ref x), l1, l2] (.ref x :: st) M Q) ∧
  (∀ (d : Nat) (lv : List (Option Value)) (st : List Value) (M : jx_M) (Q : jx_Po), jx_Ev d 118 91 lv (.ref 36 :: st) M Q ↔ jx_Ev d 118 94 lv (.ref 52 :: st) M Q) ∧
  (∀ (d : Nat) (st : List Value) (M : jx_M) (Q : jx_Po) (l0 l1 : Option Value) (x : Int32), jx_Ev d 118 94 [l0, l1, some (.int x)] st M Q ↔ jx_Ev d 118 95 [l0, l1, some (.int x)] (.int x :: st) M Q) ∧
  (∀ (d : Nat) (lv : List (Option Value)) (st : List Value) (M : jx_M) (Q : jx_Po), jx_Ev d 118 95 lv st M Q ↔ jx_Ev d 118 97 lv (.int (-9) :: st) M Q) ∧
  (∀ (d : Nat) (lv : List (Option Value)) (st : List Value) (M : jx_M) (Q : jx_Po) (x z : Int32) (a : Nat) (ha : jx_cl a = 9), jx_Ev d 118 97 lv (.int z :: .int x :: .ref a :: st) M Q ↔ (vp_in x (jx_sz a) ∧ jx_Ev d 118 98 lv st (jx_up M a x.toNatClampNeg z) Q)) ∧
  (∀ (d : Nat) (lv : List (Option Value)) (st : List Value) (M : jx_M) (Q : jx_Po), jx_Ev d 118 98 lv st M Q ↔ jx_Ev d 118 10 lv st M Q) ∧
  (∀ (d : Nat) (st : List Value) (M : jx_M) (Q : jx_Po) (l0 l1 : Option Value) (x : Int32), jx_Ev d 118 101 [l0, l1, some (.int x)] st M Q ↔ jx_Ev d 118 102 [l0, l1, some (.int x)] (.int x :: st) M Q) ∧
  (∀ (d : Nat) (st : List Value) (M : jx_M) (Q : jx_Po) (l1 l2 : Option Value) (x : Nat), jx_Ev d 118 102 [some (.ref x), l1, l2] st M Q ↔ jx_Ev d 118 103 [some (.ref x), l1, l2] (.ref x :: st) M Q) ∧
  (∀ (d : Nat) (lv : List (Option Value)) (st : List Value) (M : jx_M) (Q : jx_Po), jx_Ev d 118 103 lv (.ref 36 :: st) M Q ↔ jx_Ev d 118 106 lv (.int (M 36 6) :: st) M Q) ∧
  (∀ (d : Nat) (lv : List (Option Value)) (st : List Value) (M : jx_M) (Q : jx_Po) (x z : Int32), jx_Ev d 118 106 lv (.int z :: .int x :: st) M Q ↔ (if x = z then jx_Ev d 118 109 lv st M Q else jx_Ev d 118 113 lv st M Q)) ∧
  (∀ (d : Nat) (lv : List (Option Value)) (st : List Value) (M : jx_M) (Q : jx_Po), jx_Ev d 118 109 lv st M Q ↔ jx_Ev d 118 110 lv (.int 1 :: st) M Q) ∧
  (∀ (d : Nat) (lv : List (Option Value)) (st : List Value) (M : jx_M) (Q : jx_Po), jx_Ev d 118 110 lv st M Q ↔ jx_Ev d 118 114 lv st M Q) ∧
  (∀ (d : Nat) (lv : List (Option Value)) (st : List Value) (M : jx_M) (Q : jx_Po), jx_Ev d 118 113 lv st M Q ↔ jx_Ev d 118 114 lv (.int 0 :: st) M Q) ∧
  (∀ (d : Nat) (lv : List (Option Value)) (M : jx_M) (Q : jx_Po) (x : Int32), jx_Ev d 118 114 lv [.int x] M Q ↔ ((x = 0 ∨ x = 1) ∧ Q [.int x] M)) := by
  refine ⟨?_, ?_, ?_, ?_, ?_, ?_, ?_, ?_, ?_, ?_, ?_, ?_, ?_, ?_, ?_, ?_, ?_, ?_, ?_, ?_, ?_, ?_, ?_, ?_, ?_, ?_, ?_, ?_, ?_, ?_, ?_, ?_, ?_, ?_, ?_, ?_, ?_, ?_, ?_, ?_, ?_, ?_, ?_, ?_, ?_, ?_, ?_, ?_, ?_, ?_, ?_, ?_, ?_, ?_, ?_, ?_, ?_, ?_, ?_, ?_, ?_, ?_, ?_⟩
  · exact fun d lv st M Q => jx_ev_st (jx_fok (by decide +kernel : decode (jx_mb 118) 0 = .ok (.iconst 0, 1))) rfl rfl rfl
  · exact fun d st M Q l0 l1 l2 x => jx_ev_st (jx_fok (by decide +kernel : decode (jx_mb 118) 1 = .ok (.istore_n 2, 1))) rfl rfl rfl
  · exact fun d st M Q l1 l2 x => jx_ev_st (jx_fok (by decide +kernel : decode (jx_mb 118) 2 = .ok (.aload_n 0, 1))) rfl rfl rfl
  · exact fun d lv st M Q => jx_k_gf (jx_fok (by decide +kernel : decode (jx_mb 118) 3 = .ok (.getfield 55, 3))) rfl rfl rfl
  · exact fun d lv st M Q => jx_ev_st (jx_fok (by decide +kernel : decode (jx_mb 118) 6 = .ok (.iconst 0, 1))) rfl rfl rfl
  · exact fun d lv st M Q => jx_ev_st (jx_fok (by decide +kernel : decode (jx_mb 118) 7 = .ok (.bipush (-9), 2))) rfl rfl rfl
  · exact fun d lv st M Q x z a ha => jx_k_as (jx_fok (by decide +kernel : decode (jx_mb 118) 9 = .ok (.iastore, 1))) ha
  · exact fun d lv st M Q x => jx_k_b1 (jx_fok (by decide +kernel : decode (jx_mb 118) 11 = .ok (.ifCond .lt 90, 3))) rfl jx_hLt
  · exact fun d st M Q l0 l1 x => jx_ev_st (jx_fok (by decide +kernel : decode (jx_mb 118) 14 = .ok (.iload_n 2, 1))) rfl rfl rfl
  · exact fun d st M Q l1 l2 x => jx_ev_st (jx_fok (by decide +kernel : decode (jx_mb 118) 15 = .ok (.aload_n 0, 1))) rfl rfl rfl
  · exact fun d lv st M Q => jx_k_gf (jx_fok (by decide +kernel : decode (jx_mb 118) 16 = .ok (.getfield 80, 3))) rfl rfl rfl
  · exact fun d lv st M Q x z => jx_k_b2 (jx_fok (by decide +kernel : decode (jx_mb 118) 19 = .ok (.if_icmp .ge 82, 3))) rfl jx_hGe
  · exact fun d st M Q l1 l2 x => jx_ev_st (jx_fok (by decide +kernel : decode (jx_mb 118) 22 = .ok (.aload_n 0, 1))) rfl rfl rfl
  · exact fun d lv st M Q => jx_k_gf (jx_fok (by decide +kernel : decode (jx_mb 118) 23 = .ok (.getfield 55, 3))) rfl rfl rfl
  · exact fun d st M Q l0 l1 x => jx_ev_st (jx_fok (by decide +kernel : decode (jx_mb 118) 26 = .ok (.iload_n 2, 1))) rfl rfl rfl
  · exact fun d st M Q l1 l2 x => jx_ev_st (jx_fok (by decide +kernel : decode (jx_mb 118) 27 = .ok (.aload_n 0, 1))) rfl rfl rfl
  · exact fun d lv st M Q => jx_k_gf (jx_fok (by decide +kernel : decode (jx_mb 118) 28 = .ok (.getfield 55, 3))) rfl rfl rfl
  · exact fun d st M Q l0 l1 x => jx_ev_st (jx_fok (by decide +kernel : decode (jx_mb 118) 31 = .ok (.iload_n 2, 1))) rfl rfl rfl
  · exact fun d lv st M Q x a ha => jx_k_al (jx_fok (by decide +kernel : decode (jx_mb 118) 32 = .ok (.iaload, 1))) ha
  · exact fun d lv st M Q => jx_ev_st (jx_fok (by decide +kernel : decode (jx_mb 118) 33 = .ok (.bipush (-9), 2))) rfl rfl rfl
  · exact fun d lv st M Q x z => jx_k_b2n (jx_fok (by decide +kernel : decode (jx_mb 118) 35 = .ok (.if_icmp .ne 7, 3))) rfl jx_hNe
  · exact fun d lv st M Q => jx_ev_st (jx_fok (by decide +kernel : decode (jx_mb 118) 38 = .ok (.iconst 0, 1))) rfl rfl rfl
  · exact fun d lv st M Q => jx_k_goto (jx_fok (by decide +kernel : decode (jx_mb 118) 39 = .ok (.goto 11, 3))) rfl
  · exact fun d st M Q l1 l2 x => jx_ev_st (jx_fok (by decide +kernel : decode (jx_mb 118) 42 = .ok (.aload_n 0, 1))) rfl rfl rfl
  · exact fun d lv st M Q => jx_k_gf (jx_fok (by decide +kernel : decode (jx_mb 118) 43 = .ok (.getfield 55, 3))) rfl rfl rfl
  · exact fun d st M Q l0 l1 x => jx_ev_st (jx_fok (by decide +kernel : decode (jx_mb 118) 46 = .ok (.iload_n 2, 1))) rfl rfl rfl
  · exact fun d lv st M Q x a ha => jx_k_al (jx_fok (by decide +kernel : decode (jx_mb 118) 47 = .ok (.iaload, 1))) ha
  · exact fun d lv st M Q => jx_ev_st (jx_fok (by decide +kernel : decode (jx_mb 118) 48 = .ok (.iconst 1, 1))) rfl rfl rfl
  · exact fun d lv st M Q x z => jx_ev_st (jx_fok (by decide +kernel : decode (jx_mb 118) 49 = .ok (.iadd, 1))) rfl rfl rfl
  · exact fun d lv st M Q x z a ha => jx_k_as (jx_fok (by decide +kernel : decode (jx_mb 118) 50 = .ok (.iastore, 1))) ha
  · exact fun d st M Q l1 l2 x => jx_ev_st (jx_fok (by decide +kernel : decode (jx_mb 118) 51 = .ok (.aload_n 0, 1))) rfl rfl rfl
  · exact fun d lv st M Q => jx_k_gf (jx_fok (by decide +kernel : decode (jx_mb 118) 52 = .ok (.getfield 55, 3))) rfl rfl rfl
  · exact fun d st M Q l0 l1 x => jx_ev_st (jx_fok (by decide +kernel : decode (jx_mb 118) 55 = .ok (.iload_n 2, 1))) rfl rfl rfl
  · exact fun d lv st M Q x a ha => jx_k_al (jx_fok (by decide +kernel : decode (jx_mb 118) 56 = .ok (.iaload, 1))) ha
  · exact fun d st M Q l1 l2 x => jx_ev_st (jx_fok (by decide +kernel : decode (jx_mb 118) 57 = .ok (.aload_n 0, 1))) rfl rfl rfl
  · exact fun d lv st M Q => jx_k_gf (jx_fok (by decide +kernel : decode (jx_mb 118) 58 = .ok (.getfield 80, 3))) rfl rfl rfl
  · exact fun d lv st M Q x z => jx_k_b2n (jx_fok (by decide +kernel : decode (jx_mb 118) 61 = .ok (.if_icmp .ne 9, 3))) rfl jx_hNe
  · exact fun d st M Q l0 l1 x => jx_ev_st (jx_fok (by decide +kernel : decode (jx_mb 118) 64 = .ok (.iinc 2 (-1), 3))) rfl rfl rfl
  · exact fun d lv st M Q => jx_k_goto (jx_fok (by decide +kernel : decode (jx_mb 118) 67 = .ok (.goto (-57), 3))) rfl
  · exact fun d st M Q l1 l2 x => jx_ev_st (jx_fok (by decide +kernel : decode (jx_mb 118) 70 = .ok (.aload_n 0, 1))) rfl rfl rfl
  · exact fun d st M Q l0 l1 x => jx_ev_st (jx_fok (by decide +kernel : decode (jx_mb 118) 71 = .ok (.iload_n 2, 1))) rfl rfl rfl
  · exact fun d st M Q l0 l2 x => jx_ev_st (jx_fok (by decide +kernel : decode (jx_mb 118) 72 = .ok (.iload_n 1, 1))) rfl rfl rfl
  · exact fun d lv M Q a0 a1 => jx_ev_ci (jx_fok (by decide +kernel : decode (jx_mb 118) 73 = .ok (.invokevirtual 173, 3))) rfl (jx_ccV (As := [.int a1, .int a0]) (rest := []) rfl rfl rfl rfl rfl rfl) (by decide)
  · exact fun d lv st M Q x => jx_k_b1 (jx_fok (by decide +kernel : decode (jx_mb 118) 76 = .ok (.ifCond .eq (-66), 3))) rfl jx_hEq
  · exact fun d st M Q l0 l1 x => jx_ev_st (jx_fok (by decide +kernel : decode (jx_mb 118) 79 = .ok (.iinc 2 1, 3))) rfl rfl rfl
  · exact fun d st M Q l0 l1 x => jx_ev_st (jx_fok (by decide +kernel : decode (jx_mb 118) 82 = .ok (.iload_n 2, 1))) rfl rfl rfl
  · exact fun d st M Q l1 l2 x => jx_ev_st (jx_fok (by decide +kernel : decode (jx_mb 118) 83 = .ok (.aload_n 0, 1))) rfl rfl rfl
  · exact fun d lv st M Q => jx_k_gf (jx_fok (by decide +kernel : decode (jx_mb 118) 84 = .ok (.getfield 80, 3))) rfl rfl rfl
  · exact fun d lv st M Q x z => jx_k_b2 (jx_fok (by decide +kernel : decode (jx_mb 118) 87 = .ok (.if_icmp .ge (-77), 3))) rfl jx_hGe
  · exact fun d st M Q l1 l2 x => jx_ev_st (jx_fok (by decide +kernel : decode (jx_mb 118) 90 = .ok (.aload_n 0, 1))) rfl rfl rfl
  · exact fun d lv st M Q => jx_k_gf (jx_fok (by decide +kernel : decode (jx_mb 118) 91 = .ok (.getfield 55, 3))) rfl rfl rfl
  · exact fun d st M Q l0 l1 x => jx_ev_st (jx_fok (by decide +kernel : decode (jx_mb 118) 94 = .ok (.iload_n 2, 1))) rfl rfl rfl
  · exact fun d lv st M Q => jx_ev_st (jx_fok (by decide +kernel : decode (jx_mb 118) 95 = .ok (.bipush (-9), 2))) rfl rfl rfl
  · exact fun d lv st M Q x z a ha => jx_k_as (jx_fok (by decide +kernel : decode (jx_mb 118) 97 = .ok (.iastore, 1))) ha
  · exact fun d lv st M Q => jx_k_goto (jx_fok (by decide +kernel : decode (jx_mb 118) 98 = .ok (.goto (-88), 3))) rfl
  · exact fun d st M Q l0 l1 x => jx_ev_st (jx_fok (by decide +kernel : decode (jx_mb 118) 101 = .ok (.iload_n 2, 1))) rfl rfl rfl
  · exact fun d st M Q l1 l2 x => jx_ev_st (jx_fok (by decide +kernel : decode (jx_mb 118) 102 = .ok (.aload_n 0, 1))) rfl rfl rfl
  · exact fun d lv st M Q => jx_k_gf (jx_fok (by decide +kernel : decode (jx_mb 118) 103 = .ok (.getfield 80, 3))) rfl rfl rfl
  · exact fun d lv st M Q x z => jx_k_b2n (jx_fok (by decide +kernel : decode (jx_mb 118) 106 = .ok (.if_icmp .ne 7, 3))) rfl jx_hNe
  · exact fun d lv st M Q => jx_ev_st (jx_fok (by decide +kernel : decode (jx_mb 118) 109 = .ok (.iconst 1, 1))) rfl rfl rfl
  · exact fun d lv st M Q => jx_k_goto (jx_fok (by decide +kernel : decode (jx_mb 118) 110 = .ok (.goto 4, 3))) rfl
  · exact fun d lv st M Q => jx_ev_st (jx_fok (by decide +kernel : decode (jx_mb 118) 113 = .ok (.iconst 0, 1))) rfl rfl rfl
  · exact fun d lv M Q x => jx_k_rz (jx_fok (by decide +kernel : decode (jx_mb 118) 114 = .ok (.ireturn, 1))) rfl
theorem eX8_findOrder_10 (d : Nat) (st : List Value) (M : jx_M) (Q : jx_Po) (l0 l1 : Option Value) (x : Int32) : jx_Ev d 118 10 [l0, l1, some (.int x)] st M Q ↔ jx_Ev d 118 11 [l0, l1, some (.int x)] (.int x :: st) M Q := jx_ev_st (jx_fok (by decide +kernel : decode (jx_mb 118) 10 = .ok (.iload_n 2, 1))) rfl rfl rfl
theorem kX8_findOrder (d : Nat) (M : jx_M) (q : Int32 → jx_M → Prop) (a0 a1 : Value) : jx_I d 118 [a0, a1] M q ↔ jx_Ev d 118 0 [some a0, some a1, none] [] M (jx_qI q) := Iff.rfl
set_option maxRecDepth 100000 in
theorem eX8_order :
  (∀ (d : Nat) (st : List Value) (M : jx_M) (Q : jx_Po) (l0 l2 : Option Value) (x : Int32), jx_Ev d 119 0 [l0, some (.int x), l2] st M Q ↔ jx_Ev d 119 1 [l0, some (.int x), l2] (.int x :: st) M Q) ∧
  (∀ (d : Nat) (lv : List (Option Value)) (M : jx_M) (Q : jx_Po) (a0 : Int32), jx_Ev (d + 1) 119 1 lv [.int a0] M Q ↔ jx_I d 105 [.int a0] M (fun x M => jx_Ev (d + 1) 119 4 lv (.int x :: []) M Q)) ∧
  (∀ (d : Nat) (lv : List (Option Value)) (st : List Value) (M : jx_M) (Q : jx_Po) (x : Int32), jx_Ev d 119 4 lv (.int x :: st) M Q ↔ (if x = 0 then jx_Ev d 119 16 lv st M Q else jx_Ev d 119 7 lv st M Q)) ∧
  (∀ (d : Nat) (st : List Value) (M : jx_M) (Q : jx_Po) (l0 l1 : Option Value) (x : Int32), jx_Ev d 119 7 [l0, l1, some (.int x)] st M Q ↔ jx_Ev d 119 8 [l0, l1, some (.int x)] (.int x :: st) M Q) ∧
  (∀ (d : Nat) (lv : List (Option Value)) (st : List Value) (M : jx_M) (Q : jx_Po), jx_Ev d 119 8 lv st M Q ↔ jx_Ev d 119 9 lv (.int 0 :: st) M Q) ∧
  (∀ (d : Nat) (lv : List (Option Value)) (st : List Value) (M : jx_M) (Q : jx_Po), jx_Ev d 119 9 lv st M Q ↔ jx_Ev d 119 10 lv (.int 5 :: st) M Q) ∧
  (∀ (d : Nat) (lv : List (Option Value)) (M : jx_M) (Q : jx_Po) (a0 : Int32) (a1 : Int32) (a2 : Int32), jx_Ev (d + 1) 119 10 lv [.int a0, .int a1, .int a2] M Q ↔ jx_I d 85 [.int a2, .int a1, .int a0] M (fun x M => jx_Ev (d + 1) 119 13 lv (.int x :: []) M Q)) ∧
  (∀ (d : Nat) (lv : List (Option Value)) (st : List Value) (M : jx_M) (Q : jx_Po) (x : Int32), jx_Ev d 119 13 lv (.int x :: st) M Q ↔ (if x = 0 then jx_Ev d 119 16 lv st M Q else jx_Ev d 119 19 lv st M Q)) ∧
  (∀ (d : Nat) (lv : List (Option Value)) (st : List Value) (M : jx_M) (Q : jx_Po), jx_Ev d 119 16 lv st M Q ↔ jx_Ev d 119 18 lv (.int (-2) :: st) M Q) ∧
  (∀ (d : Nat) (lv : List (Option Value)) (M : jx_M) (Q : jx_Po) (x : Int32), jx_Ev d 119 18 lv [.int x] M Q ↔ Q [.int x] M) ∧
  (∀ (d : Nat) (st : List Value) (M : jx_M) (Q : jx_Po) (l1 l2 : Option Value) (x : Nat), jx_Ev d 119 19 [some (.ref x), l1, l2] st M Q ↔ jx_Ev d 119 20 [some (.ref x), l1, l2] (.ref x :: st) M Q) ∧
  (∀ (d : Nat) (lv : List (Option Value)) (st : List Value) (M : jx_M) (Q : jx_Po), jx_Ev d 119 20 lv (.ref 36 :: st) M Q ↔ jx_Ev d 119 23 lv (.int (M 36 6) :: st) M Q) ∧
  (∀ (d : Nat) (lv : List (Option Value)) (st : List Value) (M : jx_M) (Q : jx_Po) (x : Int32), jx_Ev d 119 23 lv (.int x :: st) M Q ↔ (if x = 0 then jx_Ev d 119 26 lv st M Q else jx_Ev d 119 29 lv st M Q)) ∧
  (∀ (d : Nat) (lv : List (Option Value)) (st : List Value) (M : jx_M) (Q : jx_Po), jx_Ev d 119 26 lv st M Q ↔ jx_Ev d 119 28 lv (.int (-3) :: st) M Q) ∧
  (∀ (d : Nat) (lv : List (Option Value)) (M : jx_M) (Q : jx_Po) (x : Int32), jx_Ev d 119 28 lv [.int x] M Q ↔ Q [.int x] M) ∧
  (∀ (d : Nat) (st : List Value) (M : jx_M) (Q : jx_Po) (l1 l2 : Option Value) (x : Nat), jx_Ev d 119 29 [some (.ref x), l1, l2] st M Q ↔ jx_Ev d 119 30 [some (.ref x), l1, l2] (.ref x :: st) M Q) ∧
  (∀ (d : Nat) (st : List Value) (M : jx_M) (Q : jx_Po) (l0 l2 : Option Value) (x : Int32), jx_Ev d 119 30 [l0, some (.int x), l2] st M Q ↔ jx_Ev d 119 31 [l0, some (.int x), l2] (.int x :: st) M Q) ∧
  (∀ (d : Nat) (lv : List (Option Value)) (M : jx_M) (Q : jx_Po) (a0 : Int32), jx_Ev (d + 1) 119 31 lv [.int a0, .ref 36] M Q ↔ jx_I d 118 [.ref 36, .int a0] M (fun x M => jx_Ev (d + 1) 119 34 lv (.int x :: []) M Q)) ∧
  (∀ (d : Nat) (lv : List (Option Value)) (st : List Value) (M : jx_M) (Q : jx_Po) (x : Int32), jx_Ev d 119 34 lv (.int x :: st) M Q ↔ (if x = 0 then jx_Ev d 119 54 lv st M Q else jx_Ev d 119 37 lv st M Q)) ∧
  (∀ (d : Nat) (st : List Value) (M : jx_M) (Q : jx_Po) (l0 l1 : Option Value) (x : Int32), jx_Ev d 119 37 [l0, l1, some (.int x)] st M Q ↔ jx_Ev d 119 38 [l0, l1, some (.int x)] (.int x :: st) M Q) ∧
  (∀ (d : Nat) (st : List Value) (M : jx_M) (Q : jx_Po) (l1 l2 : Option Value) (x : Nat), jx_Ev d 119 38 [some (.ref x), l1, l2] st M Q ↔ jx_Ev d 119 39 [some (.ref x), l1, l2] (.ref x :: st) M Q) ∧
  (∀ (d : Nat) (lv : List (Option Value)) (st : List Value) (M : jx_M) (Q : jx_Po), jx_Ev d 119 39 lv (.ref 36 :: st) M Q ↔ jx_Ev d 119 42 lv (.int (M 36 6) :: st) M Q) ∧
  (∀ (d : Nat) (lv : List (Option Value)) (st : List Value) (M : jx_M) (Q : jx_Po) (x z : Int32), jx_Ev d 119 42 lv (.int z :: .int x :: st) M Q ↔ (if z ≤ x then jx_Ev d 119 54 lv st M Q else jx_Ev d 119 45 lv st M Q)) ∧
  (∀ (d : Nat) (st : List Value) (M : jx_M) (Q : jx_Po) (l1 l2 : Option Value) (x : Nat), jx_Ev d 119 45 [some (.ref x), l1, l2] st M Q ↔ jx_Ev d 119 46 [some (.ref x), l1, l2] (.ref x :: st) M Q) ∧
  (∀ (d : Nat) (lv : List (Option Value)) (st : List Value) (M : jx_M) (Q : jx_Po), jx_Ev d 119 46 lv (.ref 36 :: st) M Q ↔ jx_Ev d 119 49 lv (.ref 52 :: st) M Q) ∧
  (∀ (d : Nat) (st : List Value) (M : jx_M) (Q : jx_Po) (l0 l1 : Option Value) (x : Int32), jx_Ev d 119 49 [l0, l1, some (.int x)] st M Q ↔ jx_Ev d 119 50 [l0, l1, some (.int x)] (.int x :: st) M Q) ∧
  (∀ (d : Nat) (lv : List (Option Value)) (st : List Value) (M : jx_M) (Q : jx_Po) (x : Int32) (a : Nat) (ha : jx_cl a = 9), jx_Ev d 119 50 lv (.int x :: .ref a :: st) M Q ↔ (vp_in x (jx_sz a) ∧ jx_Ev d 119 51 lv (.int (M a x.toNatClampNeg) :: st) M Q)) ∧
  (∀ (d : Nat) (lv : List (Option Value)) (st : List Value) (M : jx_M) (Q : jx_Po), jx_Ev d 119 51 lv st M Q ↔ jx_Ev d 119 56 lv st M Q) ∧
  (∀ (d : Nat) (lv : List (Option Value)) (st : List Value) (M : jx_M) (Q : jx_Po), jx_Ev d 119 54 lv st M Q ↔ jx_Ev d 119 56 lv (.int (-9) :: st) M Q) ∧
  (∀ (d : Nat) (lv : List (Option Value)) (M : jx_M) (Q : jx_Po) (x : Int32), jx_Ev d 119 56 lv [.int x] M Q ↔ Q [.int x] M) := by
  refine ⟨?_, ?_, ?_, ?_, ?_, ?_, ?_, ?_, ?_, ?_, ?_, ?_, ?_, ?_, ?_, ?_, ?_, ?_, ?_, ?_, ?_, ?_, ?_, ?_, ?_, ?_, ?_, ?_, ?_, ?_⟩
  · exact fun d st M Q l0 l2 x => jx_ev_st (jx_fok (by decide +kernel : decode (jx_mb 119) 0 = .ok (.iload_n 1, 1))) rfl rfl rfl
  · exact fun d lv M Q a0 => jx_ev_ci (jx_fok (by decide +kernel : decode (jx_mb 119) 1 = .ok (.invokestatic 151, 3))) rfl (jx_ccS (As := [.int a0]) (rest := []) rfl rfl rfl rfl rfl) (by decide)
  · exact fun d lv st M Q x => jx_k_b1 (jx_fok (by decide +kernel : decode (jx_mb 119) 4 = .ok (.ifCond .eq 12, 3))) rfl jx_hEq
  · exact fun d st M Q l0 l1 x => jx_ev_st (jx_fok (by decide +kernel : decode (jx_mb 119) 7 = .ok (.iload_n 2, 1))) rfl rfl rfl
  · exact fun d lv st M Q => jx_ev_st (jx_fok (by decide +kernel : decode (jx_mb 119) 8 = .ok (.iconst 0, 1))) rfl rfl rfl
  · exact fun d lv st M Q => jx_ev_st (jx_fok (by decide +kernel : decode (jx_mb 119) 9 = .ok (.iconst 5, 1))) rfl rfl rfl
  · exact fun d lv M Q a0 a1 a2 => jx_ev_ci (jx_fok (by decide +kernel : decode (jx_mb 119) 10 = .ok (.invokestatic 73, 3))) rfl (jx_ccS (As := [.int a2, .int a1, .int a0]) (rest := []) rfl rfl rfl rfl rfl) (by decide)
  · exact fun d lv st M Q x => jx_k_b1n (jx_fok (by decide +kernel : decode (jx_mb 119) 13 = .ok (.ifCond .ne 6, 3))) rfl jx_hNe
  · exact fun d lv st M Q => jx_ev_st (jx_fok (by decide +kernel : decode (jx_mb 119) 16 = .ok (.bipush (-2), 2))) rfl rfl rfl
  · exact fun d lv M Q x => jx_k_ri (jx_fok (by decide +kernel : decode (jx_mb 119) 18 = .ok (.ireturn, 1))) rfl
  · exact fun d st M Q l1 l2 x => jx_ev_st (jx_fok (by decide +kernel : decode (jx_mb 119) 19 = .ok (.aload_n 0, 1))) rfl rfl rfl
  · exact fun d lv st M Q => jx_k_gf (jx_fok (by decide +kernel : decode (jx_mb 119) 20 = .ok (.getfield 80, 3))) rfl rfl rfl
  · exact fun d lv st M Q x => jx_k_b1n (jx_fok (by decide +kernel : decode (jx_mb 119) 23 = .ok (.ifCond .ne 6, 3))) rfl jx_hNe
  · exact fun d lv st M Q => jx_ev_st (jx_fok (by decide +kernel : decode (jx_mb 119) 26 = .ok (.bipush (-3), 2))) rfl rfl rfl
  · exact fun d lv M Q x => jx_k_ri (jx_fok (by decide +kernel : decode (jx_mb 119) 28 = .ok (.ireturn, 1))) rfl
  · exact fun d st M Q l1 l2 x => jx_ev_st (jx_fok (by decide +kernel : decode (jx_mb 119) 29 = .ok (.aload_n 0, 1))) rfl rfl rfl
  · exact fun d st M Q l0 l2 x => jx_ev_st (jx_fok (by decide +kernel : decode (jx_mb 119) 30 = .ok (.iload_n 1, 1))) rfl rfl rfl
  · exact fun d lv M Q a0 => jx_ev_ci (jx_fok (by decide +kernel : decode (jx_mb 119) 31 = .ok (.invokevirtual 176, 3))) rfl (jx_ccV (As := [.int a0]) (rest := []) rfl rfl rfl rfl rfl rfl) (by decide)
  · exact fun d lv st M Q x => jx_k_b1 (jx_fok (by decide +kernel : decode (jx_mb 119) 34 = .ok (.ifCond .eq 20, 3))) rfl jx_hEq
  · exact fun d st M Q l0 l1 x => jx_ev_st (jx_fok (by decide +kernel : decode (jx_mb 119) 37 = .ok (.iload_n 2, 1))) rfl rfl rfl
  · exact fun d st M Q l1 l2 x => jx_ev_st (jx_fok (by decide +kernel : decode (jx_mb 119) 38 = .ok (.aload_n 0, 1))) rfl rfl rfl
  · exact fun d lv st M Q => jx_k_gf (jx_fok (by decide +kernel : decode (jx_mb 119) 39 = .ok (.getfield 80, 3))) rfl rfl rfl
  · exact fun d lv st M Q x z => jx_k_b2 (jx_fok (by decide +kernel : decode (jx_mb 119) 42 = .ok (.if_icmp .ge 12, 3))) rfl jx_hGe
  · exact fun d st M Q l1 l2 x => jx_ev_st (jx_fok (by decide +kernel : decode (jx_mb 119) 45 = .ok (.aload_n 0, 1))) rfl rfl rfl
  · exact fun d lv st M Q => jx_k_gf (jx_fok (by decide +kernel : decode (jx_mb 119) 46 = .ok (.getfield 55, 3))) rfl rfl rfl
  · exact fun d st M Q l0 l1 x => jx_ev_st (jx_fok (by decide +kernel : decode (jx_mb 119) 49 = .ok (.iload_n 2, 1))) rfl rfl rfl
  · exact fun d lv st M Q x a ha => jx_k_al (jx_fok (by decide +kernel : decode (jx_mb 119) 50 = .ok (.iaload, 1))) ha
  · exact fun d lv st M Q => jx_k_goto (jx_fok (by decide +kernel : decode (jx_mb 119) 51 = .ok (.goto 5, 3))) rfl
  · exact fun d lv st M Q => jx_ev_st (jx_fok (by decide +kernel : decode (jx_mb 119) 54 = .ok (.bipush (-9), 2))) rfl rfl rfl
  · exact fun d lv M Q x => jx_k_ri (jx_fok (by decide +kernel : decode (jx_mb 119) 56 = .ok (.ireturn, 1))) rfl
theorem kX8_order (d : Nat) (M : jx_M) (q : Int32 → jx_M → Prop) (a0 a1 a2 : Value) : jx_I d 119 [a0, a1, a2] M q ↔ jx_Ev d 119 0 [some a0, some a1, some a2] [] M (jx_qI q) := Iff.rfl
set_option maxRecDepth 100000 in
theorem eX8_reading :
  (∀ (d : Nat) (st : List Value) (M : jx_M) (Q : jx_Po) (l1 l2 l3 : Option Value) (x : Nat), jx_Ev d 120 0 [some (.ref x), l1, l2, l3] st M Q ↔ jx_Ev d 120 1 [some (.ref x), l1, l2, l3] (.ref x :: st) M Q) ∧
  (∀ (d : Nat) (st : List Value) (M : jx_M) (Q : jx_Po) (l0 l2 l3 : Option Value) (x : Int32), jx_Ev d 120 1 [l0, some (.int x), l2, l3] st M Q ↔ jx_Ev d 120 2 [l0, some (.int x), l2, l3] (.int x :: st) M Q) ∧
  (∀ (d : Nat) (lv : List (Option Value)) (M : jx_M) (Q : jx_Po) (a0 : Int32), jx_Ev (d + 1) 120 2 lv [.int a0, .ref 36] M Q ↔ jx_I d 90 [.ref 36, .int a0] M (fun x M => jx_Ev (d + 1) 120 5 lv (.int x :: []) M Q)) ∧
  (∀ (d : Nat) (lv : List (Option Value)) (st : List Value) (M : jx_M) (Q : jx_Po) (x : Int32), jx_Ev d 120 5 lv (.int x :: st) M Q ↔ (if x = 0 then jx_Ev d 120 8 lv st M Q else jx_Ev d 120 10 lv st M Q)) ∧
  (∀ (d : Nat) (lv : List (Option Value)) (st : List Value) (M : jx_M) (Q : jx_Po), jx_Ev d 120 8 lv st M Q ↔ jx_Ev d 120 9 lv (.int (-1) :: st) M Q) ∧
  (∀ (d : Nat) (lv : List (Option Value)) (M : jx_M) (Q : jx_Po) (x : Int32), jx_Ev d 120 9 lv [.int x] M Q ↔ Q [.int x] M) ∧
  (∀ (d : Nat) (st : List Value) (M : jx_M) (Q : jx_Po) (l0 l1 l3 : Option Value) (x : Int32), jx_Ev d 120 10 [l0, l1, some (.int x), l3] st M Q ↔ jx_Ev d 120 11 [l0, l1, some (.int x), l3] (.int x :: st) M Q) ∧
  (∀ (d : Nat) (lv : List (Option Value)) (M : jx_M) (Q : jx_Po) (a0 : Int32), jx_Ev (d + 1) 120 11 lv [.int a0] M Q ↔ jx_I d 105 [.int a0] M (fun x M => jx_Ev (d + 1) 120 14 lv (.int x :: []) M Q)) ∧
  (∀ (d : Nat) (lv : List (Option Value)) (st : List Value) (M : jx_M) (Q : jx_Po) (x : Int32), jx_Ev d 120 14 lv (.int x :: st) M Q ↔ (if x = 0 then jx_Ev d 120 27 lv st M Q else jx_Ev d 120 17 lv st M Q)) ∧
  (∀ (d : Nat) (st : List Value) (M : jx_M) (Q : jx_Po) (l0 l1 l2 : Option Value) (x : Int32), jx_Ev d 120 17 [l0, l1, l2, some (.int x)] st M Q ↔ jx_Ev d 120 18 [l0, l1, l2, some (.int x)] (.int x :: st) M Q) ∧
  (∀ (d : Nat) (lv : List (Option Value)) (st : List Value) (M : jx_M) (Q : jx_Po), jx_Ev d 120 18 lv st M Q ↔ jx_Ev d 120 19 lv (.int 0 :: st) M Q) ∧
  (∀ (d : Nat) (lv : List (Option Value)) (st : List Value) (M : jx_M) (Q : jx_Po), jx_Ev d 120 19 lv st M Q ↔ jx_Ev d 120 21 lv (.int 99 :: st) M Q) ∧
  (∀ (d : Nat) (lv : List (Option Value)) (M : jx_M) (Q : jx_Po) (a0 : Int32) (a1 : Int32) (a2 : Int32), jx_Ev (d + 1) 120 21 lv [.int a0, .int a1, .int a2] M Q ↔ jx_I d 85 [.int a2, .int a1, .int a0] M (fun x M => jx_Ev (d + 1) 120 24 lv (.int x :: []) M Q)) ∧
  (∀ (d : Nat) (lv : List (Option Value)) (st : List Value) (M : jx_M) (Q : jx_Po) (x : Int32), jx_Ev d 120 24 lv (.int x :: st) M Q ↔ (if x = 0 then jx_Ev d 120 27 lv st M Q else jx_Ev d 120 30 lv st M Q)) ∧
  (∀ (d : Nat) (lv : List (Option Value)) (st : List Value) (M : jx_M) (Q : jx_Po), jx_Ev d 120 27 lv st M Q ↔ jx_Ev d 120 29 lv (.int (-2) :: st) M Q) ∧
  (∀ (d : Nat) (lv : List (Option Value)) (M : jx_M) (Q : jx_Po) (x : Int32), jx_Ev d 120 29 lv [.int x] M Q ↔ Q [.int x] M) ∧
  (∀ (d : Nat) (st : List Value) (M : jx_M) (Q : jx_Po) (l1 l2 l3 : Option Value) (x : Nat), jx_Ev d 120 30 [some (.ref x), l1, l2, l3] st M Q ↔ jx_Ev d 120 31 [some (.ref x), l1, l2, l3] (.ref x :: st) M Q) ∧
  (∀ (d : Nat) (lv : List (Option Value)) (st : List Value) (M : jx_M) (Q : jx_Po), jx_Ev d 120 31 lv (.ref 36 :: st) M Q ↔ jx_Ev d 120 34 lv (.int (M 36 27) :: st) M Q) ∧
  (∀ (d : Nat) (lv : List (Option Value)) (st : List Value) (M : jx_M) (Q : jx_Po), jx_Ev d 120 34 lv st M Q ↔ jx_Ev d 120 36 lv (.int 8 :: st) M Q) ∧
  (∀ (d : Nat) (lv : List (Option Value)) (st : List Value) (M : jx_M) (Q : jx_Po) (x z : Int32), jx_Ev d 120 36 lv (.int z :: .int x :: st) M Q ↔ (if x = z then jx_Ev d 120 39 lv st M Q else jx_Ev d 120 42 lv st M Q)) ∧
  (∀ (d : Nat) (lv : List (Option Value)) (st : List Value) (M : jx_M) (Q : jx_Po), jx_Ev d 120 39 lv st M Q ↔ jx_Ev d 120 41 lv (.int (-4) :: st) M Q) ∧
  (∀ (d : Nat) (lv : List (Option Value)) (M : jx_M) (Q : jx_Po) (x : Int32), jx_Ev d 120 41 lv [.int x] M Q ↔ Q [.int x] M) ∧
  (∀ (d : Nat) (st : List Value) (M : jx_M) (Q : jx_Po) (l1 l2 l3 : Option Value) (x : Nat), jx_Ev d 120 42 [some (.ref x), l1, l2, l3] st M Q ↔ jx_Ev d 120 43 [some (.ref x), l1, l2, l3] (.ref x :: st) M Q) ∧
  (∀ (d : Nat) (lv : List (Option Value)) (st : List Value) (M : jx_M) (Q : jx_Po), jx_Ev d 120 43 lv (.ref 36 :: st) M Q ↔ jx_Ev d 120 46 lv (.ref 53 :: st) M Q) ∧
  (∀ (d : Nat) (st : List Value) (M : jx_M) (Q : jx_Po) (l1 l2 l3 : Option Value) (x : Nat), jx_Ev d 120 46 [some (.ref x), l1, l2, l3] st M Q ↔ jx_Ev d 120 47 [some (.ref x), l1, l2, l3] (.ref x :: st) M Q) ∧
  (∀ (d : Nat) (lv : List (Option Value)) (st : List Value) (M : jx_M) (Q : jx_Po), jx_Ev d 120 47 lv (.ref 36 :: st) M Q ↔ jx_Ev d 120 50 lv (.int (M 36 27) :: st) M Q) ∧
  (∀ (d : Nat) (st : List Value) (M : jx_M) (Q : jx_Po) (l0 l2 l3 : Option Value) (x : Int32), jx_Ev d 120 50 [l0, some (.int x), l2, l3] st M Q ↔ jx_Ev d 120 51 [l0, some (.int x), l2, l3] (.int x :: st) M Q) ∧
  (∀ (d : Nat) (lv : List (Option Value)) (st : List Value) (M : jx_M) (Q : jx_Po) (x z : Int32) (a : Nat) (ha : jx_cl a = 9), jx_Ev d 120 51 lv (.int z :: .int x :: .ref a :: st) M Q ↔ (vp_in x (jx_sz a) ∧ jx_Ev d 120 52 lv st (jx_up M a x.toNatClampNeg z) Q)) ∧
  (∀ (d : Nat) (st : List Value) (M : jx_M) (Q : jx_Po) (l1 l2 l3 : Option Value) (x : Nat), jx_Ev d 120 52 [some (.ref x), l1, l2, l3] st M Q ↔ jx_Ev d 120 53 [some (.ref x), l1, l2, l3] (.ref x :: st) M Q) ∧
  (∀ (d : Nat) (lv : List (Option Value)) (st : List Value) (M : jx_M) (Q : jx_Po), jx_Ev d 120 53 lv (.ref 36 :: st) M Q ↔ jx_Ev d 120 56 lv (.ref 54 :: st) M Q) ∧
  (∀ (d : Nat) (st : List Value) (M : jx_M) (Q : jx_Po) (l1 l2 l3 : Option Value) (x : Nat), jx_Ev d 120 56 [some (.ref x), l1, l2, l3] st M Q ↔ jx_Ev d 120 57 [some (.ref x), l1, l2, l3] (.ref x :: st) M Q) ∧
  (∀ (d : Nat) (lv : List (Option Value)) (st : List Value) (M : jx_M) (Q : jx_Po), jx_Ev d 120 57 lv (.ref 36 :: st) M Q ↔ jx_Ev d 120 60 lv (.int (M 36 27) :: st) M Q) ∧
  (∀ (d : Nat) (st : List Value) (M : jx_M) (Q : jx_Po) (l0 l1 l3 : Option Value) (x : Int32), jx_Ev d 120 60 [l0, l1, some (.int x), l3] st M Q ↔ jx_Ev d 120 61 [l0, l1, some (.int x), l3] (.int x :: st) M Q) ∧
  (∀ (d : Nat) (lv : List (Option Value)) (st : List Value) (M : jx_M) (Q : jx_Po) (x z : Int32) (a : Nat) (ha : jx_cl a = 9), jx_Ev d 120 61 lv (.int z :: .int x :: .ref a :: st) M Q ↔ (vp_in x (jx_sz a) ∧ jx_Ev d 120 62 lv st (jx_up M a x.toNatClampNeg z) Q)) ∧
  (∀ (d : Nat) (st : List Value) (M : jx_M) (Q : jx_Po) (l1 l2 l3 : Option Value) (x : Nat), jx_Ev d 120 62 [some (.ref x), l1, l2, l3] st M Q ↔ jx_Ev d 120 63 [some (.ref x), l1, l2, l3] (.ref x :: st) M Q) ∧
  (∀ (d : Nat) (lv : List (Option Value)) (st : List Value) (M : jx_M) (Q : jx_Po), jx_Ev d 120 63 lv (.ref 36 :: st) M Q ↔ jx_Ev d 120 66 lv (.ref 55 :: st) M Q) ∧
  (∀ (d : Nat) (st : List Value) (M : jx_M) (Q : jx_Po) (l1 l2 l3 : Option Value) (x : Nat), jx_Ev d 120 66 [some (.ref x), l1, l2, l3] st M Q ↔ jx_Ev d 120 67 [some (.ref x), l1, l2, l3] (.ref x :: st) M Q) ∧
  (∀ (d : Nat) (lv : List (Option Value)) (st : List Value) (M : jx_M) (Q : jx_Po), jx_Ev d 120 67 lv (.ref 36 :: st) M Q ↔ jx_Ev d 120 70 lv (.int (M 36 27) :: st) M Q) ∧
  (∀ (d : Nat) (st : List Value) (M : jx_M) (Q : jx_Po) (l0 l1 l2 : Option Value) (x : Int32), jx_Ev d 120 70 [l0, l1, l2, some (.int x)] st M Q ↔ jx_Ev d 120 71 [l0, l1, l2, some (.int x)] (.int x :: st) M Q) ∧
  (∀ (d : Nat) (lv : List (Option Value)) (st : List Value) (M : jx_M) (Q : jx_Po) (x z : Int32) (a : Nat) (ha : jx_cl a = 9), jx_Ev d 120 71 lv (.int z :: .int x :: .ref a :: st) M Q ↔ (vp_in x (jx_sz a) ∧ jx_Ev d 120 72 lv st (jx_up M a x.toNatClampNeg z) Q)) ∧
  (∀ (d : Nat) (st : List Value) (M : jx_M) (Q : jx_Po) (l1 l2 l3 : Option Value) (x : Nat), jx_Ev d 120 72 [some (.ref x), l1, l2, l3] st M Q ↔ jx_Ev d 120 73 [some (.ref x), l1, l2, l3] (.ref x :: st) M Q) ∧
  (∀ (d : Nat) (lv : List (Option Value)) (st : List Value) (M : jx_M) (Q : jx_Po) (x : Nat), jx_Ev d 120 73 lv (.ref x :: st) M Q ↔ jx_Ev d 120 74 lv (.ref x :: .ref x :: st) M Q) ∧
  (∀ (d : Nat) (lv : List (Option Value)) (st : List Value) (M : jx_M) (Q : jx_Po), jx_Ev d 120 74 lv (.ref 36 :: st) M Q ↔ jx_Ev d 120 77 lv (.int (M 36 27) :: st) M Q) ∧
  (∀ (d : Nat) (lv : List (Option Value)) (st : List Value) (M : jx_M) (Q : jx_Po), jx_Ev d 120 77 lv st M Q ↔ jx_Ev d 120 78 lv (.int 1 :: st) M Q) ∧
  (∀ (d : Nat) (lv : List (Option Value)) (st : List Value) (M : jx_M) (Q : jx_Po) (x z : Int32), jx_Ev d 120 78 lv (.int z :: .int x :: st) M Q ↔ jx_Ev d 120 79 lv (.int (x + z) :: st) M Q) ∧
  (∀ (d : Nat) (lv : List (Option Value)) (st : List Value) (M : jx_M) (Q : jx_Po) (x : Int32), jx_Ev d 120 79 lv (.int x :: .ref 36 :: st) M Q ↔ jx_Ev d 120 82 lv st (jx_up M 36 27 x) Q) ∧
  (∀ (d : Nat) (st : List Value) (M : jx_M) (Q : jx_Po) (l1 l2 l3 : Option Value) (x : Nat), jx_Ev d 120 82 [some (.ref x), l1, l2, l3] st M Q ↔ jx_Ev d 120 83 [some (.ref x), l1, l2, l3] (.ref x :: st) M Q) ∧
  (∀ (d : Nat) (lv : List (Option Value)) (st : List Value) (M : jx_M) (Q : jx_Po), jx_Ev d 120 83 lv (.ref 36 :: st) M Q ↔ jx_Ev d 120 86 lv (.int (M 36 27) :: st) M Q) ∧
  (∀ (d : Nat) (lv : List (Option Value)) (st : List Value) (M : jx_M) (Q : jx_Po), jx_Ev d 120 86 lv st M Q ↔ jx_Ev d 120 87 lv (.int 1 :: st) M Q) ∧
  (∀ (d : Nat) (lv : List (Option Value)) (st : List Value) (M : jx_M) (Q : jx_Po) (x z : Int32), jx_Ev d 120 87 lv (.int z :: .int x :: st) M Q ↔ jx_Ev d 120 88 lv (.int (x - z) :: st) M Q) ∧
  (∀ (d : Nat) (lv : List (Option Value)) (M : jx_M) (Q : jx_Po) (x : Int32), jx_Ev d 120 88 lv [.int x] M Q ↔ Q [.int x] M) := by
  refine ⟨?_, ?_, ?_, ?_, ?_, ?_, ?_, ?_, ?_, ?_, ?_, ?_, ?_, ?_, ?_, ?_, ?_, ?_, ?_, ?_, ?_, ?_, ?_, ?_, ?_, ?_, ?_, ?_, ?_, ?_, ?_, ?_, ?_, ?_, ?_, ?_, ?_, ?_, ?_, ?_, ?_, ?_, ?_, ?_, ?_, ?_, ?_, ?_, ?_, ?_, ?_⟩
  · exact fun d st M Q l1 l2 l3 x => jx_ev_st (jx_fok (by decide +kernel : decode (jx_mb 120) 0 = .ok (.aload_n 0, 1))) rfl rfl rfl
  · exact fun d st M Q l0 l2 l3 x => jx_ev_st (jx_fok (by decide +kernel : decode (jx_mb 120) 1 = .ok (.iload_n 1, 1))) rfl rfl rfl
  · exact fun d lv M Q a0 => jx_ev_ci (jx_fok (by decide +kernel : decode (jx_mb 120) 2 = .ok (.invokevirtual 148, 3))) rfl (jx_ccV (As := [.int a0]) (rest := []) rfl rfl rfl rfl rfl rfl) (by decide)
  · exact fun d lv st M Q x => jx_k_b1n (jx_fok (by decide +kernel : decode (jx_mb 120) 5 = .ok (.ifCond .ne 5, 3))) rfl jx_hNe
  · exact fun d lv st M Q => jx_ev_st (jx_fok (by decide +kernel : decode (jx_mb 120) 8 = .ok (.iconst (-1), 1))) rfl rfl rfl
  · exact fun d lv M Q x => jx_k_ri (jx_fok (by decide +kernel : decode (jx_mb 120) 9 = .ok (.ireturn, 1))) rfl
  · exact fun d st M Q l0 l1 l3 x => jx_ev_st (jx_fok (by decide +kernel : decode (jx_mb 120) 10 = .ok (.iload_n 2, 1))) rfl rfl rfl
  · exact fun d lv M Q a0 => jx_ev_ci (jx_fok (by decide +kernel : decode (jx_mb 120) 11 = .ok (.invokestatic 151, 3))) rfl (jx_ccS (As := [.int a0]) (rest := []) rfl rfl rfl rfl rfl) (by decide)
  · exact fun d lv st M Q x => jx_k_b1 (jx_fok (by decide +kernel : decode (jx_mb 120) 14 = .ok (.ifCond .eq 13, 3))) rfl jx_hEq
  · exact fun d st M Q l0 l1 l2 x => jx_ev_st (jx_fok (by decide +kernel : decode (jx_mb 120) 17 = .ok (.iload_n 3, 1))) rfl rfl rfl
  · exact fun d lv st M Q => jx_ev_st (jx_fok (by decide +kernel : decode (jx_mb 120) 18 = .ok (.iconst 0, 1))) rfl rfl rfl
  · exact fun d lv st M Q => jx_ev_st (jx_fok (by decide +kernel : decode (jx_mb 120) 19 = .ok (.bipush 99, 2))) rfl rfl rfl
  · exact fun d lv M Q a0 a1 a2 => jx_ev_ci (jx_fok (by decide +kernel : decode (jx_mb 120) 21 = .ok (.invokestatic 73, 3))) rfl (jx_ccS (As := [.int a2, .int a1, .int a0]) (rest := []) rfl rfl rfl rfl rfl) (by decide)
  · exact fun d lv st M Q x => jx_k_b1n (jx_fok (by decide +kernel : decode (jx_mb 120) 24 = .ok (.ifCond .ne 6, 3))) rfl jx_hNe
  · exact fun d lv st M Q => jx_ev_st (jx_fok (by decide +kernel : decode (jx_mb 120) 27 = .ok (.bipush (-2), 2))) rfl rfl rfl
  · exact fun d lv M Q x => jx_k_ri (jx_fok (by decide +kernel : decode (jx_mb 120) 29 = .ok (.ireturn, 1))) rfl
  · exact fun d st M Q l1 l2 l3 x => jx_ev_st (jx_fok (by decide +kernel : decode (jx_mb 120) 30 = .ok (.aload_n 0, 1))) rfl rfl rfl
  · exact fun d lv st M Q => jx_k_gf (jx_fok (by decide +kernel : decode (jx_mb 120) 31 = .ok (.getfield 125, 3))) rfl rfl rfl
  · exact fun d lv st M Q => jx_ev_st (jx_fok (by decide +kernel : decode (jx_mb 120) 34 = .ok (.bipush 8, 2))) rfl rfl rfl
  · exact fun d lv st M Q x z => jx_k_b2n (jx_fok (by decide +kernel : decode (jx_mb 120) 36 = .ok (.if_icmp .ne 6, 3))) rfl jx_hNe
  · exact fun d lv st M Q => jx_ev_st (jx_fok (by decide +kernel : decode (jx_mb 120) 39 = .ok (.bipush (-4), 2))) rfl rfl rfl
  · exact fun d lv M Q x => jx_k_ri (jx_fok (by decide +kernel : decode (jx_mb 120) 41 = .ok (.ireturn, 1))) rfl
  · exact fun d st M Q l1 l2 l3 x => jx_ev_st (jx_fok (by decide +kernel : decode (jx_mb 120) 42 = .ok (.aload_n 0, 1))) rfl rfl rfl
  · exact fun d lv st M Q => jx_k_gf (jx_fok (by decide +kernel : decode (jx_mb 120) 43 = .ok (.getfield 58, 3))) rfl rfl rfl
  · exact fun d st M Q l1 l2 l3 x => jx_ev_st (jx_fok (by decide +kernel : decode (jx_mb 120) 46 = .ok (.aload_n 0, 1))) rfl rfl rfl
  · exact fun d lv st M Q => jx_k_gf (jx_fok (by decide +kernel : decode (jx_mb 120) 47 = .ok (.getfield 125, 3))) rfl rfl rfl
  · exact fun d st M Q l0 l2 l3 x => jx_ev_st (jx_fok (by decide +kernel : decode (jx_mb 120) 50 = .ok (.iload_n 1, 1))) rfl rfl rfl
  · exact fun d lv st M Q x z a ha => jx_k_as (jx_fok (by decide +kernel : decode (jx_mb 120) 51 = .ok (.iastore, 1))) ha
  · exact fun d st M Q l1 l2 l3 x => jx_ev_st (jx_fok (by decide +kernel : decode (jx_mb 120) 52 = .ok (.aload_n 0, 1))) rfl rfl rfl
  · exact fun d lv st M Q => jx_k_gf (jx_fok (by decide +kernel : decode (jx_mb 120) 53 = .ok (.getfield 61, 3))) rfl rfl rfl
  · exact fun d st M Q l1 l2 l3 x => jx_ev_st (jx_fok (by decide +kernel : decode (jx_mb 120) 56 = .ok (.aload_n 0, 1))) rfl rfl rfl
  · exact fun d lv st M Q => jx_k_gf (jx_fok (by decide +kernel : decode (jx_mb 120) 57 = .ok (.getfield 125, 3))) rfl rfl rfl
  · exact fun d st M Q l0 l1 l3 x => jx_ev_st (jx_fok (by decide +kernel : decode (jx_mb 120) 60 = .ok (.iload_n 2, 1))) rfl rfl rfl
  · exact fun d lv st M Q x z a ha => jx_k_as (jx_fok (by decide +kernel : decode (jx_mb 120) 61 = .ok (.iastore, 1))) ha
  · exact fun d st M Q l1 l2 l3 x => jx_ev_st (jx_fok (by decide +kernel : decode (jx_mb 120) 62 = .ok (.aload_n 0, 1))) rfl rfl rfl
  · exact fun d lv st M Q => jx_k_gf (jx_fok (by decide +kernel : decode (jx_mb 120) 63 = .ok (.getfield 64, 3))) rfl rfl rfl
  · exact fun d st M Q l1 l2 l3 x => jx_ev_st (jx_fok (by decide +kernel : decode (jx_mb 120) 66 = .ok (.aload_n 0, 1))) rfl rfl rfl
  · exact fun d lv st M Q => jx_k_gf (jx_fok (by decide +kernel : decode (jx_mb 120) 67 = .ok (.getfield 125, 3))) rfl rfl rfl
  · exact fun d st M Q l0 l1 l2 x => jx_ev_st (jx_fok (by decide +kernel : decode (jx_mb 120) 70 = .ok (.iload_n 3, 1))) rfl rfl rfl
  · exact fun d lv st M Q x z a ha => jx_k_as (jx_fok (by decide +kernel : decode (jx_mb 120) 71 = .ok (.iastore, 1))) ha
  · exact fun d st M Q l1 l2 l3 x => jx_ev_st (jx_fok (by decide +kernel : decode (jx_mb 120) 72 = .ok (.aload_n 0, 1))) rfl rfl rfl
  · exact fun d lv st M Q x => jx_ev_st (jx_fok (by decide +kernel : decode (jx_mb 120) 73 = .ok (.dup, 1))) rfl rfl rfl
  · exact fun d lv st M Q => jx_k_gf (jx_fok (by decide +kernel : decode (jx_mb 120) 74 = .ok (.getfield 125, 3))) rfl rfl rfl
  · exact fun d lv st M Q => jx_ev_st (jx_fok (by decide +kernel : decode (jx_mb 120) 77 = .ok (.iconst 1, 1))) rfl rfl rfl
  · exact fun d lv st M Q x z => jx_ev_st (jx_fok (by decide +kernel : decode (jx_mb 120) 78 = .ok (.iadd, 1))) rfl rfl rfl
  · exact fun d lv st M Q x => jx_k_pf0 (jx_fok (by decide +kernel : decode (jx_mb 120) 79 = .ok (.putfield 125, 3))) rfl rfl rfl
  · exact fun d st M Q l1 l2 l3 x => jx_ev_st (jx_fok (by decide +kernel : decode (jx_mb 120) 82 = .ok (.aload_n 0, 1))) rfl rfl rfl
  · exact fun d lv st M Q => jx_k_gf (jx_fok (by decide +kernel : decode (jx_mb 120) 83 = .ok (.getfield 125, 3))) rfl rfl rfl
  · exact fun d lv st M Q => jx_ev_st (jx_fok (by decide +kernel : decode (jx_mb 120) 86 = .ok (.iconst 1, 1))) rfl rfl rfl
  · exact fun d lv st M Q x z => jx_ev_st (jx_fok (by decide +kernel : decode (jx_mb 120) 87 = .ok (.isub, 1))) rfl rfl rfl
  · exact fun d lv M Q x => jx_k_ri (jx_fok (by decide +kernel : decode (jx_mb 120) 88 = .ok (.ireturn, 1))) rfl
theorem kX8_reading (d : Nat) (M : jx_M) (q : Int32 → jx_M → Prop) (a0 a1 a2 a3 : Value) : jx_I d 120 [a0, a1, a2, a3] M q ↔ jx_Ev d 120 0 [some a0, some a1, some a2, some a3] [] M (jx_qI q) := Iff.rfl
set_option maxRecDepth 100000 in
theorem eX8_back :
  (∀ (d : Nat) (st : List Value) (M : jx_M) (Q : jx_Po) (l0 : Option Value) (x : Int32), jx_Ev d 121 0 [l0, some (.int x)] st M Q ↔ jx_Ev d 121 1 [l0, some (.int x)] (.int x :: st) M Q) ∧
  (∀ (d : Nat) (lv : List (Option Value)) (st : List Value) (M : jx_M) (Q : jx_Po), jx_Ev d 121 1 lv st M Q ↔ jx_Ev d 121 2 lv (.int 0 :: st) M Q) ∧
  (∀ (d : Nat) (st : List Value) (M : jx_M) (Q : jx_Po) (l1 : Option Value) (x : Nat), jx_Ev d 121 2 [some (.ref x), l1] st M Q ↔ jx_Ev d 121 3 [some (.ref x), l1] (.ref x :: st) M Q) ∧
  (∀ (d : Nat) (lv : List (Option Value)) (st : List Value) (M : jx_M) (Q : jx_Po), jx_Ev d 121 3 lv (.ref 36 :: st) M Q ↔ jx_Ev d 121 6 lv (.int (M 36 27) :: st) M Q) ∧
  (∀ (d : Nat) (lv : List (Option Value)) (M : jx_M) (Q : jx_Po) (a0 : Int32) (a1 : Int32) (a2 : Int32), jx_Ev (d + 1) 121 6 lv [.int a0, .int a1, .int a2] M Q ↔ jx_I d 85 [.int a2, .int a1, .int a0] M (fun x M => jx_Ev (d + 1) 121 9 lv (.int x :: []) M Q)) ∧
  (∀ (d : Nat) (lv : List (Option Value)) (st : List Value) (M : jx_M) (Q : jx_Po) (x : Int32), jx_Ev d 121 9 lv (.int x :: st) M Q ↔ (if x = 0 then jx_Ev d 121 12 lv st M Q else jx_Ev d 121 15 lv st M Q)) ∧
  (∀ (d : Nat) (lv : List (Option Value)) (st : List Value) (M : jx_M) (Q : jx_Po), jx_Ev d 121 12 lv st M Q ↔ jx_Ev d 121 14 lv (.int (-2) :: st) M Q) ∧
  (∀ (d : Nat) (lv : List (Option Value)) (M : jx_M) (Q : jx_Po) (x : Int32), jx_Ev d 121 14 lv [.int x] M Q ↔ Q [.int x] M) ∧
  (∀ (d : Nat) (st : List Value) (M : jx_M) (Q : jx_Po) (l1 : Option Value) (x : Nat), jx_Ev d 121 15 [some (.ref x), l1] st M Q ↔ jx_Ev d 121 16 [some (.ref x), l1] (.ref x :: st) M Q) ∧
  (∀ (d : Nat) (lv : List (Option Value)) (st : List Value) (M : jx_M) (Q : jx_Po) (x : Nat), jx_Ev d 121 16 lv (.ref x :: st) M Q ↔ jx_Ev d 121 17 lv (.ref x :: .ref x :: st) M Q) ∧
  (∀ (d : Nat) (lv : List (Option Value)) (st : List Value) (M : jx_M) (Q : jx_Po), jx_Ev d 121 17 lv (.ref 36 :: st) M Q ↔ jx_Ev d 121 20 lv (.int (M 36 27) :: st) M Q) ∧
  (∀ (d : Nat) (st : List Value) (M : jx_M) (Q : jx_Po) (l0 : Option Value) (x : Int32), jx_Ev d 121 20 [l0, some (.int x)] st M Q ↔ jx_Ev d 121 21 [l0, some (.int x)] (.int x :: st) M Q) ∧
  (∀ (d : Nat) (lv : List (Option Value)) (st : List Value) (M : jx_M) (Q : jx_Po) (x z : Int32), jx_Ev d 121 21 lv (.int z :: .int x :: st) M Q ↔ jx_Ev d 121 22 lv (.int (x - z) :: st) M Q) ∧
  (∀ (d : Nat) (lv : List (Option Value)) (st : List Value) (M : jx_M) (Q : jx_Po) (x : Int32), jx_Ev d 121 22 lv (.int x :: .ref 36 :: st) M Q ↔ jx_Ev d 121 25 lv st (jx_up M 36 27 x) Q) ∧
  (∀ (d : Nat) (st : List Value) (M : jx_M) (Q : jx_Po) (l1 : Option Value) (x : Nat), jx_Ev d 121 25 [some (.ref x), l1] st M Q ↔ jx_Ev d 121 26 [some (.ref x), l1] (.ref x :: st) M Q) ∧
  (∀ (d : Nat) (lv : List (Option Value)) (st : List Value) (M : jx_M) (Q : jx_Po), jx_Ev d 121 26 lv (.ref 36 :: st) M Q ↔ jx_Ev d 121 29 lv (.int (M 36 27) :: st) M Q) ∧
  (∀ (d : Nat) (lv : List (Option Value)) (M : jx_M) (Q : jx_Po) (x : Int32), jx_Ev d 121 29 lv [.int x] M Q ↔ Q [.int x] M) := by
  refine ⟨?_, ?_, ?_, ?_, ?_, ?_, ?_, ?_, ?_, ?_, ?_, ?_, ?_, ?_, ?_, ?_, ?_⟩
  · exact fun d st M Q l0 x => jx_ev_st (jx_fok (by decide +kernel : decode (jx_mb 121) 0 = .ok (.iload_n 1, 1))) rfl rfl rfl
  · exact fun d lv st M Q => jx_ev_st (jx_fok (by decide +kernel : decode (jx_mb 121) 1 = .ok (.iconst 0, 1))) rfl rfl rfl
  · exact fun d st M Q l1 x => jx_ev_st (jx_fok (by decide +kernel : decode (jx_mb 121) 2 = .ok (.aload_n 0, 1))) rfl rfl rfl
  · exact fun d lv st M Q => jx_k_gf (jx_fok (by decide +kernel : decode (jx_mb 121) 3 = .ok (.getfield 125, 3))) rfl rfl rfl
  · exact fun d lv M Q a0 a1 a2 => jx_ev_ci (jx_fok (by decide +kernel : decode (jx_mb 121) 6 = .ok (.invokestatic 73, 3))) rfl (jx_ccS (As := [.int a2, .int a1, .int a0]) (rest := []) rfl rfl rfl rfl rfl) (by decide)
  · exact fun d lv st M Q x => jx_k_b1n (jx_fok (by decide +kernel : decode (jx_mb 121) 9 = .ok (.ifCond .ne 6, 3))) rfl jx_hNe
  · exact fun d lv st M Q => jx_ev_st (jx_fok (by decide +kernel : decode (jx_mb 121) 12 = .ok (.bipush (-2), 2))) rfl rfl rfl
  · exact fun d lv M Q x => jx_k_ri (jx_fok (by decide +kernel : decode (jx_mb 121) 14 = .ok (.ireturn, 1))) rfl
  · exact fun d st M Q l1 x => jx_ev_st (jx_fok (by decide +kernel : decode (jx_mb 121) 15 = .ok (.aload_n 0, 1))) rfl rfl rfl
  · exact fun d lv st M Q x => jx_ev_st (jx_fok (by decide +kernel : decode (jx_mb 121) 16 = .ok (.dup, 1))) rfl rfl rfl
  · exact fun d lv st M Q => jx_k_gf (jx_fok (by decide +kernel : decode (jx_mb 121) 17 = .ok (.getfield 125, 3))) rfl rfl rfl
  · exact fun d st M Q l0 x => jx_ev_st (jx_fok (by decide +kernel : decode (jx_mb 121) 20 = .ok (.iload_n 1, 1))) rfl rfl rfl
  · exact fun d lv st M Q x z => jx_ev_st (jx_fok (by decide +kernel : decode (jx_mb 121) 21 = .ok (.isub, 1))) rfl rfl rfl
  · exact fun d lv st M Q x => jx_k_pf0 (jx_fok (by decide +kernel : decode (jx_mb 121) 22 = .ok (.putfield 125, 3))) rfl rfl rfl
  · exact fun d st M Q l1 x => jx_ev_st (jx_fok (by decide +kernel : decode (jx_mb 121) 25 = .ok (.aload_n 0, 1))) rfl rfl rfl
  · exact fun d lv st M Q => jx_k_gf (jx_fok (by decide +kernel : decode (jx_mb 121) 26 = .ok (.getfield 125, 3))) rfl rfl rfl
  · exact fun d lv M Q x => jx_k_ri (jx_fok (by decide +kernel : decode (jx_mb 121) 29 = .ok (.ireturn, 1))) rfl
theorem kX8_back (d : Nat) (M : jx_M) (q : Int32 → jx_M → Prop) (a0 a1 : Value) : jx_I d 121 [a0, a1] M q ↔ jx_Ev d 121 0 [some a0, some a1] [] M (jx_qI q) := Iff.rfl
set_option maxRecDepth 100000 in
theorem eX8_areSo :
  (∀ (d : Nat) (lv : List (Option Value)) (st : List Value) (M : jx_M) (Q : jx_Po), jx_Ev d 122 0 lv st M Q ↔ jx_Ev d 122 1 lv (.int 0 :: st) M Q) ∧
  (∀ (d : Nat) (st : List Value) (M : jx_M) (Q : jx_Po) (l0 l1 : Option Value) (x : Int32), jx_Ev d 122 1 [l0, l1] (.int x :: st) M Q ↔ jx_Ev d 122 2 [l0, some (.int x)] st M Q) ∧
  (∀ (d : Nat) (st : List Value) (M : jx_M) (Q : jx_Po) (l1 : Option Value) (x : Nat), jx_Ev d 122 3 [some (.ref x), l1] st M Q ↔ jx_Ev d 122 4 [some (.ref x), l1] (.ref x :: st) M Q) ∧
  (∀ (d : Nat) (lv : List (Option Value)) (st : List Value) (M : jx_M) (Q : jx_Po), jx_Ev d 122 4 lv (.ref 36 :: st) M Q ↔ jx_Ev d 122 7 lv (.int (M 36 27) :: st) M Q) ∧
  (∀ (d : Nat) (lv : List (Option Value)) (st : List Value) (M : jx_M) (Q : jx_Po) (x z : Int32), jx_Ev d 122 7 lv (.int z :: .int x :: st) M Q ↔ (if z ≤ x then jx_Ev d 122 43 lv st M Q else jx_Ev d 122 10 lv st M Q)) ∧
  (∀ (d : Nat) (st : List Value) (M : jx_M) (Q : jx_Po) (l1 : Option Value) (x : Nat), jx_Ev d 122 10 [some (.ref x), l1] st M Q ↔ jx_Ev d 122 11 [some (.ref x), l1] (.ref x :: st) M Q) ∧
  (∀ (d : Nat) (st : List Value) (M : jx_M) (Q : jx_Po) (l1 : Option Value) (x : Nat), jx_Ev d 122 11 [some (.ref x), l1] st M Q ↔ jx_Ev d 122 12 [some (.ref x), l1] (.ref x :: st) M Q) ∧
  (∀ (d : Nat) (lv : List (Option Value)) (st : List Value) (M : jx_M) (Q : jx_Po), jx_Ev d 122 12 lv (.ref 36 :: st) M Q ↔ jx_Ev d 122 15 lv (.ref 53 :: st) M Q) ∧
  (∀ (d : Nat) (st : List Value) (M : jx_M) (Q : jx_Po) (l0 : Option Value) (x : Int32), jx_Ev d 122 15 [l0, some (.int x)] st M Q ↔ jx_Ev d 122 16 [l0, some (.int x)] (.int x :: st) M Q) ∧
  (∀ (d : Nat) (lv : List (Option Value)) (st : List Value) (M : jx_M) (Q : jx_Po) (x : Int32) (a : Nat) (ha : jx_cl a = 9), jx_Ev d 122 16 lv (.int x :: .ref a :: st) M Q ↔ (vp_in x (jx_sz a) ∧ jx_Ev d 122 17 lv (.int (M a x.toNatClampNeg) :: st) M Q)) ∧
  (∀ (d : Nat) (st : List Value) (M : jx_M) (Q : jx_Po) (l1 : Option Value) (x : Nat), jx_Ev d 122 17 [some (.ref x), l1] st M Q ↔ jx_Ev d 122 18 [some (.ref x), l1] (.ref x :: st) M Q) ∧
  (∀ (d : Nat) (lv : List (Option Value)) (st : List Value) (M : jx_M) (Q : jx_Po), jx_Ev d 122 18 lv (.ref 36 :: st) M Q ↔ jx_Ev d 122 21 lv (.ref 54 :: st) M Q) ∧
  (∀ (d : Nat) (st : List Value) (M : jx_M) (Q : jx_Po) (l0 : Option Value) (x : Int32), jx_Ev d 122 21 [l0, some (.int x)] st M Q ↔ jx_Ev d 122 22 [l0, some (.int x)] (.int x :: st) M Q) ∧
  (∀ (d : Nat) (lv : List (Option Value)) (st : List Value) (M : jx_M) (Q : jx_Po) (x : Int32) (a : Nat) (ha : jx_cl a = 9), jx_Ev d 122 22 lv (.int x :: .ref a :: st) M Q ↔ (vp_in x (jx_sz a) ∧ jx_Ev d 122 23 lv (.int (M a x.toNatClampNeg) :: st) M Q)) ∧
  (∀ (d : Nat) (lv : List (Option Value)) (M : jx_M) (Q : jx_Po) (a0 : Int32) (a1 : Int32), jx_Ev (d + 1) 122 23 lv [.int a0, .int a1, .ref 36] M Q ↔ jx_I d 104 [.ref 36, .int a1, .int a0] M (fun x M => jx_Ev (d + 1) 122 26 lv (.int x :: []) M Q)) ∧
  (∀ (d : Nat) (st : List Value) (M : jx_M) (Q : jx_Po) (l1 : Option Value) (x : Nat), jx_Ev d 122 26 [some (.ref x), l1] st M Q ↔ jx_Ev d 122 27 [some (.ref x), l1] (.ref x :: st) M Q) ∧
  (∀ (d : Nat) (lv : List (Option Value)) (st : List Value) (M : jx_M) (Q : jx_Po), jx_Ev d 122 27 lv (.ref 36 :: st) M Q ↔ jx_Ev d 122 30 lv (.ref 55 :: st) M Q) ∧
  (∀ (d : Nat) (st : List Value) (M : jx_M) (Q : jx_Po) (l0 : Option Value) (x : Int32), jx_Ev d 122 30 [l0, some (.int x)] st M Q ↔ jx_Ev d 122 31 [l0, some (.int x)] (.int x :: st) M Q) ∧
  (∀ (d : Nat) (lv : List (Option Value)) (st : List Value) (M : jx_M) (Q : jx_Po) (x : Int32) (a : Nat) (ha : jx_cl a = 9), jx_Ev d 122 31 lv (.int x :: .ref a :: st) M Q ↔ (vp_in x (jx_sz a) ∧ jx_Ev d 122 32 lv (.int (M a x.toNatClampNeg) :: st) M Q)) ∧
  (∀ (d : Nat) (lv : List (Option Value)) (st : List Value) (M : jx_M) (Q : jx_Po) (x z : Int32), jx_Ev d 122 32 lv (.int z :: .int x :: st) M Q ↔ (if x = z then jx_Ev d 122 37 lv st M Q else jx_Ev d 122 35 lv st M Q)) ∧
  (∀ (d : Nat) (lv : List (Option Value)) (st : List Value) (M : jx_M) (Q : jx_Po), jx_Ev d 122 35 lv st M Q ↔ jx_Ev d 122 36 lv (.int 0 :: st) M Q) ∧
  (∀ (d : Nat) (lv : List (Option Value)) (M : jx_M) (Q : jx_Po) (x : Int32), jx_Ev d 122 36 lv [.int x] M Q ↔ ((x = 0 ∨ x = 1) ∧ Q [.int x] M)) ∧
  (∀ (d : Nat) (st : List Value) (M : jx_M) (Q : jx_Po) (l0 : Option Value) (x : Int32), jx_Ev d 122 37 [l0, some (.int x)] st M Q ↔ jx_Ev d 122 40 [l0, some (.int (x + 1))] st M Q) ∧
  (∀ (d : Nat) (lv : List (Option Value)) (st : List Value) (M : jx_M) (Q : jx_Po), jx_Ev d 122 40 lv st M Q ↔ jx_Ev d 122 2 lv st M Q) ∧
  (∀ (d : Nat) (lv : List (Option Value)) (st : List Value) (M : jx_M) (Q : jx_Po), jx_Ev d 122 43 lv st M Q ↔ jx_Ev d 122 44 lv (.int 1 :: st) M Q) ∧
  (∀ (d : Nat) (lv : List (Option Value)) (M : jx_M) (Q : jx_Po) (x : Int32), jx_Ev d 122 44 lv [.int x] M Q ↔ ((x = 0 ∨ x = 1) ∧ Q [.int x] M)) := by
  refine ⟨?_, ?_, ?_, ?_, ?_, ?_, ?_, ?_, ?_, ?_, ?_, ?_, ?_, ?_, ?_, ?_, ?_, ?_, ?_, ?_, ?_, ?_, ?_, ?_, ?_, ?_⟩
  · exact fun d lv st M Q => jx_ev_st (jx_fok (by decide +kernel : decode (jx_mb 122) 0 = .ok (.iconst 0, 1))) rfl rfl rfl
  · exact fun d st M Q l0 l1 x => jx_ev_st (jx_fok (by decide +kernel : decode (jx_mb 122) 1 = .ok (.istore_n 1, 1))) rfl rfl rfl
  · exact fun d st M Q l1 x => jx_ev_st (jx_fok (by decide +kernel : decode (jx_mb 122) 3 = .ok (.aload_n 0, 1))) rfl rfl rfl
  · exact fun d lv st M Q => jx_k_gf (jx_fok (by decide +kernel : decode (jx_mb 122) 4 = .ok (.getfield 125, 3))) rfl rfl rfl
  · exact fun d lv st M Q x z => jx_k_b2 (jx_fok (by decide +kernel : decode (jx_mb 122) 7 = .ok (.if_icmp .ge 36, 3))) rfl jx_hGe
  · exact fun d st M Q l1 x => jx_ev_st (jx_fok (by decide +kernel : decode (jx_mb 122) 10 = .ok (.aload_n 0, 1))) rfl rfl rfl
  · exact fun d st M Q l1 x => jx_ev_st (jx_fok (by decide +kernel : decode (jx_mb 122) 11 = .ok (.aload_n 0, 1))) rfl rfl rfl
  · exact fun d lv st M Q => jx_k_gf (jx_fok (by decide +kernel : decode (jx_mb 122) 12 = .ok (.getfield 58, 3))) rfl rfl rfl
  · exact fun d st M Q l0 x => jx_ev_st (jx_fok (by decide +kernel : decode (jx_mb 122) 15 = .ok (.iload_n 1, 1))) rfl rfl rfl
  · exact fun d lv st M Q x a ha => jx_k_al (jx_fok (by decide +kernel : decode (jx_mb 122) 16 = .ok (.iaload, 1))) ha
  · exact fun d st M Q l1 x => jx_ev_st (jx_fok (by decide +kernel : decode (jx_mb 122) 17 = .ok (.aload_n 0, 1))) rfl rfl rfl
  · exact fun d lv st M Q => jx_k_gf (jx_fok (by decide +kernel : decode (jx_mb 122) 18 = .ok (.getfield 61, 3))) rfl rfl rfl
  · exact fun d st M Q l0 x => jx_ev_st (jx_fok (by decide +kernel : decode (jx_mb 122) 21 = .ok (.iload_n 1, 1))) rfl rfl rfl
  · exact fun d lv st M Q x a ha => jx_k_al (jx_fok (by decide +kernel : decode (jx_mb 122) 22 = .ok (.iaload, 1))) ha
  · exact fun d lv M Q a0 a1 => jx_ev_ci (jx_fok (by decide +kernel : decode (jx_mb 122) 23 = .ok (.invokevirtual 154, 3))) rfl (jx_ccV (As := [.int a1, .int a0]) (rest := []) rfl rfl rfl rfl rfl rfl) (by decide)
  · exact fun d st M Q l1 x => jx_ev_st (jx_fok (by decide +kernel : decode (jx_mb 122) 26 = .ok (.aload_n 0, 1))) rfl rfl rfl
  · exact fun d lv st M Q => jx_k_gf (jx_fok (by decide +kernel : decode (jx_mb 122) 27 = .ok (.getfield 64, 3))) rfl rfl rfl
  · exact fun d st M Q l0 x => jx_ev_st (jx_fok (by decide +kernel : decode (jx_mb 122) 30 = .ok (.iload_n 1, 1))) rfl rfl rfl
  · exact fun d lv st M Q x a ha => jx_k_al (jx_fok (by decide +kernel : decode (jx_mb 122) 31 = .ok (.iaload, 1))) ha
  · exact fun d lv st M Q x z => jx_k_b2 (jx_fok (by decide +kernel : decode (jx_mb 122) 32 = .ok (.if_icmp .eq 5, 3))) rfl jx_hEq
  · exact fun d lv st M Q => jx_ev_st (jx_fok (by decide +kernel : decode (jx_mb 122) 35 = .ok (.iconst 0, 1))) rfl rfl rfl
  · exact fun d lv M Q x => jx_k_rz (jx_fok (by decide +kernel : decode (jx_mb 122) 36 = .ok (.ireturn, 1))) rfl
  · exact fun d st M Q l0 x => jx_ev_st (jx_fok (by decide +kernel : decode (jx_mb 122) 37 = .ok (.iinc 1 1, 3))) rfl rfl rfl
  · exact fun d lv st M Q => jx_k_goto (jx_fok (by decide +kernel : decode (jx_mb 122) 40 = .ok (.goto (-38), 3))) rfl
  · exact fun d lv st M Q => jx_ev_st (jx_fok (by decide +kernel : decode (jx_mb 122) 43 = .ok (.iconst 1, 1))) rfl rfl rfl
  · exact fun d lv M Q x => jx_k_rz (jx_fok (by decide +kernel : decode (jx_mb 122) 44 = .ok (.ireturn, 1))) rfl
theorem eX8_areSo_2 (d : Nat) (st : List Value) (M : jx_M) (Q : jx_Po) (l0 : Option Value) (x : Int32) : jx_Ev d 122 2 [l0, some (.int x)] st M Q ↔ jx_Ev d 122 3 [l0, some (.int x)] (.int x :: st) M Q := jx_ev_st (jx_fok (by decide +kernel : decode (jx_mb 122) 2 = .ok (.iload_n 1, 1))) rfl rfl rfl
theorem kX8_areSo (d : Nat) (M : jx_M) (q : Int32 → jx_M → Prop) (a0 : Value) : jx_I d 122 [a0] M q ↔ jx_Ev d 122 0 [some a0, none] [] M (jx_qI q) := Iff.rfl
set_option maxRecDepth 100000 in
theorem eX8_sizes :
  (∀ (d : Nat) (st : List Value) (M : jx_M) (Q : jx_Po) (l1 l2 l3 l4 : Option Value) (x : Nat), jx_Ev d 123 0 [some (.ref x), l1, l2, l3, l4] st M Q ↔ jx_Ev d 123 1 [some (.ref x), l1, l2, l3, l4] (.ref x :: st) M Q) ∧
  (∀ (d : Nat) (st : List Value) (M : jx_M) (Q : jx_Po) (l0 l2 l3 l4 : Option Value) (x : Int32), jx_Ev d 123 1 [l0, some (.int x), l2, l3, l4] st M Q ↔ jx_Ev d 123 2 [l0, some (.int x), l2, l3, l4] (.int x :: st) M Q) ∧
  (∀ (d : Nat) (lv : List (Option Value)) (M : jx_M) (Q : jx_Po) (a0 : Int32), jx_Ev (d + 1) 123 2 lv [.int a0, .ref 36] M Q ↔ jx_I d 90 [.ref 36, .int a0] M (fun x M => jx_Ev (d + 1) 123 5 lv (.int x :: []) M Q)) ∧
  (∀ (d : Nat) (lv : List (Option Value)) (st : List Value) (M : jx_M) (Q : jx_Po) (x : Int32), jx_Ev d 123 5 lv (.int x :: st) M Q ↔ (if x = 0 then jx_Ev d 123 8 lv st M Q else jx_Ev d 123 10 lv st M Q)) ∧
  (∀ (d : Nat) (lv : List (Option Value)) (st : List Value) (M : jx_M) (Q : jx_Po), jx_Ev d 123 8 lv st M Q ↔ jx_Ev d 123 9 lv (.int (-1) :: st) M Q) ∧
  (∀ (d : Nat) (lv : List (Option Value)) (M : jx_M) (Q : jx_Po) (x : Int32), jx_Ev d 123 9 lv [.int x] M Q ↔ Q [.int x] M) ∧
  (∀ (d : Nat) (st : List Value) (M : jx_M) (Q : jx_Po) (l1 l2 l3 l4 : Option Value) (x : Nat), jx_Ev d 123 10 [some (.ref x), l1, l2, l3, l4] st M Q ↔ jx_Ev d 123 11 [some (.ref x), l1, l2, l3, l4] (.ref x :: st) M Q) ∧
  (∀ (d : Nat) (lv : List (Option Value)) (st : List Value) (M : jx_M) (Q : jx_Po), jx_Ev d 123 11 lv (.ref 36 :: st) M Q ↔ jx_Ev d 123 14 lv (.ref 43 :: st) M Q) ∧
  (∀ (d : Nat) (st : List Value) (M : jx_M) (Q : jx_Po) (l0 l2 l3 l4 : Option Value) (x : Int32), jx_Ev d 123 14 [l0, some (.int x), l2, l3, l4] st M Q ↔ jx_Ev d 123 15 [l0, some (.int x), l2, l3, l4] (.int x :: st) M Q) ∧
  (∀ (d : Nat) (lv : List (Option Value)) (st : List Value) (M : jx_M) (Q : jx_Po) (x : Int32) (a : Nat) (ha : jx_cl a = 9), jx_Ev d 123 15 lv (.int x :: .ref a :: st) M Q ↔ (vp_in x (jx_sz a) ∧ jx_Ev d 123 16 lv (.int (M a x.toNatClampNeg) :: st) M Q)) ∧
  (∀ (d : Nat) (st : List Value) (M : jx_M) (Q : jx_Po) (l0 l1 l2 l3 l4 : Option Value) (x : Int32), jx_Ev d 123 16 [l0, l1, l2, l3, l4] (.int x :: st) M Q ↔ jx_Ev d 123 17 [l0, l1, some (.int x), l3, l4] st M Q) ∧
  (∀ (d : Nat) (lv : List (Option Value)) (st : List Value) (M : jx_M) (Q : jx_Po), jx_Ev d 123 17 lv st M Q ↔ jx_Ev d 123 18 lv (.int 0 :: st) M Q) ∧
  (∀ (d : Nat) (st : List Value) (M : jx_M) (Q : jx_Po) (l0 l1 l2 l3 l4 : Option Value) (x : Int32), jx_Ev d 123 18 [l0, l1, l2, l3, l4] (.int x :: st) M Q ↔ jx_Ev d 123 19 [l0, l1, l2, some (.int x), l4] st M Q) ∧
  (∀ (d : Nat) (lv : List (Option Value)) (st : List Value) (M : jx_M) (Q : jx_Po), jx_Ev d 123 19 lv st M Q ↔ jx_Ev d 123 20 lv (.int 1 :: st) M Q) ∧
  (∀ (d : Nat) (st : List Value) (M : jx_M) (Q : jx_Po) (l0 l1 l2 l3 l4 : Option Value) (x : Int32), jx_Ev d 123 20 [l0, l1, l2, l3, l4] (.int x :: st) M Q ↔ jx_Ev d 123 22 [l0, l1, l2, l3, some (.int x)] st M Q) ∧
  (∀ (d : Nat) (lv : List (Option Value)) (st : List Value) (M : jx_M) (Q : jx_Po), jx_Ev d 123 24 lv st M Q ↔ jx_Ev d 123 26 lv (.int 9 :: st) M Q) ∧
  (∀ (d : Nat) (lv : List (Option Value)) (st : List Value) (M : jx_M) (Q : jx_Po) (x z : Int32), jx_Ev d 123 26 lv (.int z :: .int x :: st) M Q ↔ (if z < x then jx_Ev d 123 61 lv st M Q else jx_Ev d 123 29 lv st M Q)) ∧
  (∀ (d : Nat) (st : List Value) (M : jx_M) (Q : jx_Po) (l1 l2 l3 l4 : Option Value) (x : Nat), jx_Ev d 123 29 [some (.ref x), l1, l2, l3, l4] st M Q ↔ jx_Ev d 123 30 [some (.ref x), l1, l2, l3, l4] (.ref x :: st) M Q) ∧
  (∀ (d : Nat) (lv : List (Option Value)) (st : List Value) (M : jx_M) (Q : jx_Po), jx_Ev d 123 30 lv (.ref 36 :: st) M Q ↔ jx_Ev d 123 33 lv (.ref 43 :: st) M Q) ∧
  (∀ (d : Nat) (st : List Value) (M : jx_M) (Q : jx_Po) (l0 l2 l3 l4 : Option Value) (x : Int32), jx_Ev d 123 33 [l0, some (.int x), l2, l3, l4] st M Q ↔ jx_Ev d 123 34 [l0, some (.int x), l2, l3, l4] (.int x :: st) M Q) ∧
  (∀ (d : Nat) (st : List Value) (M : jx_M) (Q : jx_Po) (l0 l1 l2 l3 : Option Value) (x : Int32), jx_Ev d 123 34 [l0, l1, l2, l3, some (.int x)] st M Q ↔ jx_Ev d 123 36 [l0, l1, l2, l3, some (.int x)] (.int x :: st) M Q) ∧
  (∀ (d : Nat) (lv : List (Option Value)) (st : List Value) (M : jx_M) (Q : jx_Po) (x z : Int32) (a : Nat) (ha : jx_cl a = 9), jx_Ev d 123 36 lv (.int z :: .int x :: .ref a :: st) M Q ↔ (vp_in x (jx_sz a) ∧ jx_Ev d 123 37 lv st (jx_up M a x.toNatClampNeg z) Q)) ∧
  (∀ (d : Nat) (st : List Value) (M : jx_M) (Q : jx_Po) (l0 l1 l2 l4 : Option Value) (x : Int32), jx_Ev d 123 37 [l0, l1, l2, some (.int x), l4] st M Q ↔ jx_Ev d 123 38 [l0, l1, l2, some (.int x), l4] (.int x :: st) M Q) ∧
  (∀ (d : Nat) (st : List Value) (M : jx_M) (Q : jx_Po) (l1 l2 l3 l4 : Option Value) (x : Nat), jx_Ev d 123 38 [some (.ref x), l1, l2, l3, l4] st M Q ↔ jx_Ev d 123 39 [some (.ref x), l1, l2, l3, l4] (.ref x :: st) M Q) ∧
  (∀ (d : Nat) (lv : List (Option Value)) (M : jx_M) (Q : jx_Po) (a1 : Int32), jx_Ev (d + 1) 123 39 lv [.ref 36, .int a1] M Q ↔ jx_I d 122 [.ref 36] M (fun x M => jx_Ev (d + 1) 123 42 lv (.int x :: [.int a1]) M Q)) ∧
  (∀ (d : Nat) (lv : List (Option Value)) (st : List Value) (M : jx_M) (Q : jx_Po) (x : Int32), jx_Ev d 123 42 lv (.int x :: st) M Q ↔ (if x = 0 then jx_Ev d 123 52 lv st M Q else jx_Ev d 123 45 lv st M Q)) ∧
  (∀ (d : Nat) (lv : List (Option Value)) (st : List Value) (M : jx_M) (Q : jx_Po), jx_Ev d 123 45 lv st M Q ↔ jx_Ev d 123 46 lv (.int 1 :: st) M Q) ∧
  (∀ (d : Nat) (st : List Value) (M : jx_M) (Q : jx_Po) (l0 l1 l2 l3 : Option Value) (x : Int32), jx_Ev d 123 46 [l0, l1, l2, l3, some (.int x)] st M Q ↔ jx_Ev d 123 48 [l0, l1, l2, l3, some (.int x)] (.int x :: st) M Q) ∧
  (∀ (d : Nat) (lv : List (Option Value)) (st : List Value) (M : jx_M) (Q : jx_Po) (x z : Int32), jx_Ev d 123 48 lv (.int z :: .int x :: st) M Q ↔ jx_Ev d 123 49 lv (.int (x <<< (z &&& 31)) :: st) M Q) ∧
  (∀ (d : Nat) (lv : List (Option Value)) (st : List Value) (M : jx_M) (Q : jx_Po), jx_Ev d 123 49 lv st M Q ↔ jx_Ev d 123 53 lv st M Q) ∧
  (∀ (d : Nat) (lv : List (Option Value)) (st : List Value) (M : jx_M) (Q : jx_Po), jx_Ev d 123 52 lv st M Q ↔ jx_Ev d 123 53 lv (.int 0 :: st) M Q) ∧
  (∀ (d : Nat) (lv : List (Option Value)) (st : List Value) (M : jx_M) (Q : jx_Po) (x z : Int32), jx_Ev d 123 53 lv (.int z :: .int x :: st) M Q ↔ jx_Ev d 123 54 lv (.int (x ||| z) :: st) M Q) ∧
  (∀ (d : Nat) (st : List Value) (M : jx_M) (Q : jx_Po) (l0 l1 l2 l3 l4 : Option Value) (x : Int32), jx_Ev d 123 54 [l0, l1, l2, l3, l4] (.int x :: st) M Q ↔ jx_Ev d 123 55 [l0, l1, l2, some (.int x), l4] st M Q) ∧
  (∀ (d : Nat) (st : List Value) (M : jx_M) (Q : jx_Po) (l0 l1 l2 l3 : Option Value) (x : Int32), jx_Ev d 123 55 [l0, l1, l2, l3, some (.int x)] st M Q ↔ jx_Ev d 123 58 [l0, l1, l2, l3, some (.int (x + 1))] st M Q) ∧
  (∀ (d : Nat) (lv : List (Option Value)) (st : List Value) (M : jx_M) (Q : jx_Po), jx_Ev d 123 58 lv st M Q ↔ jx_Ev d 123 22 lv st M Q) ∧
  (∀ (d : Nat) (st : List Value) (M : jx_M) (Q : jx_Po) (l1 l2 l3 l4 : Option Value) (x : Nat), jx_Ev d 123 61 [some (.ref x), l1, l2, l3, l4] st M Q ↔ jx_Ev d 123 62 [some (.ref x), l1, l2, l3, l4] (.ref x :: st) M Q) ∧
  (∀ (d : Nat) (lv : List (Option Value)) (st : List Value) (M : jx_M) (Q : jx_Po), jx_Ev d 123 62 lv (.ref 36 :: st) M Q ↔ jx_Ev d 123 65 lv (.ref 43 :: st) M Q) ∧
  (∀ (d : Nat) (st : List Value) (M : jx_M) (Q : jx_Po) (l0 l2 l3 l4 : Option Value) (x : Int32), jx_Ev d 123 65 [l0, some (.int x), l2, l3, l4] st M Q ↔ jx_Ev d 123 66 [l0, some (.int x), l2, l3, l4] (.int x :: st) M Q) ∧
  (∀ (d : Nat) (st : List Value) (M : jx_M) (Q : jx_Po) (l0 l1 l3 l4 : Option Value) (x : Int32), jx_Ev d 123 66 [l0, l1, some (.int x), l3, l4] st M Q ↔ jx_Ev d 123 67 [l0, l1, some (.int x), l3, l4] (.int x :: st) M Q) ∧
  (∀ (d : Nat) (lv : List (Option Value)) (st : List Value) (M : jx_M) (Q : jx_Po) (x z : Int32) (a : Nat) (ha : jx_cl a = 9), jx_Ev d 123 67 lv (.int z :: .int x :: .ref a :: st) M Q ↔ (vp_in x (jx_sz a) ∧ jx_Ev d 123 68 lv st (jx_up M a x.toNatClampNeg z) Q)) ∧
  (∀ (d : Nat) (st : List Value) (M : jx_M) (Q : jx_Po) (l0 l1 l2 l4 : Option Value) (x : Int32), jx_Ev d 123 68 [l0, l1, l2, some (.int x), l4] st M Q ↔ jx_Ev d 123 69 [l0, l1, l2, some (.int x), l4] (.int x :: st) M Q) ∧
  (∀ (d : Nat) (lv : List (Option Value)) (M : jx_M) (Q : jx_Po) (x : Int32), jx_Ev d 123 69 lv [.int x] M Q ↔ Q [.int x] M) := by
  refine ⟨?_, ?_, ?_, ?_, ?_, ?_, ?_, ?_, ?_, ?_, ?_, ?_, ?_, ?_, ?_, ?_, ?_, ?_, ?_, ?_, ?_, ?_, ?_, ?_, ?_, ?_, ?_, ?_, ?_, ?_, ?_, ?_, ?_, ?_, ?_, ?_, ?_, ?_, ?_, ?_, ?_, ?_⟩
  · exact fun d st M Q l1 l2 l3 l4 x => jx_ev_st (jx_fok (by decide +kernel : decode (jx_mb 123) 0 = .ok (.aload_n 0, 1))) rfl rfl rfl
  · exact fun d st M Q l0 l2 l3 l4 x => jx_ev_st (jx_fok (by decide +kernel : decode (jx_mb 123) 1 = .ok (.iload_n 1, 1))) rfl rfl rfl
  · exact fun d lv M Q a0 => jx_ev_ci (jx_fok (by decide +kernel : decode (jx_mb 123) 2 = .ok (.invokevirtual 148, 3))) rfl (jx_ccV (As := [.int a0]) (rest := []) rfl rfl rfl rfl rfl rfl) (by decide)
  · exact fun d lv st M Q x => jx_k_b1n (jx_fok (by decide +kernel : decode (jx_mb 123) 5 = .ok (.ifCond .ne 5, 3))) rfl jx_hNe
  · exact fun d lv st M Q => jx_ev_st (jx_fok (by decide +kernel : decode (jx_mb 123) 8 = .ok (.iconst (-1), 1))) rfl rfl rfl
  · exact fun d lv M Q x => jx_k_ri (jx_fok (by decide +kernel : decode (jx_mb 123) 9 = .ok (.ireturn, 1))) rfl
  · exact fun d st M Q l1 l2 l3 l4 x => jx_ev_st (jx_fok (by decide +kernel : decode (jx_mb 123) 10 = .ok (.aload_n 0, 1))) rfl rfl rfl
  · exact fun d lv st M Q => jx_k_gf (jx_fok (by decide +kernel : decode (jx_mb 123) 11 = .ok (.getfield 28, 3))) rfl rfl rfl
  · exact fun d st M Q l0 l2 l3 l4 x => jx_ev_st (jx_fok (by decide +kernel : decode (jx_mb 123) 14 = .ok (.iload_n 1, 1))) rfl rfl rfl
  · exact fun d lv st M Q x a ha => jx_k_al (jx_fok (by decide +kernel : decode (jx_mb 123) 15 = .ok (.iaload, 1))) ha
  · exact fun d st M Q l0 l1 l2 l3 l4 x => jx_ev_st (jx_fok (by decide +kernel : decode (jx_mb 123) 16 = .ok (.istore_n 2, 1))) rfl rfl rfl
  · exact fun d lv st M Q => jx_ev_st (jx_fok (by decide +kernel : decode (jx_mb 123) 17 = .ok (.iconst 0, 1))) rfl rfl rfl
  · exact fun d st M Q l0 l1 l2 l3 l4 x => jx_ev_st (jx_fok (by decide +kernel : decode (jx_mb 123) 18 = .ok (.istore_n 3, 1))) rfl rfl rfl
  · exact fun d lv st M Q => jx_ev_st (jx_fok (by decide +kernel : decode (jx_mb 123) 19 = .ok (.iconst 1, 1))) rfl rfl rfl
  · exact fun d st M Q l0 l1 l2 l3 l4 x => jx_ev_st (jx_fok (by decide +kernel : decode (jx_mb 123) 20 = .ok (.istore 4, 2))) rfl rfl rfl
  · exact fun d lv st M Q => jx_ev_st (jx_fok (by decide +kernel : decode (jx_mb 123) 24 = .ok (.bipush 9, 2))) rfl rfl rfl
  · exact fun d lv st M Q x z => jx_k_b2 (jx_fok (by decide +kernel : decode (jx_mb 123) 26 = .ok (.if_icmp .gt 35, 3))) rfl jx_hGt
  · exact fun d st M Q l1 l2 l3 l4 x => jx_ev_st (jx_fok (by decide +kernel : decode (jx_mb 123) 29 = .ok (.aload_n 0, 1))) rfl rfl rfl
  · exact fun d lv st M Q => jx_k_gf (jx_fok (by decide +kernel : decode (jx_mb 123) 30 = .ok (.getfield 28, 3))) rfl rfl rfl
  · exact fun d st M Q l0 l2 l3 l4 x => jx_ev_st (jx_fok (by decide +kernel : decode (jx_mb 123) 33 = .ok (.iload_n 1, 1))) rfl rfl rfl
  · exact fun d st M Q l0 l1 l2 l3 x => jx_ev_st (jx_fok (by decide +kernel : decode (jx_mb 123) 34 = .ok (.iload 4, 2))) rfl rfl rfl
  · exact fun d lv st M Q x z a ha => jx_k_as (jx_fok (by decide +kernel : decode (jx_mb 123) 36 = .ok (.iastore, 1))) ha
  · exact fun d st M Q l0 l1 l2 l4 x => jx_ev_st (jx_fok (by decide +kernel : decode (jx_mb 123) 37 = .ok (.iload_n 3, 1))) rfl rfl rfl
  · exact fun d st M Q l1 l2 l3 l4 x => jx_ev_st (jx_fok (by decide +kernel : decode (jx_mb 123) 38 = .ok (.aload_n 0, 1))) rfl rfl rfl
  · exact fun d lv M Q a1 => jx_ev_ci (jx_fok (by decide +kernel : decode (jx_mb 123) 39 = .ok (.invokevirtual 179, 3))) rfl (jx_ccV (As := []) (rest := [.int a1]) rfl rfl rfl rfl rfl rfl) (by decide)
  · exact fun d lv st M Q x => jx_k_b1 (jx_fok (by decide +kernel : decode (jx_mb 123) 42 = .ok (.ifCond .eq 10, 3))) rfl jx_hEq
  · exact fun d lv st M Q => jx_ev_st (jx_fok (by decide +kernel : decode (jx_mb 123) 45 = .ok (.iconst 1, 1))) rfl rfl rfl
  · exact fun d st M Q l0 l1 l2 l3 x => jx_ev_st (jx_fok (by decide +kernel : decode (jx_mb 123) 46 = .ok (.iload 4, 2))) rfl rfl rfl
  · exact fun d lv st M Q x z => jx_ev_st (jx_fok (by decide +kernel : decode (jx_mb 123) 48 = .ok (.ishl, 1))) rfl rfl rfl
  · exact fun d lv st M Q => jx_k_goto (jx_fok (by decide +kernel : decode (jx_mb 123) 49 = .ok (.goto 4, 3))) rfl
  · exact fun d lv st M Q => jx_ev_st (jx_fok (by decide +kernel : decode (jx_mb 123) 52 = .ok (.iconst 0, 1))) rfl rfl rfl
  · exact fun d lv st M Q x z => jx_ev_st (jx_fok (by decide +kernel : decode (jx_mb 123) 53 = .ok (.ior, 1))) rfl rfl rfl
  · exact fun d st M Q l0 l1 l2 l3 l4 x => jx_ev_st (jx_fok (by decide +kernel : decode (jx_mb 123) 54 = .ok (.istore_n 3, 1))) rfl rfl rfl
  · exact fun d st M Q l0 l1 l2 l3 x => jx_ev_st (jx_fok (by decide +kernel : decode (jx_mb 123) 55 = .ok (.iinc 4 1, 3))) rfl rfl rfl
  · exact fun d lv st M Q => jx_k_goto (jx_fok (by decide +kernel : decode (jx_mb 123) 58 = .ok (.goto (-36), 3))) rfl
  · exact fun d st M Q l1 l2 l3 l4 x => jx_ev_st (jx_fok (by decide +kernel : decode (jx_mb 123) 61 = .ok (.aload_n 0, 1))) rfl rfl rfl
  · exact fun d lv st M Q => jx_k_gf (jx_fok (by decide +kernel : decode (jx_mb 123) 62 = .ok (.getfield 28, 3))) rfl rfl rfl
  · exact fun d st M Q l0 l2 l3 l4 x => jx_ev_st (jx_fok (by decide +kernel : decode (jx_mb 123) 65 = .ok (.iload_n 1, 1))) rfl rfl rfl
  · exact fun d st M Q l0 l1 l3 l4 x => jx_ev_st (jx_fok (by decide +kernel : decode (jx_mb 123) 66 = .ok (.iload_n 2, 1))) rfl rfl rfl
  · exact fun d lv st M Q x z a ha => jx_k_as (jx_fok (by decide +kernel : decode (jx_mb 123) 67 = .ok (.iastore, 1))) ha
  · exact fun d st M Q l0 l1 l2 l4 x => jx_ev_st (jx_fok (by decide +kernel : decode (jx_mb 123) 68 = .ok (.iload_n 3, 1))) rfl rfl rfl
  · exact fun d lv M Q x => jx_k_ri (jx_fok (by decide +kernel : decode (jx_mb 123) 69 = .ok (.ireturn, 1))) rfl
theorem eX8_sizes_22 (d : Nat) (st : List Value) (M : jx_M) (Q : jx_Po) (l0 l1 l2 l3 : Option Value) (x : Int32) : jx_Ev d 123 22 [l0, l1, l2, l3, some (.int x)] st M Q ↔ jx_Ev d 123 24 [l0, l1, l2, l3, some (.int x)] (.int x :: st) M Q := jx_ev_st (jx_fok (by decide +kernel : decode (jx_mb 123) 22 = .ok (.iload 4, 2))) rfl rfl rfl
theorem kX8_sizes (d : Nat) (M : jx_M) (q : Int32 → jx_M → Prop) (a0 a1 : Value) : jx_I d 123 [a0, a1] M q ↔ jx_Ev d 123 0 [some a0, some a1, none, none, none] [] M (jx_qI q) := Iff.rfl
set_option maxRecDepth 100000 in
theorem eX8_kinds :
  (∀ (d : Nat) (st : List Value) (M : jx_M) (Q : jx_Po) (l1 l2 l3 l4 : Option Value) (x : Nat), jx_Ev d 124 0 [some (.ref x), l1, l2, l3, l4] st M Q ↔ jx_Ev d 124 1 [some (.ref x), l1, l2, l3, l4] (.ref x :: st) M Q) ∧
  (∀ (d : Nat) (st : List Value) (M : jx_M) (Q : jx_Po) (l0 l2 l3 l4 : Option Value) (x : Int32), jx_Ev d 124 1 [l0, some (.int x), l2, l3, l4] st M Q ↔ jx_Ev d 124 2 [l0, some (.int x), l2, l3, l4] (.int x :: st) M Q) ∧
  (∀ (d : Nat) (lv : List (Option Value)) (M : jx_M) (Q : jx_Po) (a0 : Int32), jx_Ev (d + 1) 124 2 lv [.int a0, .ref 36] M Q ↔ jx_I d 90 [.ref 36, .int a0] M (fun x M => jx_Ev (d + 1) 124 5 lv (.int x :: []) M Q)) ∧
  (∀ (d : Nat) (lv : List (Option Value)) (st : List Value) (M : jx_M) (Q : jx_Po) (x : Int32), jx_Ev d 124 5 lv (.int x :: st) M Q ↔ (if x = 0 then jx_Ev d 124 8 lv st M Q else jx_Ev d 124 10 lv st M Q)) ∧
  (∀ (d : Nat) (lv : List (Option Value)) (st : List Value) (M : jx_M) (Q : jx_Po), jx_Ev d 124 8 lv st M Q ↔ jx_Ev d 124 9 lv (.int (-1) :: st) M Q) ∧
  (∀ (d : Nat) (lv : List (Option Value)) (M : jx_M) (Q : jx_Po) (x : Int32), jx_Ev d 124 9 lv [.int x] M Q ↔ Q [.int x] M) ∧
  (∀ (d : Nat) (st : List Value) (M : jx_M) (Q : jx_Po) (l1 l2 l3 l4 : Option Value) (x : Nat), jx_Ev d 124 10 [some (.ref x), l1, l2, l3, l4] st M Q ↔ jx_Ev d 124 11 [some (.ref x), l1, l2, l3, l4] (.ref x :: st) M Q) ∧
  (∀ (d : Nat) (lv : List (Option Value)) (st : List Value) (M : jx_M) (Q : jx_Po), jx_Ev d 124 11 lv (.ref 36 :: st) M Q ↔ jx_Ev d 124 14 lv (.ref 42 :: st) M Q) ∧
  (∀ (d : Nat) (st : List Value) (M : jx_M) (Q : jx_Po) (l0 l2 l3 l4 : Option Value) (x : Int32), jx_Ev d 124 14 [l0, some (.int x), l2, l3, l4] st M Q ↔ jx_Ev d 124 15 [l0, some (.int x), l2, l3, l4] (.int x :: st) M Q) ∧
  (∀ (d : Nat) (lv : List (Option Value)) (st : List Value) (M : jx_M) (Q : jx_Po) (x : Int32) (a : Nat) (ha : jx_cl a = 9), jx_Ev d 124 15 lv (.int x :: .ref a :: st) M Q ↔ (vp_in x (jx_sz a) ∧ jx_Ev d 124 16 lv (.int (M a x.toNatClampNeg) :: st) M Q)) ∧
  (∀ (d : Nat) (st : List Value) (M : jx_M) (Q : jx_Po) (l0 l1 l2 l3 l4 : Option Value) (x : Int32), jx_Ev d 124 16 [l0, l1, l2, l3, l4] (.int x :: st) M Q ↔ jx_Ev d 124 17 [l0, l1, some (.int x), l3, l4] st M Q) ∧
  (∀ (d : Nat) (lv : List (Option Value)) (st : List Value) (M : jx_M) (Q : jx_Po), jx_Ev d 124 17 lv st M Q ↔ jx_Ev d 124 18 lv (.int 0 :: st) M Q) ∧
  (∀ (d : Nat) (st : List Value) (M : jx_M) (Q : jx_Po) (l0 l1 l2 l3 l4 : Option Value) (x : Int32), jx_Ev d 124 18 [l0, l1, l2, l3, l4] (.int x :: st) M Q ↔ jx_Ev d 124 19 [l0, l1, l2, some (.int x), l4] st M Q) ∧
  (∀ (d : Nat) (lv : List (Option Value)) (st : List Value) (M : jx_M) (Q : jx_Po), jx_Ev d 124 19 lv st M Q ↔ jx_Ev d 124 20 lv (.int 0 :: st) M Q) ∧
  (∀ (d : Nat) (st : List Value) (M : jx_M) (Q : jx_Po) (l0 l1 l2 l3 l4 : Option Value) (x : Int32), jx_Ev d 124 20 [l0, l1, l2, l3, l4] (.int x :: st) M Q ↔ jx_Ev d 124 22 [l0, l1, l2, l3, some (.int x)] st M Q) ∧
  (∀ (d : Nat) (lv : List (Option Value)) (st : List Value) (M : jx_M) (Q : jx_Po), jx_Ev d 124 24 lv st M Q ↔ jx_Ev d 124 25 lv (.int 3 :: st) M Q) ∧
  (∀ (d : Nat) (lv : List (Option Value)) (st : List Value) (M : jx_M) (Q : jx_Po) (x z : Int32), jx_Ev d 124 25 lv (.int z :: .int x :: st) M Q ↔ (if z ≤ x then jx_Ev d 124 60 lv st M Q else jx_Ev d 124 28 lv st M Q)) ∧
  (∀ (d : Nat) (st : List Value) (M : jx_M) (Q : jx_Po) (l1 l2 l3 l4 : Option Value) (x : Nat), jx_Ev d 124 28 [some (.ref x), l1, l2, l3, l4] st M Q ↔ jx_Ev d 124 29 [some (.ref x), l1, l2, l3, l4] (.ref x :: st) M Q) ∧
  (∀ (d : Nat) (lv : List (Option Value)) (st : List Value) (M : jx_M) (Q : jx_Po), jx_Ev d 124 29 lv (.ref 36 :: st) M Q ↔ jx_Ev d 124 32 lv (.ref 42 :: st) M Q) ∧
  (∀ (d : Nat) (st : List Value) (M : jx_M) (Q : jx_Po) (l0 l2 l3 l4 : Option Value) (x : Int32), jx_Ev d 124 32 [l0, some (.int x), l2, l3, l4] st M Q ↔ jx_Ev d 124 33 [l0, some (.int x), l2, l3, l4] (.int x :: st) M Q) ∧
  (∀ (d : Nat) (st : List Value) (M : jx_M) (Q : jx_Po) (l0 l1 l2 l3 : Option Value) (x : Int32), jx_Ev d 124 33 [l0, l1, l2, l3, some (.int x)] st M Q ↔ jx_Ev d 124 35 [l0, l1, l2, l3, some (.int x)] (.int x :: st) M Q) ∧
  (∀ (d : Nat) (lv : List (Option Value)) (st : List Value) (M : jx_M) (Q : jx_Po) (x z : Int32) (a : Nat) (ha : jx_cl a = 9), jx_Ev d 124 35 lv (.int z :: .int x :: .ref a :: st) M Q ↔ (vp_in x (jx_sz a) ∧ jx_Ev d 124 36 lv st (jx_up M a x.toNatClampNeg z) Q)) ∧
  (∀ (d : Nat) (st : List Value) (M : jx_M) (Q : jx_Po) (l0 l1 l2 l4 : Option Value) (x : Int32), jx_Ev d 124 36 [l0, l1, l2, some (.int x), l4] st M Q ↔ jx_Ev d 124 37 [l0, l1, l2, some (.int x), l4] (.int x :: st) M Q) ∧
  (∀ (d : Nat) (st : List Value) (M : jx_M) (Q : jx_Po) (l1 l2 l3 l4 : Option Value) (x : Nat), jx_Ev d 124 37 [some (.ref x), l1, l2, l3, l4] st M Q ↔ jx_Ev d 124 38 [some (.ref x), l1, l2, l3, l4] (.ref x :: st) M Q) ∧
  (∀ (d : Nat) (lv : List (Option Value)) (M : jx_M) (Q : jx_Po) (a1 : Int32), jx_Ev (d + 1) 124 38 lv [.ref 36, .int a1] M Q ↔ jx_I d 122 [.ref 36] M (fun x M => jx_Ev (d + 1) 124 41 lv (.int x :: [.int a1]) M Q)) ∧
  (∀ (d : Nat) (lv : List (Option Value)) (st : List Value) (M : jx_M) (Q : jx_Po) (x : Int32), jx_Ev d 124 41 lv (.int x :: st) M Q ↔ (if x = 0 then jx_Ev d 124 51 lv st M Q else jx_Ev d 124 44 lv st M Q)) ∧
  (∀ (d : Nat) (lv : List (Option Value)) (st : List Value) (M : jx_M) (Q : jx_Po), jx_Ev d 124 44 lv st M Q ↔ jx_Ev d 124 45 lv (.int 1 :: st) M Q) ∧
  (∀ (d : Nat) (st : List Value) (M : jx_M) (Q : jx_Po) (l0 l1 l2 l3 : Option Value) (x : Int32), jx_Ev d 124 45 [l0, l1, l2, l3, some (.int x)] st M Q ↔ jx_Ev d 124 47 [l0, l1, l2, l3, some (.int x)] (.int x :: st) M Q) ∧
  (∀ (d : Nat) (lv : List (Option Value)) (st : List Value) (M : jx_M) (Q : jx_Po) (x z : Int32), jx_Ev d 124 47 lv (.int z :: .int x :: st) M Q ↔ jx_Ev d 124 48 lv (.int (x <<< (z &&& 31)) :: st) M Q) ∧
  (∀ (d : Nat) (lv : List (Option Value)) (st : List Value) (M : jx_M) (Q : jx_Po), jx_Ev d 124 48 lv st M Q ↔ jx_Ev d 124 52 lv st M Q) ∧
  (∀ (d : Nat) (lv : List (Option Value)) (st : List Value) (M : jx_M) (Q : jx_Po), jx_Ev d 124 51 lv st M Q ↔ jx_Ev d 124 52 lv (.int 0 :: st) M Q) ∧
  (∀ (d : Nat) (lv : List (Option Value)) (st : List Value) (M : jx_M) (Q : jx_Po) (x z : Int32), jx_Ev d 124 52 lv (.int z :: .int x :: st) M Q ↔ jx_Ev d 124 53 lv (.int (x ||| z) :: st) M Q) ∧
  (∀ (d : Nat) (st : List Value) (M : jx_M) (Q : jx_Po) (l0 l1 l2 l3 l4 : Option Value) (x : Int32), jx_Ev d 124 53 [l0, l1, l2, l3, l4] (.int x :: st) M Q ↔ jx_Ev d 124 54 [l0, l1, l2, some (.int x), l4] st M Q) ∧
  (∀ (d : Nat) (st : List Value) (M : jx_M) (Q : jx_Po) (l0 l1 l2 l3 : Option Value) (x : Int32), jx_Ev d 124 54 [l0, l1, l2, l3, some (.int x)] st M Q ↔ jx_Ev d 124 57 [l0, l1, l2, l3, some (.int (x + 1))] st M Q) ∧
  (∀ (d : Nat) (lv : List (Option Value)) (st : List Value) (M : jx_M) (Q : jx_Po), jx_Ev d 124 57 lv st M Q ↔ jx_Ev d 124 22 lv st M Q) ∧
  (∀ (d : Nat) (st : List Value) (M : jx_M) (Q : jx_Po) (l1 l2 l3 l4 : Option Value) (x : Nat), jx_Ev d 124 60 [some (.ref x), l1, l2, l3, l4] st M Q ↔ jx_Ev d 124 61 [some (.ref x), l1, l2, l3, l4] (.ref x :: st) M Q) ∧
  (∀ (d : Nat) (lv : List (Option Value)) (st : List Value) (M : jx_M) (Q : jx_Po), jx_Ev d 124 61 lv (.ref 36 :: st) M Q ↔ jx_Ev d 124 64 lv (.ref 42 :: st) M Q) ∧
  (∀ (d : Nat) (st : List Value) (M : jx_M) (Q : jx_Po) (l0 l2 l3 l4 : Option Value) (x : Int32), jx_Ev d 124 64 [l0, some (.int x), l2, l3, l4] st M Q ↔ jx_Ev d 124 65 [l0, some (.int x), l2, l3, l4] (.int x :: st) M Q) ∧
  (∀ (d : Nat) (st : List Value) (M : jx_M) (Q : jx_Po) (l0 l1 l3 l4 : Option Value) (x : Int32), jx_Ev d 124 65 [l0, l1, some (.int x), l3, l4] st M Q ↔ jx_Ev d 124 66 [l0, l1, some (.int x), l3, l4] (.int x :: st) M Q) ∧
  (∀ (d : Nat) (lv : List (Option Value)) (st : List Value) (M : jx_M) (Q : jx_Po) (x z : Int32) (a : Nat) (ha : jx_cl a = 9), jx_Ev d 124 66 lv (.int z :: .int x :: .ref a :: st) M Q ↔ (vp_in x (jx_sz a) ∧ jx_Ev d 124 67 lv st (jx_up M a x.toNatClampNeg z) Q)) ∧
  (∀ (d : Nat) (st : List Value) (M : jx_M) (Q : jx_Po) (l0 l1 l2 l4 : Option Value) (x : Int32), jx_Ev d 124 67 [l0, l1, l2, some (.int x), l4] st M Q ↔ jx_Ev d 124 68 [l0, l1, l2, some (.int x), l4] (.int x :: st) M Q) ∧
  (∀ (d : Nat) (lv : List (Option Value)) (M : jx_M) (Q : jx_Po) (x : Int32), jx_Ev d 124 68 lv [.int x] M Q ↔ Q [.int x] M) := by
  refine ⟨?_, ?_, ?_, ?_, ?_, ?_, ?_, ?_, ?_, ?_, ?_, ?_, ?_, ?_, ?_, ?_, ?_, ?_, ?_, ?_, ?_, ?_, ?_, ?_, ?_, ?_, ?_, ?_, ?_, ?_, ?_, ?_, ?_, ?_, ?_, ?_, ?_, ?_, ?_, ?_, ?_, ?_⟩
  · exact fun d st M Q l1 l2 l3 l4 x => jx_ev_st (jx_fok (by decide +kernel : decode (jx_mb 124) 0 = .ok (.aload_n 0, 1))) rfl rfl rfl
  · exact fun d st M Q l0 l2 l3 l4 x => jx_ev_st (jx_fok (by decide +kernel : decode (jx_mb 124) 1 = .ok (.iload_n 1, 1))) rfl rfl rfl
  · exact fun d lv M Q a0 => jx_ev_ci (jx_fok (by decide +kernel : decode (jx_mb 124) 2 = .ok (.invokevirtual 148, 3))) rfl (jx_ccV (As := [.int a0]) (rest := []) rfl rfl rfl rfl rfl rfl) (by decide)
  · exact fun d lv st M Q x => jx_k_b1n (jx_fok (by decide +kernel : decode (jx_mb 124) 5 = .ok (.ifCond .ne 5, 3))) rfl jx_hNe
  · exact fun d lv st M Q => jx_ev_st (jx_fok (by decide +kernel : decode (jx_mb 124) 8 = .ok (.iconst (-1), 1))) rfl rfl rfl
  · exact fun d lv M Q x => jx_k_ri (jx_fok (by decide +kernel : decode (jx_mb 124) 9 = .ok (.ireturn, 1))) rfl
  · exact fun d st M Q l1 l2 l3 l4 x => jx_ev_st (jx_fok (by decide +kernel : decode (jx_mb 124) 10 = .ok (.aload_n 0, 1))) rfl rfl rfl
  · exact fun d lv st M Q => jx_k_gf (jx_fok (by decide +kernel : decode (jx_mb 124) 11 = .ok (.getfield 25, 3))) rfl rfl rfl
  · exact fun d st M Q l0 l2 l3 l4 x => jx_ev_st (jx_fok (by decide +kernel : decode (jx_mb 124) 14 = .ok (.iload_n 1, 1))) rfl rfl rfl
  · exact fun d lv st M Q x a ha => jx_k_al (jx_fok (by decide +kernel : decode (jx_mb 124) 15 = .ok (.iaload, 1))) ha
  · exact fun d st M Q l0 l1 l2 l3 l4 x => jx_ev_st (jx_fok (by decide +kernel : decode (jx_mb 124) 16 = .ok (.istore_n 2, 1))) rfl rfl rfl
  · exact fun d lv st M Q => jx_ev_st (jx_fok (by decide +kernel : decode (jx_mb 124) 17 = .ok (.iconst 0, 1))) rfl rfl rfl
  · exact fun d st M Q l0 l1 l2 l3 l4 x => jx_ev_st (jx_fok (by decide +kernel : decode (jx_mb 124) 18 = .ok (.istore_n 3, 1))) rfl rfl rfl
  · exact fun d lv st M Q => jx_ev_st (jx_fok (by decide +kernel : decode (jx_mb 124) 19 = .ok (.iconst 0, 1))) rfl rfl rfl
  · exact fun d st M Q l0 l1 l2 l3 l4 x => jx_ev_st (jx_fok (by decide +kernel : decode (jx_mb 124) 20 = .ok (.istore 4, 2))) rfl rfl rfl
  · exact fun d lv st M Q => jx_ev_st (jx_fok (by decide +kernel : decode (jx_mb 124) 24 = .ok (.iconst 3, 1))) rfl rfl rfl
  · exact fun d lv st M Q x z => jx_k_b2 (jx_fok (by decide +kernel : decode (jx_mb 124) 25 = .ok (.if_icmp .ge 35, 3))) rfl jx_hGe
  · exact fun d st M Q l1 l2 l3 l4 x => jx_ev_st (jx_fok (by decide +kernel : decode (jx_mb 124) 28 = .ok (.aload_n 0, 1))) rfl rfl rfl
  · exact fun d lv st M Q => jx_k_gf (jx_fok (by decide +kernel : decode (jx_mb 124) 29 = .ok (.getfield 25, 3))) rfl rfl rfl
  · exact fun d st M Q l0 l2 l3 l4 x => jx_ev_st (jx_fok (by decide +kernel : decode (jx_mb 124) 32 = .ok (.iload_n 1, 1))) rfl rfl rfl
  · exact fun d st M Q l0 l1 l2 l3 x => jx_ev_st (jx_fok (by decide +kernel : decode (jx_mb 124) 33 = .ok (.iload 4, 2))) rfl rfl rfl
  · exact fun d lv st M Q x z a ha => jx_k_as (jx_fok (by decide +kernel : decode (jx_mb 124) 35 = .ok (.iastore, 1))) ha
  · exact fun d st M Q l0 l1 l2 l4 x => jx_ev_st (jx_fok (by decide +kernel : decode (jx_mb 124) 36 = .ok (.iload_n 3, 1))) rfl rfl rfl
  · exact fun d st M Q l1 l2 l3 l4 x => jx_ev_st (jx_fok (by decide +kernel : decode (jx_mb 124) 37 = .ok (.aload_n 0, 1))) rfl rfl rfl
  · exact fun d lv M Q a1 => jx_ev_ci (jx_fok (by decide +kernel : decode (jx_mb 124) 38 = .ok (.invokevirtual 179, 3))) rfl (jx_ccV (As := []) (rest := [.int a1]) rfl rfl rfl rfl rfl rfl) (by decide)
  · exact fun d lv st M Q x => jx_k_b1 (jx_fok (by decide +kernel : decode (jx_mb 124) 41 = .ok (.ifCond .eq 10, 3))) rfl jx_hEq
  · exact fun d lv st M Q => jx_ev_st (jx_fok (by decide +kernel : decode (jx_mb 124) 44 = .ok (.iconst 1, 1))) rfl rfl rfl
  · exact fun d st M Q l0 l1 l2 l3 x => jx_ev_st (jx_fok (by decide +kernel : decode (jx_mb 124) 45 = .ok (.iload 4, 2))) rfl rfl rfl
  · exact fun d lv st M Q x z => jx_ev_st (jx_fok (by decide +kernel : decode (jx_mb 124) 47 = .ok (.ishl, 1))) rfl rfl rfl
  · exact fun d lv st M Q => jx_k_goto (jx_fok (by decide +kernel : decode (jx_mb 124) 48 = .ok (.goto 4, 3))) rfl
  · exact fun d lv st M Q => jx_ev_st (jx_fok (by decide +kernel : decode (jx_mb 124) 51 = .ok (.iconst 0, 1))) rfl rfl rfl
  · exact fun d lv st M Q x z => jx_ev_st (jx_fok (by decide +kernel : decode (jx_mb 124) 52 = .ok (.ior, 1))) rfl rfl rfl
  · exact fun d st M Q l0 l1 l2 l3 l4 x => jx_ev_st (jx_fok (by decide +kernel : decode (jx_mb 124) 53 = .ok (.istore_n 3, 1))) rfl rfl rfl
  · exact fun d st M Q l0 l1 l2 l3 x => jx_ev_st (jx_fok (by decide +kernel : decode (jx_mb 124) 54 = .ok (.iinc 4 1, 3))) rfl rfl rfl
  · exact fun d lv st M Q => jx_k_goto (jx_fok (by decide +kernel : decode (jx_mb 124) 57 = .ok (.goto (-35), 3))) rfl
  · exact fun d st M Q l1 l2 l3 l4 x => jx_ev_st (jx_fok (by decide +kernel : decode (jx_mb 124) 60 = .ok (.aload_n 0, 1))) rfl rfl rfl
  · exact fun d lv st M Q => jx_k_gf (jx_fok (by decide +kernel : decode (jx_mb 124) 61 = .ok (.getfield 25, 3))) rfl rfl rfl
  · exact fun d st M Q l0 l2 l3 l4 x => jx_ev_st (jx_fok (by decide +kernel : decode (jx_mb 124) 64 = .ok (.iload_n 1, 1))) rfl rfl rfl
  · exact fun d st M Q l0 l1 l3 l4 x => jx_ev_st (jx_fok (by decide +kernel : decode (jx_mb 124) 65 = .ok (.iload_n 2, 1))) rfl rfl rfl
  · exact fun d lv st M Q x z a ha => jx_k_as (jx_fok (by decide +kernel : decode (jx_mb 124) 66 = .ok (.iastore, 1))) ha
  · exact fun d st M Q l0 l1 l2 l4 x => jx_ev_st (jx_fok (by decide +kernel : decode (jx_mb 124) 67 = .ok (.iload_n 3, 1))) rfl rfl rfl
  · exact fun d lv M Q x => jx_k_ri (jx_fok (by decide +kernel : decode (jx_mb 124) 68 = .ok (.ireturn, 1))) rfl
theorem eX8_kinds_22 (d : Nat) (st : List Value) (M : jx_M) (Q : jx_Po) (l0 l1 l2 l3 : Option Value) (x : Int32) : jx_Ev d 124 22 [l0, l1, l2, l3, some (.int x)] st M Q ↔ jx_Ev d 124 24 [l0, l1, l2, l3, some (.int x)] (.int x :: st) M Q := jx_ev_st (jx_fok (by decide +kernel : decode (jx_mb 124) 22 = .ok (.iload 4, 2))) rfl rfl rfl
theorem kX8_kinds (d : Nat) (M : jx_M) (q : Int32 → jx_M → Prop) (a0 a1 : Value) : jx_I d 124 [a0, a1] M q ↔ jx_Ev d 124 0 [some a0, some a1, none, none, none] [] M (jx_qI q) := Iff.rfl
set_option maxRecDepth 100000 in
theorem eX8_damps :
  (∀ (d : Nat) (st : List Value) (M : jx_M) (Q : jx_Po) (l1 l2 l3 : Option Value) (x : Nat), jx_Ev d 125 0 [some (.ref x), l1, l2, l3] st M Q ↔ jx_Ev d 125 1 [some (.ref x), l1, l2, l3] (.ref x :: st) M Q) ∧
  (∀ (d : Nat) (lv : List (Option Value)) (st : List Value) (M : jx_M) (Q : jx_Po), jx_Ev d 125 1 lv (.ref 36 :: st) M Q ↔ jx_Ev d 125 4 lv (.int (M 36 6) :: st) M Q) ∧
  (∀ (d : Nat) (lv : List (Option Value)) (st : List Value) (M : jx_M) (Q : jx_Po) (x : Int32), jx_Ev d 125 4 lv (.int x :: st) M Q ↔ (if x = 0 then jx_Ev d 125 7 lv st M Q else jx_Ev d 125 10 lv st M Q)) ∧
  (∀ (d : Nat) (lv : List (Option Value)) (st : List Value) (M : jx_M) (Q : jx_Po), jx_Ev d 125 7 lv st M Q ↔ jx_Ev d 125 9 lv (.int (-3) :: st) M Q) ∧
  (∀ (d : Nat) (lv : List (Option Value)) (M : jx_M) (Q : jx_Po) (x : Int32), jx_Ev d 125 9 lv [.int x] M Q ↔ Q [.int x] M) ∧
  (∀ (d : Nat) (st : List Value) (M : jx_M) (Q : jx_Po) (l1 l2 l3 : Option Value) (x : Nat), jx_Ev d 125 10 [some (.ref x), l1, l2, l3] st M Q ↔ jx_Ev d 125 11 [some (.ref x), l1, l2, l3] (.ref x :: st) M Q) ∧
  (∀ (d : Nat) (lv : List (Option Value)) (st : List Value) (M : jx_M) (Q : jx_Po), jx_Ev d 125 11 lv (.ref 36 :: st) M Q ↔ jx_Ev d 125 14 lv (.int (M 36 7) :: st) M Q) ∧
  (∀ (d : Nat) (st : List Value) (M : jx_M) (Q : jx_Po) (l0 l1 l2 l3 : Option Value) (x : Int32), jx_Ev d 125 14 [l0, l1, l2, l3] (.int x :: st) M Q ↔ jx_Ev d 125 15 [l0, some (.int x), l2, l3] st M Q) ∧
  (∀ (d : Nat) (lv : List (Option Value)) (st : List Value) (M : jx_M) (Q : jx_Po), jx_Ev d 125 15 lv st M Q ↔ jx_Ev d 125 16 lv (.int 0 :: st) M Q) ∧
  (∀ (d : Nat) (st : List Value) (M : jx_M) (Q : jx_Po) (l0 l1 l2 l3 : Option Value) (x : Int32), jx_Ev d 125 16 [l0, l1, l2, l3] (.int x :: st) M Q ↔ jx_Ev d 125 17 [l0, l1, some (.int x), l3] st M Q) ∧
  (∀ (d : Nat) (lv : List (Option Value)) (st : List Value) (M : jx_M) (Q : jx_Po), jx_Ev d 125 17 lv st M Q ↔ jx_Ev d 125 18 lv (.int 0 :: st) M Q) ∧
  (∀ (d : Nat) (st : List Value) (M : jx_M) (Q : jx_Po) (l0 l1 l2 l3 : Option Value) (x : Int32), jx_Ev d 125 18 [l0, l1, l2, l3] (.int x :: st) M Q ↔ jx_Ev d 125 19 [l0, l1, l2, some (.int x)] st M Q) ∧
  (∀ (d : Nat) (lv : List (Option Value)) (st : List Value) (M : jx_M) (Q : jx_Po), jx_Ev d 125 20 lv st M Q ↔ jx_Ev d 125 21 lv (.int 3 :: st) M Q) ∧
  (∀ (d : Nat) (lv : List (Option Value)) (st : List Value) (M : jx_M) (Q : jx_Po) (x z : Int32), jx_Ev d 125 21 lv (.int z :: .int x :: st) M Q ↔ (if z < x then jx_Ev d 125 52 lv st M Q else jx_Ev d 125 24 lv st M Q)) ∧
  (∀ (d : Nat) (st : List Value) (M : jx_M) (Q : jx_Po) (l1 l2 l3 : Option Value) (x : Nat), jx_Ev d 125 24 [some (.ref x), l1, l2, l3] st M Q ↔ jx_Ev d 125 25 [some (.ref x), l1, l2, l3] (.ref x :: st) M Q) ∧
  (∀ (d : Nat) (st : List Value) (M : jx_M) (Q : jx_Po) (l0 l1 l2 : Option Value) (x : Int32), jx_Ev d 125 25 [l0, l1, l2, some (.int x)] st M Q ↔ jx_Ev d 125 26 [l0, l1, l2, some (.int x)] (.int x :: st) M Q) ∧
  (∀ (d : Nat) (lv : List (Option Value)) (st : List Value) (M : jx_M) (Q : jx_Po) (x : Int32), jx_Ev d 125 26 lv (.int x :: .ref 36 :: st) M Q ↔ jx_Ev d 125 29 lv st (jx_up M 36 7 x) Q) ∧
  (∀ (d : Nat) (st : List Value) (M : jx_M) (Q : jx_Po) (l0 l1 l3 : Option Value) (x : Int32), jx_Ev d 125 29 [l0, l1, some (.int x), l3] st M Q ↔ jx_Ev d 125 30 [l0, l1, some (.int x), l3] (.int x :: st) M Q) ∧
  (∀ (d : Nat) (st : List Value) (M : jx_M) (Q : jx_Po) (l1 l2 l3 : Option Value) (x : Nat), jx_Ev d 125 30 [some (.ref x), l1, l2, l3] st M Q ↔ jx_Ev d 125 31 [some (.ref x), l1, l2, l3] (.ref x :: st) M Q) ∧
  (∀ (d : Nat) (lv : List (Option Value)) (M : jx_M) (Q : jx_Po) (a1 : Int32), jx_Ev (d + 1) 125 31 lv [.ref 36, .int a1] M Q ↔ jx_I d 122 [.ref 36] M (fun x M => jx_Ev (d + 1) 125 34 lv (.int x :: [.int a1]) M Q)) ∧
  (∀ (d : Nat) (lv : List (Option Value)) (st : List Value) (M : jx_M) (Q : jx_Po) (x : Int32), jx_Ev d 125 34 lv (.int x :: st) M Q ↔ (if x = 0 then jx_Ev d 125 43 lv st M Q else jx_Ev d 125 37 lv st M Q)) ∧
  (∀ (d : Nat) (lv : List (Option Value)) (st : List Value) (M : jx_M) (Q : jx_Po), jx_Ev d 125 37 lv st M Q ↔ jx_Ev d 125 38 lv (.int 1 :: st) M Q) ∧
  (∀ (d : Nat) (st : List Value) (M : jx_M) (Q : jx_Po) (l0 l1 l2 : Option Value) (x : Int32), jx_Ev d 125 38 [l0, l1, l2, some (.int x)] st M Q ↔ jx_Ev d 125 39 [l0, l1, l2, some (.int x)] (.int x :: st) M Q) ∧
  (∀ (d : Nat) (lv : List (Option Value)) (st : List Value) (M : jx_M) (Q : jx_Po) (x z : Int32), jx_Ev d 125 39 lv (.int z :: .int x :: st) M Q ↔ jx_Ev d 125 40 lv (.int (x <<< (z &&& 31)) :: st) M Q) ∧
  (∀ (d : Nat) (lv : List (Option Value)) (st : List Value) (M : jx_M) (Q : jx_Po), jx_Ev d 125 40 lv st M Q ↔ jx_Ev d 125 44 lv st M Q) ∧
  (∀ (d : Nat) (lv : List (Option Value)) (st : List Value) (M : jx_M) (Q : jx_Po), jx_Ev d 125 43 lv st M Q ↔ jx_Ev d 125 44 lv (.int 0 :: st) M Q) ∧
  (∀ (d : Nat) (lv : List (Option Value)) (st : List Value) (M : jx_M) (Q : jx_Po) (x z : Int32), jx_Ev d 125 44 lv (.int z :: .int x :: st) M Q ↔ jx_Ev d 125 45 lv (.int (x ||| z) :: st) M Q) ∧
  (∀ (d : Nat) (st : List Value) (M : jx_M) (Q : jx_Po) (l0 l1 l2 l3 : Option Value) (x : Int32), jx_Ev d 125 45 [l0, l1, l2, l3] (.int x :: st) M Q ↔ jx_Ev d 125 46 [l0, l1, some (.int x), l3] st M Q) ∧
  (∀ (d : Nat) (st : List Value) (M : jx_M) (Q : jx_Po) (l0 l1 l2 : Option Value) (x : Int32), jx_Ev d 125 46 [l0, l1, l2, some (.int x)] st M Q ↔ jx_Ev d 125 49 [l0, l1, l2, some (.int (x + 1))] st M Q) ∧
  (∀ (d : Nat) (lv : List (Option Value)) (st : List Value) (M : jx_M) (Q : jx_Po), jx_Ev d 125 49 lv st M Q ↔ jx_Ev d 125 19 lv st M Q) ∧
  (∀ (d : Nat) (st : List Value) (M : jx_M) (Q : jx_Po) (l1 l2 l3 : Option Value) (x : Nat), jx_Ev d 125 52 [some (.ref x), l1, l2, l3] st M Q ↔ jx_Ev d 125 53 [some (.ref x), l1, l2, l3] (.ref x :: st) M Q) ∧
  (∀ (d : Nat) (st : List Value) (M : jx_M) (Q : jx_Po) (l0 l2 l3 : Option Value) (x : Int32), jx_Ev d 125 53 [l0, some (.int x), l2, l3] st M Q ↔ jx_Ev d 125 54 [l0, some (.int x), l2, l3] (.int x :: st) M Q) ∧
  (∀ (d : Nat) (lv : List (Option Value)) (st : List Value) (M : jx_M) (Q : jx_Po) (x : Int32), jx_Ev d 125 54 lv (.int x :: .ref 36 :: st) M Q ↔ jx_Ev d 125 57 lv st (jx_up M 36 7 x) Q) ∧
  (∀ (d : Nat) (st : List Value) (M : jx_M) (Q : jx_Po) (l0 l1 l3 : Option Value) (x : Int32), jx_Ev d 125 57 [l0, l1, some (.int x), l3] st M Q ↔ jx_Ev d 125 58 [l0, l1, some (.int x), l3] (.int x :: st) M Q) ∧
  (∀ (d : Nat) (lv : List (Option Value)) (M : jx_M) (Q : jx_Po) (x : Int32), jx_Ev d 125 58 lv [.int x] M Q ↔ Q [.int x] M) := by
  refine ⟨?_, ?_, ?_, ?_, ?_, ?_, ?_, ?_, ?_, ?_, ?_, ?_, ?_, ?_, ?_, ?_, ?_, ?_, ?_, ?_, ?_, ?_, ?_, ?_, ?_, ?_, ?_, ?_, ?_, ?_, ?_, ?_, ?_, ?_, ?_⟩
  · exact fun d st M Q l1 l2 l3 x => jx_ev_st (jx_fok (by decide +kernel : decode (jx_mb 125) 0 = .ok (.aload_n 0, 1))) rfl rfl rfl
  · exact fun d lv st M Q => jx_k_gf (jx_fok (by decide +kernel : decode (jx_mb 125) 1 = .ok (.getfield 80, 3))) rfl rfl rfl
  · exact fun d lv st M Q x => jx_k_b1n (jx_fok (by decide +kernel : decode (jx_mb 125) 4 = .ok (.ifCond .ne 6, 3))) rfl jx_hNe
  · exact fun d lv st M Q => jx_ev_st (jx_fok (by decide +kernel : decode (jx_mb 125) 7 = .ok (.bipush (-3), 2))) rfl rfl rfl
  · exact fun d lv M Q x => jx_k_ri (jx_fok (by decide +kernel : decode (jx_mb 125) 9 = .ok (.ireturn, 1))) rfl
  · exact fun d st M Q l1 l2 l3 x => jx_ev_st (jx_fok (by decide +kernel : decode (jx_mb 125) 10 = .ok (.aload_n 0, 1))) rfl rfl rfl
  · exact fun d lv st M Q => jx_k_gf (jx_fok (by decide +kernel : decode (jx_mb 125) 11 = .ok (.getfield 110, 3))) rfl rfl rfl
  · exact fun d st M Q l0 l1 l2 l3 x => jx_ev_st (jx_fok (by decide +kernel : decode (jx_mb 125) 14 = .ok (.istore_n 1, 1))) rfl rfl rfl
  · exact fun d lv st M Q => jx_ev_st (jx_fok (by decide +kernel : decode (jx_mb 125) 15 = .ok (.iconst 0, 1))) rfl rfl rfl
  · exact fun d st M Q l0 l1 l2 l3 x => jx_ev_st (jx_fok (by decide +kernel : decode (jx_mb 125) 16 = .ok (.istore_n 2, 1))) rfl rfl rfl
  · exact fun d lv st M Q => jx_ev_st (jx_fok (by decide +kernel : decode (jx_mb 125) 17 = .ok (.iconst 0, 1))) rfl rfl rfl
  · exact fun d st M Q l0 l1 l2 l3 x => jx_ev_st (jx_fok (by decide +kernel : decode (jx_mb 125) 18 = .ok (.istore_n 3, 1))) rfl rfl rfl
  · exact fun d lv st M Q => jx_ev_st (jx_fok (by decide +kernel : decode (jx_mb 125) 20 = .ok (.iconst 3, 1))) rfl rfl rfl
  · exact fun d lv st M Q x z => jx_k_b2 (jx_fok (by decide +kernel : decode (jx_mb 125) 21 = .ok (.if_icmp .gt 31, 3))) rfl jx_hGt
  · exact fun d st M Q l1 l2 l3 x => jx_ev_st (jx_fok (by decide +kernel : decode (jx_mb 125) 24 = .ok (.aload_n 0, 1))) rfl rfl rfl
  · exact fun d st M Q l0 l1 l2 x => jx_ev_st (jx_fok (by decide +kernel : decode (jx_mb 125) 25 = .ok (.iload_n 3, 1))) rfl rfl rfl
  · exact fun d lv st M Q x => jx_k_pf0 (jx_fok (by decide +kernel : decode (jx_mb 125) 26 = .ok (.putfield 110, 3))) rfl rfl rfl
  · exact fun d st M Q l0 l1 l3 x => jx_ev_st (jx_fok (by decide +kernel : decode (jx_mb 125) 29 = .ok (.iload_n 2, 1))) rfl rfl rfl
  · exact fun d st M Q l1 l2 l3 x => jx_ev_st (jx_fok (by decide +kernel : decode (jx_mb 125) 30 = .ok (.aload_n 0, 1))) rfl rfl rfl
  · exact fun d lv M Q a1 => jx_ev_ci (jx_fok (by decide +kernel : decode (jx_mb 125) 31 = .ok (.invokevirtual 179, 3))) rfl (jx_ccV (As := []) (rest := [.int a1]) rfl rfl rfl rfl rfl rfl) (by decide)
  · exact fun d lv st M Q x => jx_k_b1 (jx_fok (by decide +kernel : decode (jx_mb 125) 34 = .ok (.ifCond .eq 9, 3))) rfl jx_hEq
  · exact fun d lv st M Q => jx_ev_st (jx_fok (by decide +kernel : decode (jx_mb 125) 37 = .ok (.iconst 1, 1))) rfl rfl rfl
  · exact fun d st M Q l0 l1 l2 x => jx_ev_st (jx_fok (by decide +kernel : decode (jx_mb 125) 38 = .ok (.iload_n 3, 1))) rfl rfl rfl
  · exact fun d lv st M Q x z => jx_ev_st (jx_fok (by decide +kernel : decode (jx_mb 125) 39 = .ok (.ishl, 1))) rfl rfl rfl
  · exact fun d lv st M Q => jx_k_goto (jx_fok (by decide +kernel : decode (jx_mb 125) 40 = .ok (.goto 4, 3))) rfl
  · exact fun d lv st M Q => jx_ev_st (jx_fok (by decide +kernel : decode (jx_mb 125) 43 = .ok (.iconst 0, 1))) rfl rfl rfl
  · exact fun d lv st M Q x z => jx_ev_st (jx_fok (by decide +kernel : decode (jx_mb 125) 44 = .ok (.ior, 1))) rfl rfl rfl
  · exact fun d st M Q l0 l1 l2 l3 x => jx_ev_st (jx_fok (by decide +kernel : decode (jx_mb 125) 45 = .ok (.istore_n 2, 1))) rfl rfl rfl
  · exact fun d st M Q l0 l1 l2 x => jx_ev_st (jx_fok (by decide +kernel : decode (jx_mb 125) 46 = .ok (.iinc 3 1, 3))) rfl rfl rfl
  · exact fun d lv st M Q => jx_k_goto (jx_fok (by decide +kernel : decode (jx_mb 125) 49 = .ok (.goto (-30), 3))) rfl
  · exact fun d st M Q l1 l2 l3 x => jx_ev_st (jx_fok (by decide +kernel : decode (jx_mb 125) 52 = .ok (.aload_n 0, 1))) rfl rfl rfl
  · exact fun d st M Q l0 l2 l3 x => jx_ev_st (jx_fok (by decide +kernel : decode (jx_mb 125) 53 = .ok (.iload_n 1, 1))) rfl rfl rfl
  · exact fun d lv st M Q x => jx_k_pf0 (jx_fok (by decide +kernel : decode (jx_mb 125) 54 = .ok (.putfield 110, 3))) rfl rfl rfl
  · exact fun d st M Q l0 l1 l3 x => jx_ev_st (jx_fok (by decide +kernel : decode (jx_mb 125) 57 = .ok (.iload_n 2, 1))) rfl rfl rfl
  · exact fun d lv M Q x => jx_k_ri (jx_fok (by decide +kernel : decode (jx_mb 125) 58 = .ok (.ireturn, 1))) rfl
theorem eX8_damps_19 (d : Nat) (st : List Value) (M : jx_M) (Q : jx_Po) (l0 l1 l2 : Option Value) (x : Int32) : jx_Ev d 125 19 [l0, l1, l2, some (.int x)] st M Q ↔ jx_Ev d 125 20 [l0, l1, l2, some (.int x)] (.int x :: st) M Q := jx_ev_st (jx_fok (by decide +kernel : decode (jx_mb 125) 19 = .ok (.iload_n 3, 1))) rfl rfl rfl
theorem kX8_damps (d : Nat) (M : jx_M) (q : Int32 → jx_M → Prop) (a0 : Value) : jx_I d 125 [a0] M q ↔ jx_Ev d 125 0 [some a0, none, none, none] [] M (jx_qI q) := Iff.rfl
set_option maxRecDepth 100000 in
theorem eX8_odds :
  (∀ (d : Nat) (st : List Value) (M : jx_M) (Q : jx_Po) (l1 l2 l3 l4 l5 : Option Value) (x : Nat), jx_Ev d 127 0 [some (.ref x), l1, l2, l3, l4, l5] st M Q ↔ jx_Ev d 127 1 [some (.ref x), l1, l2, l3, l4, l5] (.ref x :: st) M Q) ∧
  (∀ (d : Nat) (st : List Value) (M : jx_M) (Q : jx_Po) (l0 l2 l3 l4 l5 : Option Value) (x : Int32), jx_Ev d 127 1 [l0, some (.int x), l2, l3, l4, l5] st M Q ↔ jx_Ev d 127 2 [l0, some (.int x), l2, l3, l4, l5] (.int x :: st) M Q) ∧
  (∀ (d : Nat) (lv : List (Option Value)) (M : jx_M) (Q : jx_Po) (a0 : Int32), jx_Ev (d + 1) 127 2 lv [.int a0, .ref 36] M Q ↔ jx_I d 90 [.ref 36, .int a0] M (fun x M => jx_Ev (d + 1) 127 5 lv (.int x :: []) M Q)) ∧
  (∀ (d : Nat) (lv : List (Option Value)) (st : List Value) (M : jx_M) (Q : jx_Po) (x : Int32), jx_Ev d 127 5 lv (.int x :: st) M Q ↔ (if x = 0 then jx_Ev d 127 24 lv st M Q else jx_Ev d 127 8 lv st M Q)) ∧
  (∀ (d : Nat) (st : List Value) (M : jx_M) (Q : jx_Po) (l0 l1 l3 l4 l5 : Option Value) (x : Int32), jx_Ev d 127 8 [l0, l1, some (.int x), l3, l4, l5] st M Q ↔ jx_Ev d 127 9 [l0, l1, some (.int x), l3, l4, l5] (.int x :: st) M Q) ∧
  (∀ (d : Nat) (lv : List (Option Value)) (M : jx_M) (Q : jx_Po) (a0 : Int32), jx_Ev (d + 1) 127 9 lv [.int a0] M Q ↔ jx_I d 105 [.int a0] M (fun x M => jx_Ev (d + 1) 127 12 lv (.int x :: []) M Q)) ∧
  (∀ (d : Nat) (lv : List (Option Value)) (st : List Value) (M : jx_M) (Q : jx_Po) (x : Int32), jx_Ev d 127 12 lv (.int x :: st) M Q ↔ (if x = 0 then jx_Ev d 127 24 lv st M Q else jx_Ev d 127 15 lv st M Q)) ∧
  (∀ (d : Nat) (st : List Value) (M : jx_M) (Q : jx_Po) (l0 l1 l2 l4 l5 : Option Value) (x : Int32), jx_Ev d 127 15 [l0, l1, l2, some (.int x), l4, l5] st M Q ↔ jx_Ev d 127 16 [l0, l1, l2, some (.int x), l4, l5] (.int x :: st) M Q) ∧
  (∀ (d : Nat) (lv : List (Option Value)) (st : List Value) (M : jx_M) (Q : jx_Po), jx_Ev d 127 16 lv st M Q ↔ jx_Ev d 127 17 lv (.int 0 :: st) M Q) ∧
  (∀ (d : Nat) (lv : List (Option Value)) (st : List Value) (M : jx_M) (Q : jx_Po), jx_Ev d 127 17 lv st M Q ↔ jx_Ev d 127 18 lv (.int 1 :: st) M Q) ∧
  (∀ (d : Nat) (lv : List (Option Value)) (M : jx_M) (Q : jx_Po) (a0 : Int32) (a1 : Int32) (a2 : Int32), jx_Ev (d + 1) 127 18 lv [.int a0, .int a1, .int a2] M Q ↔ jx_I d 85 [.int a2, .int a1, .int a0] M (fun x M => jx_Ev (d + 1) 127 21 lv (.int x :: []) M Q)) ∧
  (∀ (d : Nat) (lv : List (Option Value)) (st : List Value) (M : jx_M) (Q : jx_Po) (x : Int32), jx_Ev d 127 21 lv (.int x :: st) M Q ↔ (if x = 0 then jx_Ev d 127 24 lv st M Q else jx_Ev d 127 28 lv st M Q)) ∧
  (∀ (d : Nat) (lv : List (Option Value)) (st : List Value) (M : jx_M) (Q : jx_Po), jx_Ev d 127 24 lv st M Q ↔ jx_Ev d 127 27 lv (.long (-9223372036854775808) :: st) M Q) ∧
  (∀ (d : Nat) (lv : List (Option Value)) (M : jx_M) (Q : jx_Po) (x : Int64), jx_Ev d 127 27 lv [.long x] M Q ↔ Q [.long x] M) ∧
  (∀ (d : Nat) (lv : List (Option Value)) (st : List Value) (M : jx_M) (Q : jx_Po), jx_Ev d 127 28 lv st M Q ↔ jx_Ev d 127 29 lv (.int 0 :: st) M Q) ∧
  (∀ (d : Nat) (st : List Value) (M : jx_M) (Q : jx_Po) (l0 l1 l2 l3 l4 l5 : Option Value) (x : Int32), jx_Ev d 127 29 [l0, l1, l2, l3, l4, l5] (.int x :: st) M Q ↔ jx_Ev d 127 31 [l0, l1, l2, l3, some (.int x), l5] st M Q) ∧
  (∀ (d : Nat) (lv : List (Option Value)) (st : List Value) (M : jx_M) (Q : jx_Po), jx_Ev d 127 31 lv st M Q ↔ jx_Ev d 127 32 lv (.int 0 :: st) M Q) ∧
  (∀ (d : Nat) (st : List Value) (M : jx_M) (Q : jx_Po) (l0 l1 l2 l3 l4 l5 : Option Value) (x : Int32), jx_Ev d 127 32 [l0, l1, l2, l3, l4, l5] (.int x :: st) M Q ↔ jx_Ev d 127 34 [l0, l1, l2, l3, l4, some (.int x)] st M Q) ∧
  (∀ (d : Nat) (lv : List (Option Value)) (st : List Value) (M : jx_M) (Q : jx_Po), jx_Ev d 127 36 lv st M Q ↔ jx_Ev d 127 37 lv (.int 1 :: st) M Q) ∧
  (∀ (d : Nat) (st : List Value) (M : jx_M) (Q : jx_Po) (l1 l2 l3 l4 l5 : Option Value) (x : Nat), jx_Ev d 127 37 [some (.ref x), l1, l2, l3, l4, l5] st M Q ↔ jx_Ev d 127 38 [some (.ref x), l1, l2, l3, l4, l5] (.ref x :: st) M Q) ∧
  (∀ (d : Nat) (lv : List (Option Value)) (st : List Value) (M : jx_M) (Q : jx_Po), jx_Ev d 127 38 lv (.ref 36 :: st) M Q ↔ jx_Ev d 127 41 lv (.int (M 36 5) :: st) M Q) ∧
  (∀ (d : Nat) (lv : List (Option Value)) (st : List Value) (M : jx_M) (Q : jx_Po) (x z : Int32), jx_Ev d 127 41 lv (.int z :: .int x :: st) M Q ↔ jx_Ev d 127 42 lv (.int (x <<< (z &&& 31)) :: st) M Q) ∧
  (∀ (d : Nat) (lv : List (Option Value)) (st : List Value) (M : jx_M) (Q : jx_Po) (x z : Int32), jx_Ev d 127 42 lv (.int z :: .int x :: st) M Q ↔ (if z ≤ x then jx_Ev d 127 74 lv st M Q else jx_Ev d 127 45 lv st M Q)) ∧
  (∀ (d : Nat) (st : List Value) (M : jx_M) (Q : jx_Po) (l0 l1 l2 l3 l5 : Option Value) (x : Int32), jx_Ev d 127 45 [l0, l1, l2, l3, some (.int x), l5] st M Q ↔ jx_Ev d 127 47 [l0, l1, l2, l3, some (.int x), l5] (.int x :: st) M Q) ∧
  (∀ (d : Nat) (st : List Value) (M : jx_M) (Q : jx_Po) (l1 l2 l3 l4 l5 : Option Value) (x : Nat), jx_Ev d 127 47 [some (.ref x), l1, l2, l3, l4, l5] st M Q ↔ jx_Ev d 127 48 [some (.ref x), l1, l2, l3, l4, l5] (.ref x :: st) M Q) ∧
  (∀ (d : Nat) (st : List Value) (M : jx_M) (Q : jx_Po) (l0 l2 l3 l4 l5 : Option Value) (x : Int32), jx_Ev d 127 48 [l0, some (.int x), l2, l3, l4, l5] st M Q ↔ jx_Ev d 127 49 [l0, some (.int x), l2, l3, l4, l5] (.int x :: st) M Q) ∧
  (∀ (d : Nat) (st : List Value) (M : jx_M) (Q : jx_Po) (l0 l1 l3 l4 l5 : Option Value) (x : Int32), jx_Ev d 127 49 [l0, l1, some (.int x), l3, l4, l5] st M Q ↔ jx_Ev d 127 50 [l0, l1, some (.int x), l3, l4, l5] (.int x :: st) M Q) ∧
  (∀ (d : Nat) (st : List Value) (M : jx_M) (Q : jx_Po) (l0 l1 l2 l3 l4 : Option Value) (x : Int32), jx_Ev d 127 50 [l0, l1, l2, l3, l4, some (.int x)] st M Q ↔ jx_Ev d 127 52 [l0, l1, l2, l3, l4, some (.int x)] (.int x :: st) M Q) ∧
  (∀ (d : Nat) (lv : List (Option Value)) (M : jx_M) (Q : jx_Po) (a0 : Int32) (a1 : Int32) (a2 : Int32) (a4 : Int32), jx_Ev (d + 1) 127 52 lv [.int a0, .int a1, .int a2, .ref 36, .int a4] M Q ↔ jx_I d 107 [.ref 36, .int a2, .int a1, .int a0] M (fun x M => jx_Ev (d + 1) 127 55 lv (.int x :: [.int a4]) M Q)) ∧
  (∀ (d : Nat) (lv : List (Option Value)) (st : List Value) (M : jx_M) (Q : jx_Po), jx_Ev d 127 55 lv st M Q ↔ jx_Ev d 127 57 lv (.int (-9) :: st) M Q) ∧
  (∀ (d : Nat) (lv : List (Option Value)) (st : List Value) (M : jx_M) (Q : jx_Po) (x z : Int32), jx_Ev d 127 57 lv (.int z :: .int x :: st) M Q ↔ (if x = z then jx_Ev d 127 60 lv st M Q else jx_Ev d 127 64 lv st M Q)) ∧
  (∀ (d : Nat) (lv : List (Option Value)) (st : List Value) (M : jx_M) (Q : jx_Po), jx_Ev d 127 60 lv st M Q ↔ jx_Ev d 127 61 lv (.int 0 :: st) M Q) ∧
  (∀ (d : Nat) (lv : List (Option Value)) (st : List Value) (M : jx_M) (Q : jx_Po), jx_Ev d 127 61 lv st M Q ↔ jx_Ev d 127 65 lv st M Q) ∧
  (∀ (d : Nat) (lv : List (Option Value)) (st : List Value) (M : jx_M) (Q : jx_Po), jx_Ev d 127 64 lv st M Q ↔ jx_Ev d 127 65 lv (.int 1 :: st) M Q) ∧
  (∀ (d : Nat) (lv : List (Option Value)) (st : List Value) (M : jx_M) (Q : jx_Po) (x z : Int32), jx_Ev d 127 65 lv (.int z :: .int x :: st) M Q ↔ jx_Ev d 127 66 lv (.int (x + z) :: st) M Q) ∧
  (∀ (d : Nat) (st : List Value) (M : jx_M) (Q : jx_Po) (l0 l1 l2 l3 l4 l5 : Option Value) (x : Int32), jx_Ev d 127 66 [l0, l1, l2, l3, l4, l5] (.int x :: st) M Q ↔ jx_Ev d 127 68 [l0, l1, l2, l3, some (.int x), l5] st M Q) ∧
  (∀ (d : Nat) (st : List Value) (M : jx_M) (Q : jx_Po) (l0 l1 l2 l3 l4 : Option Value) (x : Int32), jx_Ev d 127 68 [l0, l1, l2, l3, l4, some (.int x)] st M Q ↔ jx_Ev d 127 71 [l0, l1, l2, l3, l4, some (.int (x + 1))] st M Q) ∧
  (∀ (d : Nat) (lv : List (Option Value)) (st : List Value) (M : jx_M) (Q : jx_Po), jx_Ev d 127 71 lv st M Q ↔ jx_Ev d 127 34 lv st M Q) ∧
  (∀ (d : Nat) (st : List Value) (M : jx_M) (Q : jx_Po) (l0 l1 l2 l3 l5 : Option Value) (x : Int32), jx_Ev d 127 74 [l0, l1, l2, l3, some (.int x), l5] st M Q ↔ jx_Ev d 127 76 [l0, l1, l2, l3, some (.int x), l5] (.int x :: st) M Q) ∧
  (∀ (d : Nat) (lv : List (Option Value)) (st : List Value) (M : jx_M) (Q : jx_Po) (x : Int32), jx_Ev d 127 76 lv (.int x :: st) M Q ↔ jx_Ev d 127 77 lv (.long x.toInt64 :: st) M Q) ∧
  (∀ (d : Nat) (lv : List (Option Value)) (st : List Value) (M : jx_M) (Q : jx_Po), jx_Ev d 127 77 lv st M Q ↔ jx_Ev d 127 78 lv (.long 1 :: st) M Q) ∧
  (∀ (d : Nat) (st : List Value) (M : jx_M) (Q : jx_Po) (l1 l2 l3 l4 l5 : Option Value) (x : Nat), jx_Ev d 127 78 [some (.ref x), l1, l2, l3, l4, l5] st M Q ↔ jx_Ev d 127 79 [some (.ref x), l1, l2, l3, l4, l5] (.ref x :: st) M Q) ∧
  (∀ (d : Nat) (lv : List (Option Value)) (st : List Value) (M : jx_M) (Q : jx_Po), jx_Ev d 127 79 lv (.ref 36 :: st) M Q ↔ jx_Ev d 127 82 lv (.int (M 36 5) :: st) M Q) ∧
  (∀ (d : Nat) (lv : List (Option Value)) (st : List Value) (M : jx_M) (Q : jx_Po) (x : Int64) (z : Int32), jx_Ev d 127 82 lv (.int z :: .long x :: st) M Q ↔ jx_Ev d 127 83 lv (.long (x <<< (z.toInt64 &&& 63)) :: st) M Q) ∧
  (∀ (d : Nat) (st : List Value) (M : jx_M) (Q : jx_Po) (l0 l1 l2 l4 l5 : Option Value) (x : Int32), jx_Ev d 127 83 [l0, l1, l2, some (.int x), l4, l5] st M Q ↔ jx_Ev d 127 84 [l0, l1, l2, some (.int x), l4, l5] (.int x :: st) M Q) ∧
  (∀ (d : Nat) (lv : List (Option Value)) (M : jx_M) (Q : jx_Po) (a0 : Int32) (a1 : Int64) (a2 : Int64) (r : Int64) (hr : jx_ilt a2 a1 a0 = some r), jx_Ev (d + 1) 127 84 lv [.int a0, .long a1, .long a2] M Q ↔ jx_Ev (d + 1) 127 87 lv (.long r :: []) M Q) ∧
  (∀ (d : Nat) (lv : List (Option Value)) (M : jx_M) (Q : jx_Po) (x : Int64), jx_Ev d 127 87 lv [.long x] M Q ↔ Q [.long x] M) := by
  refine ⟨?_, ?_, ?_, ?_, ?_, ?_, ?_, ?_, ?_, ?_, ?_, ?_, ?_, ?_, ?_, ?_, ?_, ?_, ?_, ?_, ?_, ?_, ?_, ?_, ?_, ?_, ?_, ?_, ?_, ?_, ?_, ?_, ?_, ?_, ?_, ?_, ?_, ?_, ?_, ?_, ?_, ?_, ?_, ?_, ?_, ?_, ?_⟩
  · exact fun d st M Q l1 l2 l3 l4 l5 x => jx_ev_st (jx_fok (by decide +kernel : decode (jx_mb 127) 0 = .ok (.aload_n 0, 1))) rfl rfl rfl
  · exact fun d st M Q l0 l2 l3 l4 l5 x => jx_ev_st (jx_fok (by decide +kernel : decode (jx_mb 127) 1 = .ok (.iload_n 1, 1))) rfl rfl rfl
  · exact fun d lv M Q a0 => jx_ev_ci (jx_fok (by decide +kernel : decode (jx_mb 127) 2 = .ok (.invokevirtual 148, 3))) rfl (jx_ccV (As := [.int a0]) (rest := []) rfl rfl rfl rfl rfl rfl) (by decide)
  · exact fun d lv st M Q x => jx_k_b1 (jx_fok (by decide +kernel : decode (jx_mb 127) 5 = .ok (.ifCond .eq 19, 3))) rfl jx_hEq
  · exact fun d st M Q l0 l1 l3 l4 l5 x => jx_ev_st (jx_fok (by decide +kernel : decode (jx_mb 127) 8 = .ok (.iload_n 2, 1))) rfl rfl rfl
  · exact fun d lv M Q a0 => jx_ev_ci (jx_fok (by decide +kernel : decode (jx_mb 127) 9 = .ok (.invokestatic 151, 3))) rfl (jx_ccS (As := [.int a0]) (rest := []) rfl rfl rfl rfl rfl) (by decide)
  · exact fun d lv st M Q x => jx_k_b1 (jx_fok (by decide +kernel : decode (jx_mb 127) 12 = .ok (.ifCond .eq 12, 3))) rfl jx_hEq
  · exact fun d st M Q l0 l1 l2 l4 l5 x => jx_ev_st (jx_fok (by decide +kernel : decode (jx_mb 127) 15 = .ok (.iload_n 3, 1))) rfl rfl rfl
  · exact fun d lv st M Q => jx_ev_st (jx_fok (by decide +kernel : decode (jx_mb 127) 16 = .ok (.iconst 0, 1))) rfl rfl rfl
  · exact fun d lv st M Q => jx_ev_st (jx_fok (by decide +kernel : decode (jx_mb 127) 17 = .ok (.iconst 1, 1))) rfl rfl rfl
  · exact fun d lv M Q a0 a1 a2 => jx_ev_ci (jx_fok (by decide +kernel : decode (jx_mb 127) 18 = .ok (.invokestatic 73, 3))) rfl (jx_ccS (As := [.int a2, .int a1, .int a0]) (rest := []) rfl rfl rfl rfl rfl) (by decide)
  · exact fun d lv st M Q x => jx_k_b1n (jx_fok (by decide +kernel : decode (jx_mb 127) 21 = .ok (.ifCond .ne 7, 3))) rfl jx_hNe
  · exact fun d lv st M Q => jx_ev_st (jx_fok (by decide +kernel : decode (jx_mb 127) 24 = .ok (.ldc2_w 71, 3))) rfl rfl rfl
  · exact fun d lv M Q x => jx_k_rl (jx_fok (by decide +kernel : decode (jx_mb 127) 27 = .ok (.lreturn, 1))) rfl
  · exact fun d lv st M Q => jx_ev_st (jx_fok (by decide +kernel : decode (jx_mb 127) 28 = .ok (.iconst 0, 1))) rfl rfl rfl
  · exact fun d st M Q l0 l1 l2 l3 l4 l5 x => jx_ev_st (jx_fok (by decide +kernel : decode (jx_mb 127) 29 = .ok (.istore 4, 2))) rfl rfl rfl
  · exact fun d lv st M Q => jx_ev_st (jx_fok (by decide +kernel : decode (jx_mb 127) 31 = .ok (.iconst 0, 1))) rfl rfl rfl
  · exact fun d st M Q l0 l1 l2 l3 l4 l5 x => jx_ev_st (jx_fok (by decide +kernel : decode (jx_mb 127) 32 = .ok (.istore 5, 2))) rfl rfl rfl
  · exact fun d lv st M Q => jx_ev_st (jx_fok (by decide +kernel : decode (jx_mb 127) 36 = .ok (.iconst 1, 1))) rfl rfl rfl
  · exact fun d st M Q l1 l2 l3 l4 l5 x => jx_ev_st (jx_fok (by decide +kernel : decode (jx_mb 127) 37 = .ok (.aload_n 0, 1))) rfl rfl rfl
  · exact fun d lv st M Q => jx_k_gf (jx_fok (by decide +kernel : decode (jx_mb 127) 38 = .ok (.getfield 77, 3))) rfl rfl rfl
  · exact fun d lv st M Q x z => jx_ev_st (jx_fok (by decide +kernel : decode (jx_mb 127) 41 = .ok (.ishl, 1))) rfl rfl rfl
  · exact fun d lv st M Q x z => jx_k_b2 (jx_fok (by decide +kernel : decode (jx_mb 127) 42 = .ok (.if_icmp .ge 32, 3))) rfl jx_hGe
  · exact fun d st M Q l0 l1 l2 l3 l5 x => jx_ev_st (jx_fok (by decide +kernel : decode (jx_mb 127) 45 = .ok (.iload 4, 2))) rfl rfl rfl
  · exact fun d st M Q l1 l2 l3 l4 l5 x => jx_ev_st (jx_fok (by decide +kernel : decode (jx_mb 127) 47 = .ok (.aload_n 0, 1))) rfl rfl rfl
  · exact fun d st M Q l0 l2 l3 l4 l5 x => jx_ev_st (jx_fok (by decide +kernel : decode (jx_mb 127) 48 = .ok (.iload_n 1, 1))) rfl rfl rfl
  · exact fun d st M Q l0 l1 l3 l4 l5 x => jx_ev_st (jx_fok (by decide +kernel : decode (jx_mb 127) 49 = .ok (.iload_n 2, 1))) rfl rfl rfl
  · exact fun d st M Q l0 l1 l2 l3 l4 x => jx_ev_st (jx_fok (by decide +kernel : decode (jx_mb 127) 50 = .ok (.iload 5, 2))) rfl rfl rfl
  · exact fun d lv M Q a0 a1 a2 a4 => jx_ev_ci (jx_fok (by decide +kernel : decode (jx_mb 127) 52 = .ok (.invokevirtual 158, 3))) rfl (jx_ccV (As := [.int a2, .int a1, .int a0]) (rest := [.int a4]) rfl rfl rfl rfl rfl rfl) (by decide)
  · exact fun d lv st M Q => jx_ev_st (jx_fok (by decide +kernel : decode (jx_mb 127) 55 = .ok (.bipush (-9), 2))) rfl rfl rfl
  · exact fun d lv st M Q x z => jx_k_b2n (jx_fok (by decide +kernel : decode (jx_mb 127) 57 = .ok (.if_icmp .ne 7, 3))) rfl jx_hNe
  · exact fun d lv st M Q => jx_ev_st (jx_fok (by decide +kernel : decode (jx_mb 127) 60 = .ok (.iconst 0, 1))) rfl rfl rfl
  · exact fun d lv st M Q => jx_k_goto (jx_fok (by decide +kernel : decode (jx_mb 127) 61 = .ok (.goto 4, 3))) rfl
  · exact fun d lv st M Q => jx_ev_st (jx_fok (by decide +kernel : decode (jx_mb 127) 64 = .ok (.iconst 1, 1))) rfl rfl rfl
  · exact fun d lv st M Q x z => jx_ev_st (jx_fok (by decide +kernel : decode (jx_mb 127) 65 = .ok (.iadd, 1))) rfl rfl rfl
  · exact fun d st M Q l0 l1 l2 l3 l4 l5 x => jx_ev_st (jx_fok (by decide +kernel : decode (jx_mb 127) 66 = .ok (.istore 4, 2))) rfl rfl rfl
  · exact fun d st M Q l0 l1 l2 l3 l4 x => jx_ev_st (jx_fok (by decide +kernel : decode (jx_mb 127) 68 = .ok (.iinc 5 1, 3))) rfl rfl rfl
  · exact fun d lv st M Q => jx_k_goto (jx_fok (by decide +kernel : decode (jx_mb 127) 71 = .ok (.goto (-37), 3))) rfl
  · exact fun d st M Q l0 l1 l2 l3 l5 x => jx_ev_st (jx_fok (by decide +kernel : decode (jx_mb 127) 74 = .ok (.iload 4, 2))) rfl rfl rfl
  · exact fun d lv st M Q x => jx_ev_st (jx_fok (by decide +kernel : decode (jx_mb 127) 76 = .ok (.i2l, 1))) rfl rfl rfl
  · exact fun d lv st M Q => jx_ev_st (jx_fok (by decide +kernel : decode (jx_mb 127) 77 = .ok (.lconst 1, 1))) rfl rfl rfl
  · exact fun d st M Q l1 l2 l3 l4 l5 x => jx_ev_st (jx_fok (by decide +kernel : decode (jx_mb 127) 78 = .ok (.aload_n 0, 1))) rfl rfl rfl
  · exact fun d lv st M Q => jx_k_gf (jx_fok (by decide +kernel : decode (jx_mb 127) 79 = .ok (.getfield 77, 3))) rfl rfl rfl
  · exact fun d lv st M Q x z => jx_ev_st (jx_fok (by decide +kernel : decode (jx_mb 127) 82 = .ok (.lshl, 1))) rfl rfl rfl
  · exact fun d st M Q l0 l1 l2 l4 l5 x => jx_ev_st (jx_fok (by decide +kernel : decode (jx_mb 127) 83 = .ok (.iload_n 3, 1))) rfl rfl rfl
  · exact fun d lv M Q a0 a1 a2 r hr => jx_k_ilt (jx_fok (by decide +kernel : decode (jx_mb 127) 84 = .ok (.invokestatic 183, 3))) rfl rfl (Nat.le_of_ble_eq_true rfl) hr
  · exact fun d lv M Q x => jx_k_rl (jx_fok (by decide +kernel : decode (jx_mb 127) 87 = .ok (.lreturn, 1))) rfl
theorem eX8_odds_34 (d : Nat) (st : List Value) (M : jx_M) (Q : jx_Po) (l0 l1 l2 l3 l4 : Option Value) (x : Int32) : jx_Ev d 127 34 [l0, l1, l2, l3, l4, some (.int x)] st M Q ↔ jx_Ev d 127 36 [l0, l1, l2, l3, l4, some (.int x)] (.int x :: st) M Q := jx_ev_st (jx_fok (by decide +kernel : decode (jx_mb 127) 34 = .ok (.iload 5, 2))) rfl rfl rfl
theorem kX8_odds (d : Nat) (M : jx_M) (q : Int64 → jx_M → Prop) (a0 a1 a2 a3 : Value) : jx_L d 127 [a0, a1, a2, a3] M q ↔ jx_Ev d 127 0 [some a0, some a1, some a2, some a3, none, none] [] M (jx_qL q) := Iff.rfl
set_option maxRecDepth 100000 in
theorem eX8_sheet :
  (∀ (d : Nat) (st : List Value) (M : jx_M) (Q : jx_Po) (l1 l2 l3 l4 : Option Value) (x : Nat), jx_Ev d 128 0 [some (.ref x), l1, l2, l3, l4] st M Q ↔ jx_Ev d 128 1 [some (.ref x), l1, l2, l3, l4] (.ref x :: st) M Q) ∧
  (∀ (d : Nat) (lv : List (Option Value)) (st : List Value) (M : jx_M) (Q : jx_Po), jx_Ev d 128 1 lv st M Q ↔ jx_Ev d 128 2 lv (.int 0 :: st) M Q) ∧
  (∀ (d : Nat) (lv : List (Option Value)) (st : List Value) (M : jx_M) (Q : jx_Po) (x : Int32), jx_Ev d 128 2 lv (.int x :: .ref 36 :: st) M Q ↔ jx_Ev d 128 5 lv st (jx_up M 36 0 x) Q) ∧
  (∀ (d : Nat) (st : List Value) (M : jx_M) (Q : jx_Po) (l0 l2 l3 l4 : Option Value) (x : Int32), jx_Ev d 128 5 [l0, some (.int x), l2, l3, l4] st M Q ↔ jx_Ev d 128 6 [l0, some (.int x), l2, l3, l4] (.int x :: st) M Q) ∧
  (∀ (d : Nat) (lv : List (Option Value)) (M : jx_M) (Q : jx_Po) (a0 : Int32), jx_Ev (d + 1) 128 6 lv [.int a0] M Q ↔ jx_I d 86 [.int a0] M (fun x M => jx_Ev (d + 1) 128 9 lv (.int x :: []) M Q)) ∧
  (∀ (d : Nat) (lv : List (Option Value)) (st : List Value) (M : jx_M) (Q : jx_Po) (x : Int32), jx_Ev d 128 9 lv (.int x :: st) M Q ↔ (if x = 0 then jx_Ev d 128 12 lv st M Q else jx_Ev d 128 14 lv st M Q)) ∧
  (∀ (d : Nat) (lv : List (Option Value)) (st : List Value) (M : jx_M) (Q : jx_Po), jx_Ev d 128 12 lv st M Q ↔ jx_Ev d 128 13 lv (.int (-1) :: st) M Q) ∧
  (∀ (d : Nat) (lv : List (Option Value)) (M : jx_M) (Q : jx_Po) (x : Int32), jx_Ev d 128 13 lv [.int x] M Q ↔ Q [.int x] M) ∧
  (∀ (d : Nat) (st : List Value) (M : jx_M) (Q : jx_Po) (l0 l1 l3 l4 : Option Value) (x : Int32), jx_Ev d 128 14 [l0, l1, some (.int x), l3, l4] st M Q ↔ jx_Ev d 128 15 [l0, l1, some (.int x), l3, l4] (.int x :: st) M Q) ∧
  (∀ (d : Nat) (lv : List (Option Value)) (M : jx_M) (Q : jx_Po) (a0 : Int32), jx_Ev (d + 1) 128 15 lv [.int a0] M Q ↔ jx_I d 87 [.int a0] M (fun x M => jx_Ev (d + 1) 128 18 lv (.int x :: []) M Q)) ∧
  (∀ (d : Nat) (lv : List (Option Value)) (st : List Value) (M : jx_M) (Q : jx_Po) (x : Int32), jx_Ev d 128 18 lv (.int x :: st) M Q ↔ (if x = 0 then jx_Ev d 128 27 lv st M Q else jx_Ev d 128 21 lv st M Q)) ∧
  (∀ (d : Nat) (st : List Value) (M : jx_M) (Q : jx_Po) (l0 l1 l2 l4 : Option Value) (x : Int32), jx_Ev d 128 21 [l0, l1, l2, some (.int x), l4] st M Q ↔ jx_Ev d 128 22 [l0, l1, l2, some (.int x), l4] (.int x :: st) M Q) ∧
  (∀ (d : Nat) (lv : List (Option Value)) (st : List Value) (M : jx_M) (Q : jx_Po), jx_Ev d 128 22 lv st M Q ↔ jx_Ev d 128 24 lv (.int 60 :: st) M Q) ∧
  (∀ (d : Nat) (lv : List (Option Value)) (st : List Value) (M : jx_M) (Q : jx_Po) (x z : Int32), jx_Ev d 128 24 lv (.int z :: .int x :: st) M Q ↔ (if x ≤ z then jx_Ev d 128 30 lv st M Q else jx_Ev d 128 27 lv st M Q)) ∧
  (∀ (d : Nat) (lv : List (Option Value)) (st : List Value) (M : jx_M) (Q : jx_Po), jx_Ev d 128 27 lv st M Q ↔ jx_Ev d 128 29 lv (.int (-2) :: st) M Q) ∧
  (∀ (d : Nat) (lv : List (Option Value)) (M : jx_M) (Q : jx_Po) (x : Int32), jx_Ev d 128 29 lv [.int x] M Q ↔ Q [.int x] M) ∧
  (∀ (d : Nat) (st : List Value) (M : jx_M) (Q : jx_Po) (l0 l1 l2 l4 : Option Value) (x : Int32), jx_Ev d 128 30 [l0, l1, l2, some (.int x), l4] st M Q ↔ jx_Ev d 128 31 [l0, l1, l2, some (.int x), l4] (.int x :: st) M Q) ∧
  (∀ (d : Nat) (lv : List (Option Value)) (st : List Value) (M : jx_M) (Q : jx_Po) (x : Int32), jx_Ev d 128 31 lv (.int x :: st) M Q ↔ (if 0 ≤ x then jx_Ev d 128 40 lv st M Q else jx_Ev d 128 34 lv st M Q)) ∧
  (∀ (d : Nat) (st : List Value) (M : jx_M) (Q : jx_Po) (l1 l2 l3 l4 : Option Value) (x : Nat), jx_Ev d 128 34 [some (.ref x), l1, l2, l3, l4] st M Q ↔ jx_Ev d 128 35 [some (.ref x), l1, l2, l3, l4] (.ref x :: st) M Q) ∧
  (∀ (d : Nat) (lv : List (Option Value)) (st : List Value) (M : jx_M) (Q : jx_Po), jx_Ev d 128 35 lv st M Q ↔ jx_Ev d 128 36 lv (.int 4 :: st) M Q) ∧
  (∀ (d : Nat) (lv : List (Option Value)) (M : jx_M) (Q : jx_Po) (a0 : Int32), jx_Ev (d + 1) 128 36 lv [.int a0, .ref 36] M Q ↔ jx_I d 83 [.ref 36, .int a0] M (fun x M => jx_Ev (d + 1) 128 39 lv (.int x :: []) M Q)) ∧
  (∀ (d : Nat) (lv : List (Option Value)) (M : jx_M) (Q : jx_Po) (x : Int32), jx_Ev d 128 39 lv [.int x] M Q ↔ Q [.int x] M) ∧
  (∀ (d : Nat) (st : List Value) (M : jx_M) (Q : jx_Po) (l1 l2 l3 l4 : Option Value) (x : Nat), jx_Ev d 128 40 [some (.ref x), l1, l2, l3, l4] st M Q ↔ jx_Ev d 128 41 [some (.ref x), l1, l2, l3, l4] (.ref x :: st) M Q) ∧
  (∀ (d : Nat) (lv : List (Option Value)) (st : List Value) (M : jx_M) (Q : jx_Po), jx_Ev d 128 41 lv (.ref 36 :: st) M Q ↔ jx_Ev d 128 44 lv (.ref 37 :: st) M Q) ∧
  (∀ (d : Nat) (st : List Value) (M : jx_M) (Q : jx_Po) (l0 l2 l3 l4 : Option Value) (x : Int32), jx_Ev d 128 44 [l0, some (.int x), l2, l3, l4] st M Q ↔ jx_Ev d 128 45 [l0, some (.int x), l2, l3, l4] (.int x :: st) M Q) ∧
  (∀ (d : Nat) (st : List Value) (M : jx_M) (Q : jx_Po) (l0 l1 l3 l4 : Option Value) (x : Int32), jx_Ev d 128 45 [l0, l1, some (.int x), l3, l4] st M Q ↔ jx_Ev d 128 46 [l0, l1, some (.int x), l3, l4] (.int x :: st) M Q) ∧
  (∀ (d : Nat) (lv : List (Option Value)) (st : List Value) (M : jx_M) (Q : jx_Po) (x z : Int32) (a : Nat) (ha : jx_cl a = 9), jx_Ev d 128 46 lv (.int z :: .int x :: .ref a :: st) M Q ↔ (vp_in x (jx_sz a) ∧ jx_Ev d 128 47 lv st (jx_up M a x.toNatClampNeg z) Q)) ∧
  (∀ (d : Nat) (st : List Value) (M : jx_M) (Q : jx_Po) (l1 l2 l3 l4 : Option Value) (x : Nat), jx_Ev d 128 47 [some (.ref x), l1, l2, l3, l4] st M Q ↔ jx_Ev d 128 48 [some (.ref x), l1, l2, l3, l4] (.ref x :: st) M Q) ∧
  (∀ (d : Nat) (lv : List (Option Value)) (st : List Value) (M : jx_M) (Q : jx_Po), jx_Ev d 128 48 lv (.ref 36 :: st) M Q ↔ jx_Ev d 128 51 lv (.ref 38 :: st) M Q) ∧
  (∀ (d : Nat) (st : List Value) (M : jx_M) (Q : jx_Po) (l0 l2 l3 l4 : Option Value) (x : Int32), jx_Ev d 128 51 [l0, some (.int x), l2, l3, l4] st M Q ↔ jx_Ev d 128 52 [l0, some (.int x), l2, l3, l4] (.int x :: st) M Q) ∧
  (∀ (d : Nat) (st : List Value) (M : jx_M) (Q : jx_Po) (l0 l1 l2 l4 : Option Value) (x : Int32), jx_Ev d 128 52 [l0, l1, l2, some (.int x), l4] st M Q ↔ jx_Ev d 128 53 [l0, l1, l2, some (.int x), l4] (.int x :: st) M Q) ∧
  (∀ (d : Nat) (lv : List (Option Value)) (st : List Value) (M : jx_M) (Q : jx_Po) (x z : Int32) (a : Nat) (ha : jx_cl a = 9), jx_Ev d 128 53 lv (.int z :: .int x :: .ref a :: st) M Q ↔ (vp_in x (jx_sz a) ∧ jx_Ev d 128 54 lv st (jx_up M a x.toNatClampNeg z) Q)) ∧
  (∀ (d : Nat) (lv : List (Option Value)) (st : List Value) (M : jx_M) (Q : jx_Po), jx_Ev d 128 54 lv st M Q ↔ jx_Ev d 128 55 lv (.int 0 :: st) M Q) ∧
  (∀ (d : Nat) (st : List Value) (M : jx_M) (Q : jx_Po) (l0 l1 l2 l3 l4 : Option Value) (x : Int32), jx_Ev d 128 55 [l0, l1, l2, l3, l4] (.int x :: st) M Q ↔ jx_Ev d 128 57 [l0, l1, l2, l3, some (.int x)] st M Q) ∧
  (∀ (d : Nat) (lv : List (Option Value)) (st : List Value) (M : jx_M) (Q : jx_Po), jx_Ev d 128 59 lv st M Q ↔ jx_Ev d 128 61 lv (.int 60 :: st) M Q) ∧
  (∀ (d : Nat) (lv : List (Option Value)) (st : List Value) (M : jx_M) (Q : jx_Po) (x z : Int32), jx_Ev d 128 61 lv (.int z :: .int x :: st) M Q ↔ (if z ≤ x then jx_Ev d 128 83 lv st M Q else jx_Ev d 128 64 lv st M Q)) ∧
  (∀ (d : Nat) (st : List Value) (M : jx_M) (Q : jx_Po) (l1 l2 l3 l4 : Option Value) (x : Nat), jx_Ev d 128 64 [some (.ref x), l1, l2, l3, l4] st M Q ↔ jx_Ev d 128 65 [some (.ref x), l1, l2, l3, l4] (.ref x :: st) M Q) ∧
  (∀ (d : Nat) (lv : List (Option Value)) (st : List Value) (M : jx_M) (Q : jx_Po), jx_Ev d 128 65 lv (.ref 36 :: st) M Q ↔ jx_Ev d 128 68 lv (.ref 39 :: st) M Q) ∧
  (∀ (d : Nat) (lv : List (Option Value)) (st : List Value) (M : jx_M) (Q : jx_Po), jx_Ev d 128 68 lv st M Q ↔ jx_Ev d 128 70 lv (.int 60 :: st) M Q) ∧
  (∀ (d : Nat) (st : List Value) (M : jx_M) (Q : jx_Po) (l0 l2 l3 l4 : Option Value) (x : Int32), jx_Ev d 128 70 [l0, some (.int x), l2, l3, l4] st M Q ↔ jx_Ev d 128 71 [l0, some (.int x), l2, l3, l4] (.int x :: st) M Q) ∧
  (∀ (d : Nat) (lv : List (Option Value)) (st : List Value) (M : jx_M) (Q : jx_Po) (x z : Int32), jx_Ev d 128 71 lv (.int z :: .int x :: st) M Q ↔ jx_Ev d 128 72 lv (.int (x * z) :: st) M Q) ∧
  (∀ (d : Nat) (st : List Value) (M : jx_M) (Q : jx_Po) (l0 l1 l2 l3 : Option Value) (x : Int32), jx_Ev d 128 72 [l0, l1, l2, l3, some (.int x)] st M Q ↔ jx_Ev d 128 74 [l0, l1, l2, l3, some (.int x)] (.int x :: st) M Q) ∧
  (∀ (d : Nat) (lv : List (Option Value)) (st : List Value) (M : jx_M) (Q : jx_Po) (x z : Int32), jx_Ev d 128 74 lv (.int z :: .int x :: st) M Q ↔ jx_Ev d 128 75 lv (.int (x + z) :: st) M Q) ∧
  (∀ (d : Nat) (lv : List (Option Value)) (st : List Value) (M : jx_M) (Q : jx_Po), jx_Ev d 128 75 lv st M Q ↔ jx_Ev d 128 76 lv (.int 0 :: st) M Q) ∧
  (∀ (d : Nat) (lv : List (Option Value)) (st : List Value) (M : jx_M) (Q : jx_Po) (x z : Int32) (a : Nat) (ha : jx_cl a = 9), jx_Ev d 128 76 lv (.int z :: .int x :: .ref a :: st) M Q ↔ (vp_in x (jx_sz a) ∧ jx_Ev d 128 77 lv st (jx_up M a x.toNatClampNeg z) Q)) ∧
  (∀ (d : Nat) (st : List Value) (M : jx_M) (Q : jx_Po) (l0 l1 l2 l3 : Option Value) (x : Int32), jx_Ev d 128 77 [l0, l1, l2, l3, some (.int x)] st M Q ↔ jx_Ev d 128 80 [l0, l1, l2, l3, some (.int (x + 1))] st M Q) ∧
  (∀ (d : Nat) (lv : List (Option Value)) (st : List Value) (M : jx_M) (Q : jx_Po), jx_Ev d 128 80 lv st M Q ↔ jx_Ev d 128 57 lv st M Q) ∧
  (∀ (d : Nat) (lv : List (Option Value)) (st : List Value) (M : jx_M) (Q : jx_Po), jx_Ev d 128 83 lv st M Q ↔ jx_Ev d 128 84 lv (.int 1 :: st) M Q) ∧
  (∀ (d : Nat) (lv : List (Option Value)) (M : jx_M) (Q : jx_Po) (x : Int32), jx_Ev d 128 84 lv [.int x] M Q ↔ Q [.int x] M) := by
  refine ⟨?_, ?_, ?_, ?_, ?_, ?_, ?_, ?_, ?_, ?_, ?_, ?_, ?_, ?_, ?_, ?_, ?_, ?_, ?_, ?_, ?_, ?_, ?_, ?_, ?_, ?_, ?_, ?_, ?_, ?_, ?_, ?_, ?_, ?_, ?_, ?_, ?_, ?_, ?_, ?_, ?_, ?_, ?_, ?_, ?_, ?_, ?_, ?_, ?_⟩
  · exact fun d st M Q l1 l2 l3 l4 x => jx_ev_st (jx_fok (by decide +kernel : decode (jx_mb 128) 0 = .ok (.aload_n 0, 1))) rfl rfl rfl
  · exact fun d lv st M Q => jx_ev_st (jx_fok (by decide +kernel : decode (jx_mb 128) 1 = .ok (.iconst 0, 1))) rfl rfl rfl
  · exact fun d lv st M Q x => jx_k_pf0 (jx_fok (by decide +kernel : decode (jx_mb 128) 2 = .ok (.putfield 67, 3))) rfl rfl rfl
  · exact fun d st M Q l0 l2 l3 l4 x => jx_ev_st (jx_fok (by decide +kernel : decode (jx_mb 128) 5 = .ok (.iload_n 1, 1))) rfl rfl rfl
  · exact fun d lv M Q a0 => jx_ev_ci (jx_fok (by decide +kernel : decode (jx_mb 128) 6 = .ok (.invokestatic 86, 3))) rfl (jx_ccS (As := [.int a0]) (rest := []) rfl rfl rfl rfl rfl) (by decide)
  · exact fun d lv st M Q x => jx_k_b1n (jx_fok (by decide +kernel : decode (jx_mb 128) 9 = .ok (.ifCond .ne 5, 3))) rfl jx_hNe
  · exact fun d lv st M Q => jx_ev_st (jx_fok (by decide +kernel : decode (jx_mb 128) 12 = .ok (.iconst (-1), 1))) rfl rfl rfl
  · exact fun d lv M Q x => jx_k_ri (jx_fok (by decide +kernel : decode (jx_mb 128) 13 = .ok (.ireturn, 1))) rfl
  · exact fun d st M Q l0 l1 l3 l4 x => jx_ev_st (jx_fok (by decide +kernel : decode (jx_mb 128) 14 = .ok (.iload_n 2, 1))) rfl rfl rfl
  · exact fun d lv M Q a0 => jx_ev_ci (jx_fok (by decide +kernel : decode (jx_mb 128) 15 = .ok (.invokestatic 90, 3))) rfl (jx_ccS (As := [.int a0]) (rest := []) rfl rfl rfl rfl rfl) (by decide)
  · exact fun d lv st M Q x => jx_k_b1 (jx_fok (by decide +kernel : decode (jx_mb 128) 18 = .ok (.ifCond .eq 9, 3))) rfl jx_hEq
  · exact fun d st M Q l0 l1 l2 l4 x => jx_ev_st (jx_fok (by decide +kernel : decode (jx_mb 128) 21 = .ok (.iload_n 3, 1))) rfl rfl rfl
  · exact fun d lv st M Q => jx_ev_st (jx_fok (by decide +kernel : decode (jx_mb 128) 22 = .ok (.bipush 60, 2))) rfl rfl rfl
  · exact fun d lv st M Q x z => jx_k_b2 (jx_fok (by decide +kernel : decode (jx_mb 128) 24 = .ok (.if_icmp .le 6, 3))) rfl jx_hLe
  · exact fun d lv st M Q => jx_ev_st (jx_fok (by decide +kernel : decode (jx_mb 128) 27 = .ok (.bipush (-2), 2))) rfl rfl rfl
  · exact fun d lv M Q x => jx_k_ri (jx_fok (by decide +kernel : decode (jx_mb 128) 29 = .ok (.ireturn, 1))) rfl
  · exact fun d st M Q l0 l1 l2 l4 x => jx_ev_st (jx_fok (by decide +kernel : decode (jx_mb 128) 30 = .ok (.iload_n 3, 1))) rfl rfl rfl
  · exact fun d lv st M Q x => jx_k_b1 (jx_fok (by decide +kernel : decode (jx_mb 128) 31 = .ok (.ifCond .ge 9, 3))) rfl jx_hGe
  · exact fun d st M Q l1 l2 l3 l4 x => jx_ev_st (jx_fok (by decide +kernel : decode (jx_mb 128) 34 = .ok (.aload_n 0, 1))) rfl rfl rfl
  · exact fun d lv st M Q => jx_ev_st (jx_fok (by decide +kernel : decode (jx_mb 128) 35 = .ok (.iconst 4, 1))) rfl rfl rfl
  · exact fun d lv M Q a0 => jx_ev_ci (jx_fok (by decide +kernel : decode (jx_mb 128) 36 = .ok (.invokevirtual 97, 3))) rfl (jx_ccV (As := [.int a0]) (rest := []) rfl rfl rfl rfl rfl rfl) (by decide)
  · exact fun d lv M Q x => jx_k_ri (jx_fok (by decide +kernel : decode (jx_mb 128) 39 = .ok (.ireturn, 1))) rfl
  · exact fun d st M Q l1 l2 l3 l4 x => jx_ev_st (jx_fok (by decide +kernel : decode (jx_mb 128) 40 = .ok (.aload_n 0, 1))) rfl rfl rfl
  · exact fun d lv st M Q => jx_k_gf (jx_fok (by decide +kernel : decode (jx_mb 128) 41 = .ok (.getfield 9, 3))) rfl rfl rfl
  · exact fun d st M Q l0 l2 l3 l4 x => jx_ev_st (jx_fok (by decide +kernel : decode (jx_mb 128) 44 = .ok (.iload_n 1, 1))) rfl rfl rfl
  · exact fun d st M Q l0 l1 l3 l4 x => jx_ev_st (jx_fok (by decide +kernel : decode (jx_mb 128) 45 = .ok (.iload_n 2, 1))) rfl rfl rfl
  · exact fun d lv st M Q x z a ha => jx_k_as (jx_fok (by decide +kernel : decode (jx_mb 128) 46 = .ok (.iastore, 1))) ha
  · exact fun d st M Q l1 l2 l3 l4 x => jx_ev_st (jx_fok (by decide +kernel : decode (jx_mb 128) 47 = .ok (.aload_n 0, 1))) rfl rfl rfl
  · exact fun d lv st M Q => jx_k_gf (jx_fok (by decide +kernel : decode (jx_mb 128) 48 = .ok (.getfield 13, 3))) rfl rfl rfl
  · exact fun d st M Q l0 l2 l3 l4 x => jx_ev_st (jx_fok (by decide +kernel : decode (jx_mb 128) 51 = .ok (.iload_n 1, 1))) rfl rfl rfl
  · exact fun d st M Q l0 l1 l2 l4 x => jx_ev_st (jx_fok (by decide +kernel : decode (jx_mb 128) 52 = .ok (.iload_n 3, 1))) rfl rfl rfl
  · exact fun d lv st M Q x z a ha => jx_k_as (jx_fok (by decide +kernel : decode (jx_mb 128) 53 = .ok (.iastore, 1))) ha
  · exact fun d lv st M Q => jx_ev_st (jx_fok (by decide +kernel : decode (jx_mb 128) 54 = .ok (.iconst 0, 1))) rfl rfl rfl
  · exact fun d st M Q l0 l1 l2 l3 l4 x => jx_ev_st (jx_fok (by decide +kernel : decode (jx_mb 128) 55 = .ok (.istore 4, 2))) rfl rfl rfl
  · exact fun d lv st M Q => jx_ev_st (jx_fok (by decide +kernel : decode (jx_mb 128) 59 = .ok (.bipush 60, 2))) rfl rfl rfl
  · exact fun d lv st M Q x z => jx_k_b2 (jx_fok (by decide +kernel : decode (jx_mb 128) 61 = .ok (.if_icmp .ge 22, 3))) rfl jx_hGe
  · exact fun d st M Q l1 l2 l3 l4 x => jx_ev_st (jx_fok (by decide +kernel : decode (jx_mb 128) 64 = .ok (.aload_n 0, 1))) rfl rfl rfl
  · exact fun d lv st M Q => jx_k_gf (jx_fok (by decide +kernel : decode (jx_mb 128) 65 = .ok (.getfield 16, 3))) rfl rfl rfl
  · exact fun d lv st M Q => jx_ev_st (jx_fok (by decide +kernel : decode (jx_mb 128) 68 = .ok (.bipush 60, 2))) rfl rfl rfl
  · exact fun d st M Q l0 l2 l3 l4 x => jx_ev_st (jx_fok (by decide +kernel : decode (jx_mb 128) 70 = .ok (.iload_n 1, 1))) rfl rfl rfl
  · exact fun d lv st M Q x z => jx_ev_st (jx_fok (by decide +kernel : decode (jx_mb 128) 71 = .ok (.imul, 1))) rfl rfl rfl
  · exact fun d st M Q l0 l1 l2 l3 x => jx_ev_st (jx_fok (by decide +kernel : decode (jx_mb 128) 72 = .ok (.iload 4, 2))) rfl rfl rfl
  · exact fun d lv st M Q x z => jx_ev_st (jx_fok (by decide +kernel : decode (jx_mb 128) 74 = .ok (.iadd, 1))) rfl rfl rfl
  · exact fun d lv st M Q => jx_ev_st (jx_fok (by decide +kernel : decode (jx_mb 128) 75 = .ok (.iconst 0, 1))) rfl rfl rfl
  · exact fun d lv st M Q x z a ha => jx_k_as (jx_fok (by decide +kernel : decode (jx_mb 128) 76 = .ok (.iastore, 1))) ha
  · exact fun d st M Q l0 l1 l2 l3 x => jx_ev_st (jx_fok (by decide +kernel : decode (jx_mb 128) 77 = .ok (.iinc 4 1, 3))) rfl rfl rfl
  · exact fun d lv st M Q => jx_k_goto (jx_fok (by decide +kernel : decode (jx_mb 128) 80 = .ok (.goto (-23), 3))) rfl
  · exact fun d lv st M Q => jx_ev_st (jx_fok (by decide +kernel : decode (jx_mb 128) 83 = .ok (.iconst 1, 1))) rfl rfl rfl
  · exact fun d lv M Q x => jx_k_ri (jx_fok (by decide +kernel : decode (jx_mb 128) 84 = .ok (.ireturn, 1))) rfl
theorem eX8_sheet_57 (d : Nat) (st : List Value) (M : jx_M) (Q : jx_Po) (l0 l1 l2 l3 : Option Value) (x : Int32) : jx_Ev d 128 57 [l0, l1, l2, l3, some (.int x)] st M Q ↔ jx_Ev d 128 59 [l0, l1, l2, l3, some (.int x)] (.int x :: st) M Q := jx_ev_st (jx_fok (by decide +kernel : decode (jx_mb 128) 57 = .ok (.iload 4, 2))) rfl rfl rfl
theorem kX8_sheet (d : Nat) (M : jx_M) (q : Int32 → jx_M → Prop) (a0 a1 a2 a3 : Value) : jx_I d 128 [a0, a1, a2, a3] M q ↔ jx_Ev d 128 0 [some a0, some a1, some a2, some a3, none] [] M (jx_qI q) := Iff.rfl
set_option maxRecDepth 100000 in
theorem eX8_lose :
  (∀ (d : Nat) (st : List Value) (M : jx_M) (Q : jx_Po) (l0 l2 : Option Value) (x : Int32), jx_Ev d 129 0 [l0, some (.int x), l2] st M Q ↔ jx_Ev d 129 1 [l0, some (.int x), l2] (.int x :: st) M Q) ∧
  (∀ (d : Nat) (lv : List (Option Value)) (M : jx_M) (Q : jx_Po) (a0 : Int32), jx_Ev (d + 1) 129 1 lv [.int a0] M Q ↔ jx_I d 86 [.int a0] M (fun x M => jx_Ev (d + 1) 129 4 lv (.int x :: []) M Q)) ∧
  (∀ (d : Nat) (lv : List (Option Value)) (st : List Value) (M : jx_M) (Q : jx_Po) (x : Int32), jx_Ev d 129 4 lv (.int x :: st) M Q ↔ (if x = 0 then jx_Ev d 129 7 lv st M Q else jx_Ev d 129 9 lv st M Q)) ∧
  (∀ (d : Nat) (lv : List (Option Value)) (st : List Value) (M : jx_M) (Q : jx_Po), jx_Ev d 129 7 lv st M Q ↔ jx_Ev d 129 8 lv (.int (-1) :: st) M Q) ∧
  (∀ (d : Nat) (lv : List (Option Value)) (M : jx_M) (Q : jx_Po) (x : Int32), jx_Ev d 129 8 lv [.int x] M Q ↔ Q [.int x] M) ∧
  (∀ (d : Nat) (st : List Value) (M : jx_M) (Q : jx_Po) (l1 l2 : Option Value) (x : Nat), jx_Ev d 129 9 [some (.ref x), l1, l2] st M Q ↔ jx_Ev d 129 10 [some (.ref x), l1, l2] (.ref x :: st) M Q) ∧
  (∀ (d : Nat) (lv : List (Option Value)) (st : List Value) (M : jx_M) (Q : jx_Po), jx_Ev d 129 10 lv (.ref 36 :: st) M Q ↔ jx_Ev d 129 13 lv (.ref 37 :: st) M Q) ∧
  (∀ (d : Nat) (st : List Value) (M : jx_M) (Q : jx_Po) (l0 l2 : Option Value) (x : Int32), jx_Ev d 129 13 [l0, some (.int x), l2] st M Q ↔ jx_Ev d 129 14 [l0, some (.int x), l2] (.int x :: st) M Q) ∧
  (∀ (d : Nat) (lv : List (Option Value)) (st : List Value) (M : jx_M) (Q : jx_Po) (x : Int32) (a : Nat) (ha : jx_cl a = 9), jx_Ev d 129 14 lv (.int x :: .ref a :: st) M Q ↔ (vp_in x (jx_sz a) ∧ jx_Ev d 129 15 lv (.int (M a x.toNatClampNeg) :: st) M Q)) ∧
  (∀ (d : Nat) (lv : List (Option Value)) (st : List Value) (M : jx_M) (Q : jx_Po), jx_Ev d 129 15 lv st M Q ↔ jx_Ev d 129 17 lv (.int (-9) :: st) M Q) ∧
  (∀ (d : Nat) (lv : List (Option Value)) (st : List Value) (M : jx_M) (Q : jx_Po) (x z : Int32), jx_Ev d 129 17 lv (.int z :: .int x :: st) M Q ↔ (if x = z then jx_Ev d 129 20 lv st M Q else jx_Ev d 129 24 lv st M Q)) ∧
  (∀ (d : Nat) (lv : List (Option Value)) (st : List Value) (M : jx_M) (Q : jx_Po), jx_Ev d 129 20 lv st M Q ↔ jx_Ev d 129 21 lv (.int 0 :: st) M Q) ∧
  (∀ (d : Nat) (lv : List (Option Value)) (st : List Value) (M : jx_M) (Q : jx_Po), jx_Ev d 129 21 lv st M Q ↔ jx_Ev d 129 25 lv st M Q) ∧
  (∀ (d : Nat) (lv : List (Option Value)) (st : List Value) (M : jx_M) (Q : jx_Po), jx_Ev d 129 24 lv st M Q ↔ jx_Ev d 129 25 lv (.int 1 :: st) M Q) ∧
  (∀ (d : Nat) (st : List Value) (M : jx_M) (Q : jx_Po) (l0 l1 l2 : Option Value) (x : Int32), jx_Ev d 129 25 [l0, l1, l2] (.int x :: st) M Q ↔ jx_Ev d 129 26 [l0, l1, some (.int x)] st M Q) ∧
  (∀ (d : Nat) (st : List Value) (M : jx_M) (Q : jx_Po) (l1 l2 : Option Value) (x : Nat), jx_Ev d 129 26 [some (.ref x), l1, l2] st M Q ↔ jx_Ev d 129 27 [some (.ref x), l1, l2] (.ref x :: st) M Q) ∧
  (∀ (d : Nat) (lv : List (Option Value)) (st : List Value) (M : jx_M) (Q : jx_Po), jx_Ev d 129 27 lv (.ref 36 :: st) M Q ↔ jx_Ev d 129 30 lv (.ref 37 :: st) M Q) ∧
  (∀ (d : Nat) (st : List Value) (M : jx_M) (Q : jx_Po) (l0 l2 : Option Value) (x : Int32), jx_Ev d 129 30 [l0, some (.int x), l2] st M Q ↔ jx_Ev d 129 31 [l0, some (.int x), l2] (.int x :: st) M Q) ∧
  (∀ (d : Nat) (lv : List (Option Value)) (st : List Value) (M : jx_M) (Q : jx_Po), jx_Ev d 129 31 lv st M Q ↔ jx_Ev d 129 33 lv (.int (-9) :: st) M Q) ∧
  (∀ (d : Nat) (lv : List (Option Value)) (st : List Value) (M : jx_M) (Q : jx_Po) (x z : Int32) (a : Nat) (ha : jx_cl a = 9), jx_Ev d 129 33 lv (.int z :: .int x :: .ref a :: st) M Q ↔ (vp_in x (jx_sz a) ∧ jx_Ev d 129 34 lv st (jx_up M a x.toNatClampNeg z) Q)) ∧
  (∀ (d : Nat) (st : List Value) (M : jx_M) (Q : jx_Po) (l0 l1 : Option Value) (x : Int32), jx_Ev d 129 34 [l0, l1, some (.int x)] st M Q ↔ jx_Ev d 129 35 [l0, l1, some (.int x)] (.int x :: st) M Q) ∧
  (∀ (d : Nat) (lv : List (Option Value)) (M : jx_M) (Q : jx_Po) (x : Int32), jx_Ev d 129 35 lv [.int x] M Q ↔ Q [.int x] M) := by
  refine ⟨?_, ?_, ?_, ?_, ?_, ?_, ?_, ?_, ?_, ?_, ?_, ?_, ?_, ?_, ?_, ?_, ?_, ?_, ?_, ?_, ?_, ?_⟩
  · exact fun d st M Q l0 l2 x => jx_ev_st (jx_fok (by decide +kernel : decode (jx_mb 129) 0 = .ok (.iload_n 1, 1))) rfl rfl rfl
  · exact fun d lv M Q a0 => jx_ev_ci (jx_fok (by decide +kernel : decode (jx_mb 129) 1 = .ok (.invokestatic 86, 3))) rfl (jx_ccS (As := [.int a0]) (rest := []) rfl rfl rfl rfl rfl) (by decide)
  · exact fun d lv st M Q x => jx_k_b1n (jx_fok (by decide +kernel : decode (jx_mb 129) 4 = .ok (.ifCond .ne 5, 3))) rfl jx_hNe
  · exact fun d lv st M Q => jx_ev_st (jx_fok (by decide +kernel : decode (jx_mb 129) 7 = .ok (.iconst (-1), 1))) rfl rfl rfl
  · exact fun d lv M Q x => jx_k_ri (jx_fok (by decide +kernel : decode (jx_mb 129) 8 = .ok (.ireturn, 1))) rfl
  · exact fun d st M Q l1 l2 x => jx_ev_st (jx_fok (by decide +kernel : decode (jx_mb 129) 9 = .ok (.aload_n 0, 1))) rfl rfl rfl
  · exact fun d lv st M Q => jx_k_gf (jx_fok (by decide +kernel : decode (jx_mb 129) 10 = .ok (.getfield 9, 3))) rfl rfl rfl
  · exact fun d st M Q l0 l2 x => jx_ev_st (jx_fok (by decide +kernel : decode (jx_mb 129) 13 = .ok (.iload_n 1, 1))) rfl rfl rfl
  · exact fun d lv st M Q x a ha => jx_k_al (jx_fok (by decide +kernel : decode (jx_mb 129) 14 = .ok (.iaload, 1))) ha
  · exact fun d lv st M Q => jx_ev_st (jx_fok (by decide +kernel : decode (jx_mb 129) 15 = .ok (.bipush (-9), 2))) rfl rfl rfl
  · exact fun d lv st M Q x z => jx_k_b2n (jx_fok (by decide +kernel : decode (jx_mb 129) 17 = .ok (.if_icmp .ne 7, 3))) rfl jx_hNe
  · exact fun d lv st M Q => jx_ev_st (jx_fok (by decide +kernel : decode (jx_mb 129) 20 = .ok (.iconst 0, 1))) rfl rfl rfl
  · exact fun d lv st M Q => jx_k_goto (jx_fok (by decide +kernel : decode (jx_mb 129) 21 = .ok (.goto 4, 3))) rfl
  · exact fun d lv st M Q => jx_ev_st (jx_fok (by decide +kernel : decode (jx_mb 129) 24 = .ok (.iconst 1, 1))) rfl rfl rfl
  · exact fun d st M Q l0 l1 l2 x => jx_ev_st (jx_fok (by decide +kernel : decode (jx_mb 129) 25 = .ok (.istore_n 2, 1))) rfl rfl rfl
  · exact fun d st M Q l1 l2 x => jx_ev_st (jx_fok (by decide +kernel : decode (jx_mb 129) 26 = .ok (.aload_n 0, 1))) rfl rfl rfl
  · exact fun d lv st M Q => jx_k_gf (jx_fok (by decide +kernel : decode (jx_mb 129) 27 = .ok (.getfield 9, 3))) rfl rfl rfl
  · exact fun d st M Q l0 l2 x => jx_ev_st (jx_fok (by decide +kernel : decode (jx_mb 129) 30 = .ok (.iload_n 1, 1))) rfl rfl rfl
  · exact fun d lv st M Q => jx_ev_st (jx_fok (by decide +kernel : decode (jx_mb 129) 31 = .ok (.bipush (-9), 2))) rfl rfl rfl
  · exact fun d lv st M Q x z a ha => jx_k_as (jx_fok (by decide +kernel : decode (jx_mb 129) 33 = .ok (.iastore, 1))) ha
  · exact fun d st M Q l0 l1 x => jx_ev_st (jx_fok (by decide +kernel : decode (jx_mb 129) 34 = .ok (.iload_n 2, 1))) rfl rfl rfl
  · exact fun d lv M Q x => jx_k_ri (jx_fok (by decide +kernel : decode (jx_mb 129) 35 = .ok (.ireturn, 1))) rfl
theorem kX8_lose (d : Nat) (M : jx_M) (q : Int32 → jx_M → Prop) (a0 a1 : Value) : jx_I d 129 [a0, a1] M q ↔ jx_Ev d 129 0 [some a0, some a1, none] [] M (jx_qI q) := Iff.rfl
set_option maxRecDepth 100000 in
theorem eX8_put :
  (∀ (d : Nat) (st : List Value) (M : jx_M) (Q : jx_Po) (l1 l2 l3 : Option Value) (x : Nat), jx_Ev d 130 0 [some (.ref x), l1, l2, l3] st M Q ↔ jx_Ev d 130 1 [some (.ref x), l1, l2, l3] (.ref x :: st) M Q) ∧
  (∀ (d : Nat) (lv : List (Option Value)) (st : List Value) (M : jx_M) (Q : jx_Po), jx_Ev d 130 1 lv st M Q ↔ jx_Ev d 130 2 lv (.int 0 :: st) M Q) ∧
  (∀ (d : Nat) (lv : List (Option Value)) (st : List Value) (M : jx_M) (Q : jx_Po) (x : Int32), jx_Ev d 130 2 lv (.int x :: .ref 36 :: st) M Q ↔ jx_Ev d 130 5 lv st (jx_up M 36 0 x) Q) ∧
  (∀ (d : Nat) (st : List Value) (M : jx_M) (Q : jx_Po) (l0 l2 l3 : Option Value) (x : Int32), jx_Ev d 130 5 [l0, some (.int x), l2, l3] st M Q ↔ jx_Ev d 130 6 [l0, some (.int x), l2, l3] (.int x :: st) M Q) ∧
  (∀ (d : Nat) (lv : List (Option Value)) (M : jx_M) (Q : jx_Po) (a0 : Int32), jx_Ev (d + 1) 130 6 lv [.int a0] M Q ↔ jx_I d 86 [.int a0] M (fun x M => jx_Ev (d + 1) 130 9 lv (.int x :: []) M Q)) ∧
  (∀ (d : Nat) (lv : List (Option Value)) (st : List Value) (M : jx_M) (Q : jx_Po) (x : Int32), jx_Ev d 130 9 lv (.int x :: st) M Q ↔ (if x = 0 then jx_Ev d 130 12 lv st M Q else jx_Ev d 130 14 lv st M Q)) ∧
  (∀ (d : Nat) (lv : List (Option Value)) (st : List Value) (M : jx_M) (Q : jx_Po), jx_Ev d 130 12 lv st M Q ↔ jx_Ev d 130 13 lv (.int (-1) :: st) M Q) ∧
  (∀ (d : Nat) (lv : List (Option Value)) (M : jx_M) (Q : jx_Po) (x : Int32), jx_Ev d 130 13 lv [.int x] M Q ↔ Q [.int x] M) ∧
  (∀ (d : Nat) (st : List Value) (M : jx_M) (Q : jx_Po) (l1 l2 l3 : Option Value) (x : Nat), jx_Ev d 130 14 [some (.ref x), l1, l2, l3] st M Q ↔ jx_Ev d 130 15 [some (.ref x), l1, l2, l3] (.ref x :: st) M Q) ∧
  (∀ (d : Nat) (lv : List (Option Value)) (st : List Value) (M : jx_M) (Q : jx_Po), jx_Ev d 130 15 lv (.ref 36 :: st) M Q ↔ jx_Ev d 130 18 lv (.ref 37 :: st) M Q) ∧
  (∀ (d : Nat) (st : List Value) (M : jx_M) (Q : jx_Po) (l0 l2 l3 : Option Value) (x : Int32), jx_Ev d 130 18 [l0, some (.int x), l2, l3] st M Q ↔ jx_Ev d 130 19 [l0, some (.int x), l2, l3] (.int x :: st) M Q) ∧
  (∀ (d : Nat) (lv : List (Option Value)) (st : List Value) (M : jx_M) (Q : jx_Po) (x : Int32) (a : Nat) (ha : jx_cl a = 9), jx_Ev d 130 19 lv (.int x :: .ref a :: st) M Q ↔ (vp_in x (jx_sz a) ∧ jx_Ev d 130 20 lv (.int (M a x.toNatClampNeg) :: st) M Q)) ∧
  (∀ (d : Nat) (lv : List (Option Value)) (st : List Value) (M : jx_M) (Q : jx_Po), jx_Ev d 130 20 lv st M Q ↔ jx_Ev d 130 22 lv (.int (-9) :: st) M Q) ∧
  (∀ (d : Nat) (lv : List (Option Value)) (st : List Value) (M : jx_M) (Q : jx_Po) (x z : Int32), jx_Ev d 130 22 lv (.int z :: .int x :: st) M Q ↔ (if x = z then jx_Ev d 130 25 lv st M Q else jx_Ev d 130 31 lv st M Q)) ∧
  (∀ (d : Nat) (st : List Value) (M : jx_M) (Q : jx_Po) (l1 l2 l3 : Option Value) (x : Nat), jx_Ev d 130 25 [some (.ref x), l1, l2, l3] st M Q ↔ jx_Ev d 130 26 [some (.ref x), l1, l2, l3] (.ref x :: st) M Q) ∧
  (∀ (d : Nat) (lv : List (Option Value)) (st : List Value) (M : jx_M) (Q : jx_Po), jx_Ev d 130 26 lv st M Q ↔ jx_Ev d 130 27 lv (.int 1 :: st) M Q) ∧
  (∀ (d : Nat) (lv : List (Option Value)) (M : jx_M) (Q : jx_Po) (a0 : Int32), jx_Ev (d + 1) 130 27 lv [.int a0, .ref 36] M Q ↔ jx_I d 83 [.ref 36, .int a0] M (fun x M => jx_Ev (d + 1) 130 30 lv (.int x :: []) M Q)) ∧
  (∀ (d : Nat) (lv : List (Option Value)) (M : jx_M) (Q : jx_Po) (x : Int32), jx_Ev d 130 30 lv [.int x] M Q ↔ Q [.int x] M) ∧
  (∀ (d : Nat) (st : List Value) (M : jx_M) (Q : jx_Po) (l0 l1 l3 : Option Value) (x : Int32), jx_Ev d 130 31 [l0, l1, some (.int x), l3] st M Q ↔ jx_Ev d 130 32 [l0, l1, some (.int x), l3] (.int x :: st) M Q) ∧
  (∀ (d : Nat) (lv : List (Option Value)) (st : List Value) (M : jx_M) (Q : jx_Po), jx_Ev d 130 32 lv st M Q ↔ jx_Ev d 130 33 lv (.int 0 :: st) M Q) ∧
  (∀ (d : Nat) (st : List Value) (M : jx_M) (Q : jx_Po) (l1 l2 l3 : Option Value) (x : Nat), jx_Ev d 130 33 [some (.ref x), l1, l2, l3] st M Q ↔ jx_Ev d 130 34 [some (.ref x), l1, l2, l3] (.ref x :: st) M Q) ∧
  (∀ (d : Nat) (lv : List (Option Value)) (st : List Value) (M : jx_M) (Q : jx_Po), jx_Ev d 130 34 lv (.ref 36 :: st) M Q ↔ jx_Ev d 130 37 lv (.ref 38 :: st) M Q) ∧
  (∀ (d : Nat) (st : List Value) (M : jx_M) (Q : jx_Po) (l0 l2 l3 : Option Value) (x : Int32), jx_Ev d 130 37 [l0, some (.int x), l2, l3] st M Q ↔ jx_Ev d 130 38 [l0, some (.int x), l2, l3] (.int x :: st) M Q) ∧
  (∀ (d : Nat) (lv : List (Option Value)) (st : List Value) (M : jx_M) (Q : jx_Po) (x : Int32) (a : Nat) (ha : jx_cl a = 9), jx_Ev d 130 38 lv (.int x :: .ref a :: st) M Q ↔ (vp_in x (jx_sz a) ∧ jx_Ev d 130 39 lv (.int (M a x.toNatClampNeg) :: st) M Q)) ∧
  (∀ (d : Nat) (lv : List (Option Value)) (st : List Value) (M : jx_M) (Q : jx_Po), jx_Ev d 130 39 lv st M Q ↔ jx_Ev d 130 40 lv (.int 1 :: st) M Q) ∧
  (∀ (d : Nat) (lv : List (Option Value)) (st : List Value) (M : jx_M) (Q : jx_Po) (x z : Int32), jx_Ev d 130 40 lv (.int z :: .int x :: st) M Q ↔ jx_Ev d 130 41 lv (.int (x - z) :: st) M Q) ∧
  (∀ (d : Nat) (lv : List (Option Value)) (M : jx_M) (Q : jx_Po) (a0 : Int32) (a1 : Int32) (a2 : Int32), jx_Ev (d + 1) 130 41 lv [.int a0, .int a1, .int a2] M Q ↔ jx_I d 85 [.int a2, .int a1, .int a0] M (fun x M => jx_Ev (d + 1) 130 44 lv (.int x :: []) M Q)) ∧
  (∀ (d : Nat) (lv : List (Option Value)) (st : List Value) (M : jx_M) (Q : jx_Po) (x : Int32), jx_Ev d 130 44 lv (.int x :: st) M Q ↔ (if x = 0 then jx_Ev d 130 47 lv st M Q else jx_Ev d 130 53 lv st M Q)) ∧
  (∀ (d : Nat) (st : List Value) (M : jx_M) (Q : jx_Po) (l1 l2 l3 : Option Value) (x : Nat), jx_Ev d 130 47 [some (.ref x), l1, l2, l3] st M Q ↔ jx_Ev d 130 48 [some (.ref x), l1, l2, l3] (.ref x :: st) M Q) ∧
  (∀ (d : Nat) (lv : List (Option Value)) (st : List Value) (M : jx_M) (Q : jx_Po), jx_Ev d 130 48 lv st M Q ↔ jx_Ev d 130 49 lv (.int 3 :: st) M Q) ∧
  (∀ (d : Nat) (lv : List (Option Value)) (M : jx_M) (Q : jx_Po) (a0 : Int32), jx_Ev (d + 1) 130 49 lv [.int a0, .ref 36] M Q ↔ jx_I d 83 [.ref 36, .int a0] M (fun x M => jx_Ev (d + 1) 130 52 lv (.int x :: []) M Q)) ∧
  (∀ (d : Nat) (lv : List (Option Value)) (M : jx_M) (Q : jx_Po) (x : Int32), jx_Ev d 130 52 lv [.int x] M Q ↔ Q [.int x] M) ∧
  (∀ (d : Nat) (st : List Value) (M : jx_M) (Q : jx_Po) (l1 l2 l3 : Option Value) (x : Nat), jx_Ev d 130 53 [some (.ref x), l1, l2, l3] st M Q ↔ jx_Ev d 130 54 [some (.ref x), l1, l2, l3] (.ref x :: st) M Q) ∧
  (∀ (d : Nat) (lv : List (Option Value)) (st : List Value) (M : jx_M) (Q : jx_Po), jx_Ev d 130 54 lv (.ref 36 :: st) M Q ↔ jx_Ev d 130 57 lv (.ref 39 :: st) M Q) ∧
  (∀ (d : Nat) (lv : List (Option Value)) (st : List Value) (M : jx_M) (Q : jx_Po), jx_Ev d 130 57 lv st M Q ↔ jx_Ev d 130 59 lv (.int 60 :: st) M Q) ∧
  (∀ (d : Nat) (st : List Value) (M : jx_M) (Q : jx_Po) (l0 l2 l3 : Option Value) (x : Int32), jx_Ev d 130 59 [l0, some (.int x), l2, l3] st M Q ↔ jx_Ev d 130 60 [l0, some (.int x), l2, l3] (.int x :: st) M Q) ∧
  (∀ (d : Nat) (lv : List (Option Value)) (st : List Value) (M : jx_M) (Q : jx_Po) (x z : Int32), jx_Ev d 130 60 lv (.int z :: .int x :: st) M Q ↔ jx_Ev d 130 61 lv (.int (x * z) :: st) M Q) ∧
  (∀ (d : Nat) (st : List Value) (M : jx_M) (Q : jx_Po) (l0 l1 l3 : Option Value) (x : Int32), jx_Ev d 130 61 [l0, l1, some (.int x), l3] st M Q ↔ jx_Ev d 130 62 [l0, l1, some (.int x), l3] (.int x :: st) M Q) ∧
  (∀ (d : Nat) (lv : List (Option Value)) (st : List Value) (M : jx_M) (Q : jx_Po) (x z : Int32), jx_Ev d 130 62 lv (.int z :: .int x :: st) M Q ↔ jx_Ev d 130 63 lv (.int (x + z) :: st) M Q) ∧
  (∀ (d : Nat) (st : List Value) (M : jx_M) (Q : jx_Po) (l1 l2 l3 : Option Value) (x : Nat), jx_Ev d 130 63 [some (.ref x), l1, l2, l3] st M Q ↔ jx_Ev d 130 64 [some (.ref x), l1, l2, l3] (.ref x :: st) M Q) ∧
  (∀ (d : Nat) (lv : List (Option Value)) (st : List Value) (M : jx_M) (Q : jx_Po), jx_Ev d 130 64 lv (.ref 36 :: st) M Q ↔ jx_Ev d 130 67 lv (.ref 37 :: st) M Q) ∧
  (∀ (d : Nat) (st : List Value) (M : jx_M) (Q : jx_Po) (l0 l2 l3 : Option Value) (x : Int32), jx_Ev d 130 67 [l0, some (.int x), l2, l3] st M Q ↔ jx_Ev d 130 68 [l0, some (.int x), l2, l3] (.int x :: st) M Q) ∧
  (∀ (d : Nat) (lv : List (Option Value)) (st : List Value) (M : jx_M) (Q : jx_Po) (x : Int32) (a : Nat) (ha : jx_cl a = 9), jx_Ev d 130 68 lv (.int x :: .ref a :: st) M Q ↔ (vp_in x (jx_sz a) ∧ jx_Ev d 130 69 lv (.int (M a x.toNatClampNeg) :: st) M Q)) ∧
  (∀ (d : Nat) (lv : List (Option Value)) (st : List Value) (M : jx_M) (Q : jx_Po) (x : Int32), jx_Ev d 130 69 lv (.int x :: st) M Q ↔ (if x = 0 then jx_Ev d 130 72 lv st M Q else jx_Ev d 130 77 lv st M Q)) ∧
  (∀ (d : Nat) (st : List Value) (M : jx_M) (Q : jx_Po) (l0 l1 l2 : Option Value) (x : Int32), jx_Ev d 130 72 [l0, l1, l2, some (.int x)] st M Q ↔ jx_Ev d 130 73 [l0, l1, l2, some (.int x)] (.int x :: st) M Q) ∧
  (∀ (d : Nat) (lv : List (Option Value)) (st : List Value) (M : jx_M) (Q : jx_Po) (x : Int32), jx_Ev d 130 73 lv (.int x :: st) M Q ↔ jx_Ev d 130 74 lv (.int x.toInt8.toInt32 :: st) M Q) ∧
  (∀ (d : Nat) (lv : List (Option Value)) (st : List Value) (M : jx_M) (Q : jx_Po), jx_Ev d 130 74 lv st M Q ↔ jx_Ev d 130 93 lv st M Q) ∧
  (∀ (d : Nat) (st : List Value) (M : jx_M) (Q : jx_Po) (l1 l2 l3 : Option Value) (x : Nat), jx_Ev d 130 77 [some (.ref x), l1, l2, l3] st M Q ↔ jx_Ev d 130 78 [some (.ref x), l1, l2, l3] (.ref x :: st) M Q) ∧
  (∀ (d : Nat) (lv : List (Option Value)) (st : List Value) (M : jx_M) (Q : jx_Po), jx_Ev d 130 78 lv (.ref 36 :: st) M Q ↔ jx_Ev d 130 81 lv (.ref 37 :: st) M Q) ∧
  (∀ (d : Nat) (st : List Value) (M : jx_M) (Q : jx_Po) (l0 l2 l3 : Option Value) (x : Int32), jx_Ev d 130 81 [l0, some (.int x), l2, l3] st M Q ↔ jx_Ev d 130 82 [l0, some (.int x), l2, l3] (.int x :: st) M Q) ∧
  (∀ (d : Nat) (lv : List (Option Value)) (st : List Value) (M : jx_M) (Q : jx_Po) (x : Int32) (a : Nat) (ha : jx_cl a = 9), jx_Ev d 130 82 lv (.int x :: .ref a :: st) M Q ↔ (vp_in x (jx_sz a) ∧ jx_Ev d 130 83 lv (.int (M a x.toNatClampNeg) :: st) M Q)) ∧
  (∀ (d : Nat) (lv : List (Option Value)) (st : List Value) (M : jx_M) (Q : jx_Po), jx_Ev d 130 83 lv st M Q ↔ jx_Ev d 130 84 lv (.int 1 :: st) M Q) ∧
  (∀ (d : Nat) (lv : List (Option Value)) (st : List Value) (M : jx_M) (Q : jx_Po) (x z : Int32), jx_Ev d 130 84 lv (.int z :: .int x :: st) M Q ↔ (if x = z then jx_Ev d 130 87 lv st M Q else jx_Ev d 130 92 lv st M Q)) ∧
  (∀ (d : Nat) (st : List Value) (M : jx_M) (Q : jx_Po) (l0 l1 l2 : Option Value) (x : Int32), jx_Ev d 130 87 [l0, l1, l2, some (.int x)] st M Q ↔ jx_Ev d 130 88 [l0, l1, l2, some (.int x)] (.int x :: st) M Q) ∧
  (∀ (d : Nat) (lv : List (Option Value)) (st : List Value) (M : jx_M) (Q : jx_Po) (x : Int32), jx_Ev d 130 88 lv (.int x :: st) M Q ↔ jx_Ev d 130 89 lv (.int x.toInt16.toInt32 :: st) M Q) ∧
  (∀ (d : Nat) (lv : List (Option Value)) (st : List Value) (M : jx_M) (Q : jx_Po), jx_Ev d 130 89 lv st M Q ↔ jx_Ev d 130 93 lv st M Q) ∧
  (∀ (d : Nat) (st : List Value) (M : jx_M) (Q : jx_Po) (l0 l1 l2 : Option Value) (x : Int32), jx_Ev d 130 92 [l0, l1, l2, some (.int x)] st M Q ↔ jx_Ev d 130 93 [l0, l1, l2, some (.int x)] (.int x :: st) M Q) ∧
  (∀ (d : Nat) (lv : List (Option Value)) (st : List Value) (M : jx_M) (Q : jx_Po) (x z : Int32) (a : Nat) (ha : jx_cl a = 9), jx_Ev d 130 93 lv (.int z :: .int x :: .ref a :: st) M Q ↔ (vp_in x (jx_sz a) ∧ jx_Ev d 130 94 lv st (jx_up M a x.toNatClampNeg z) Q)) ∧
  (∀ (d : Nat) (lv : List (Option Value)) (st : List Value) (M : jx_M) (Q : jx_Po), jx_Ev d 130 94 lv st M Q ↔ jx_Ev d 130 95 lv (.int 1 :: st) M Q) ∧
  (∀ (d : Nat) (lv : List (Option Value)) (M : jx_M) (Q : jx_Po) (x : Int32), jx_Ev d 130 95 lv [.int x] M Q ↔ Q [.int x] M) := by
  refine ⟨?_, ?_, ?_, ?_, ?_, ?_, ?_, ?_, ?_, ?_, ?_, ?_, ?_, ?_, ?_, ?_, ?_, ?_, ?_, ?_, ?_, ?_, ?_, ?_, ?_, ?_, ?_, ?_, ?_, ?_, ?_, ?_, ?_, ?_, ?_, ?_, ?_, ?_, ?_, ?_, ?_, ?_, ?_, ?_, ?_, ?_, ?_, ?_, ?_, ?_, ?_, ?_, ?_, ?_, ?_, ?_, ?_, ?_, ?_, ?_⟩
  · exact fun d st M Q l1 l2 l3 x => jx_ev_st (jx_fok (by decide +kernel : decode (jx_mb 130) 0 = .ok (.aload_n 0, 1))) rfl rfl rfl
  · exact fun d lv st M Q => jx_ev_st (jx_fok (by decide +kernel : decode (jx_mb 130) 1 = .ok (.iconst 0, 1))) rfl rfl rfl
  · exact fun d lv st M Q x => jx_k_pf0 (jx_fok (by decide +kernel : decode (jx_mb 130) 2 = .ok (.putfield 67, 3))) rfl rfl rfl
  · exact fun d st M Q l0 l2 l3 x => jx_ev_st (jx_fok (by decide +kernel : decode (jx_mb 130) 5 = .ok (.iload_n 1, 1))) rfl rfl rfl
  · exact fun d lv M Q a0 => jx_ev_ci (jx_fok (by decide +kernel : decode (jx_mb 130) 6 = .ok (.invokestatic 86, 3))) rfl (jx_ccS (As := [.int a0]) (rest := []) rfl rfl rfl rfl rfl) (by decide)
  · exact fun d lv st M Q x => jx_k_b1n (jx_fok (by decide +kernel : decode (jx_mb 130) 9 = .ok (.ifCond .ne 5, 3))) rfl jx_hNe
  · exact fun d lv st M Q => jx_ev_st (jx_fok (by decide +kernel : decode (jx_mb 130) 12 = .ok (.iconst (-1), 1))) rfl rfl rfl
  · exact fun d lv M Q x => jx_k_ri (jx_fok (by decide +kernel : decode (jx_mb 130) 13 = .ok (.ireturn, 1))) rfl
  · exact fun d st M Q l1 l2 l3 x => jx_ev_st (jx_fok (by decide +kernel : decode (jx_mb 130) 14 = .ok (.aload_n 0, 1))) rfl rfl rfl
  · exact fun d lv st M Q => jx_k_gf (jx_fok (by decide +kernel : decode (jx_mb 130) 15 = .ok (.getfield 9, 3))) rfl rfl rfl
  · exact fun d st M Q l0 l2 l3 x => jx_ev_st (jx_fok (by decide +kernel : decode (jx_mb 130) 18 = .ok (.iload_n 1, 1))) rfl rfl rfl
  · exact fun d lv st M Q x a ha => jx_k_al (jx_fok (by decide +kernel : decode (jx_mb 130) 19 = .ok (.iaload, 1))) ha
  · exact fun d lv st M Q => jx_ev_st (jx_fok (by decide +kernel : decode (jx_mb 130) 20 = .ok (.bipush (-9), 2))) rfl rfl rfl
  · exact fun d lv st M Q x z => jx_k_b2n (jx_fok (by decide +kernel : decode (jx_mb 130) 22 = .ok (.if_icmp .ne 9, 3))) rfl jx_hNe
  · exact fun d st M Q l1 l2 l3 x => jx_ev_st (jx_fok (by decide +kernel : decode (jx_mb 130) 25 = .ok (.aload_n 0, 1))) rfl rfl rfl
  · exact fun d lv st M Q => jx_ev_st (jx_fok (by decide +kernel : decode (jx_mb 130) 26 = .ok (.iconst 1, 1))) rfl rfl rfl
  · exact fun d lv M Q a0 => jx_ev_ci (jx_fok (by decide +kernel : decode (jx_mb 130) 27 = .ok (.invokevirtual 97, 3))) rfl (jx_ccV (As := [.int a0]) (rest := []) rfl rfl rfl rfl rfl rfl) (by decide)
  · exact fun d lv M Q x => jx_k_ri (jx_fok (by decide +kernel : decode (jx_mb 130) 30 = .ok (.ireturn, 1))) rfl
  · exact fun d st M Q l0 l1 l3 x => jx_ev_st (jx_fok (by decide +kernel : decode (jx_mb 130) 31 = .ok (.iload_n 2, 1))) rfl rfl rfl
  · exact fun d lv st M Q => jx_ev_st (jx_fok (by decide +kernel : decode (jx_mb 130) 32 = .ok (.iconst 0, 1))) rfl rfl rfl
  · exact fun d st M Q l1 l2 l3 x => jx_ev_st (jx_fok (by decide +kernel : decode (jx_mb 130) 33 = .ok (.aload_n 0, 1))) rfl rfl rfl
  · exact fun d lv st M Q => jx_k_gf (jx_fok (by decide +kernel : decode (jx_mb 130) 34 = .ok (.getfield 13, 3))) rfl rfl rfl
  · exact fun d st M Q l0 l2 l3 x => jx_ev_st (jx_fok (by decide +kernel : decode (jx_mb 130) 37 = .ok (.iload_n 1, 1))) rfl rfl rfl
  · exact fun d lv st M Q x a ha => jx_k_al (jx_fok (by decide +kernel : decode (jx_mb 130) 38 = .ok (.iaload, 1))) ha
  · exact fun d lv st M Q => jx_ev_st (jx_fok (by decide +kernel : decode (jx_mb 130) 39 = .ok (.iconst 1, 1))) rfl rfl rfl
  · exact fun d lv st M Q x z => jx_ev_st (jx_fok (by decide +kernel : decode (jx_mb 130) 40 = .ok (.isub, 1))) rfl rfl rfl
  · exact fun d lv M Q a0 a1 a2 => jx_ev_ci (jx_fok (by decide +kernel : decode (jx_mb 130) 41 = .ok (.invokestatic 73, 3))) rfl (jx_ccS (As := [.int a2, .int a1, .int a0]) (rest := []) rfl rfl rfl rfl rfl) (by decide)
  · exact fun d lv st M Q x => jx_k_b1n (jx_fok (by decide +kernel : decode (jx_mb 130) 44 = .ok (.ifCond .ne 9, 3))) rfl jx_hNe
  · exact fun d st M Q l1 l2 l3 x => jx_ev_st (jx_fok (by decide +kernel : decode (jx_mb 130) 47 = .ok (.aload_n 0, 1))) rfl rfl rfl
  · exact fun d lv st M Q => jx_ev_st (jx_fok (by decide +kernel : decode (jx_mb 130) 48 = .ok (.iconst 3, 1))) rfl rfl rfl
  · exact fun d lv M Q a0 => jx_ev_ci (jx_fok (by decide +kernel : decode (jx_mb 130) 49 = .ok (.invokevirtual 97, 3))) rfl (jx_ccV (As := [.int a0]) (rest := []) rfl rfl rfl rfl rfl rfl) (by decide)
  · exact fun d lv M Q x => jx_k_ri (jx_fok (by decide +kernel : decode (jx_mb 130) 52 = .ok (.ireturn, 1))) rfl
  · exact fun d st M Q l1 l2 l3 x => jx_ev_st (jx_fok (by decide +kernel : decode (jx_mb 130) 53 = .ok (.aload_n 0, 1))) rfl rfl rfl
  · exact fun d lv st M Q => jx_k_gf (jx_fok (by decide +kernel : decode (jx_mb 130) 54 = .ok (.getfield 16, 3))) rfl rfl rfl
  · exact fun d lv st M Q => jx_ev_st (jx_fok (by decide +kernel : decode (jx_mb 130) 57 = .ok (.bipush 60, 2))) rfl rfl rfl
  · exact fun d st M Q l0 l2 l3 x => jx_ev_st (jx_fok (by decide +kernel : decode (jx_mb 130) 59 = .ok (.iload_n 1, 1))) rfl rfl rfl
  · exact fun d lv st M Q x z => jx_ev_st (jx_fok (by decide +kernel : decode (jx_mb 130) 60 = .ok (.imul, 1))) rfl rfl rfl
  · exact fun d st M Q l0 l1 l3 x => jx_ev_st (jx_fok (by decide +kernel : decode (jx_mb 130) 61 = .ok (.iload_n 2, 1))) rfl rfl rfl
  · exact fun d lv st M Q x z => jx_ev_st (jx_fok (by decide +kernel : decode (jx_mb 130) 62 = .ok (.iadd, 1))) rfl rfl rfl
  · exact fun d st M Q l1 l2 l3 x => jx_ev_st (jx_fok (by decide +kernel : decode (jx_mb 130) 63 = .ok (.aload_n 0, 1))) rfl rfl rfl
  · exact fun d lv st M Q => jx_k_gf (jx_fok (by decide +kernel : decode (jx_mb 130) 64 = .ok (.getfield 9, 3))) rfl rfl rfl
  · exact fun d st M Q l0 l2 l3 x => jx_ev_st (jx_fok (by decide +kernel : decode (jx_mb 130) 67 = .ok (.iload_n 1, 1))) rfl rfl rfl
  · exact fun d lv st M Q x a ha => jx_k_al (jx_fok (by decide +kernel : decode (jx_mb 130) 68 = .ok (.iaload, 1))) ha
  · exact fun d lv st M Q x => jx_k_b1n (jx_fok (by decide +kernel : decode (jx_mb 130) 69 = .ok (.ifCond .ne 8, 3))) rfl jx_hNe
  · exact fun d st M Q l0 l1 l2 x => jx_ev_st (jx_fok (by decide +kernel : decode (jx_mb 130) 72 = .ok (.iload_n 3, 1))) rfl rfl rfl
  · exact fun d lv st M Q x => jx_ev_st (jx_fok (by decide +kernel : decode (jx_mb 130) 73 = .ok (.i2b, 1))) rfl rfl rfl
  · exact fun d lv st M Q => jx_k_goto (jx_fok (by decide +kernel : decode (jx_mb 130) 74 = .ok (.goto 19, 3))) rfl
  · exact fun d st M Q l1 l2 l3 x => jx_ev_st (jx_fok (by decide +kernel : decode (jx_mb 130) 77 = .ok (.aload_n 0, 1))) rfl rfl rfl
  · exact fun d lv st M Q => jx_k_gf (jx_fok (by decide +kernel : decode (jx_mb 130) 78 = .ok (.getfield 9, 3))) rfl rfl rfl
  · exact fun d st M Q l0 l2 l3 x => jx_ev_st (jx_fok (by decide +kernel : decode (jx_mb 130) 81 = .ok (.iload_n 1, 1))) rfl rfl rfl
  · exact fun d lv st M Q x a ha => jx_k_al (jx_fok (by decide +kernel : decode (jx_mb 130) 82 = .ok (.iaload, 1))) ha
  · exact fun d lv st M Q => jx_ev_st (jx_fok (by decide +kernel : decode (jx_mb 130) 83 = .ok (.iconst 1, 1))) rfl rfl rfl
  · exact fun d lv st M Q x z => jx_k_b2n (jx_fok (by decide +kernel : decode (jx_mb 130) 84 = .ok (.if_icmp .ne 8, 3))) rfl jx_hNe
  · exact fun d st M Q l0 l1 l2 x => jx_ev_st (jx_fok (by decide +kernel : decode (jx_mb 130) 87 = .ok (.iload_n 3, 1))) rfl rfl rfl
  · exact fun d lv st M Q x => jx_ev_st (jx_fok (by decide +kernel : decode (jx_mb 130) 88 = .ok (.i2s, 1))) rfl rfl rfl
  · exact fun d lv st M Q => jx_k_goto (jx_fok (by decide +kernel : decode (jx_mb 130) 89 = .ok (.goto 4, 3))) rfl
  · exact fun d st M Q l0 l1 l2 x => jx_ev_st (jx_fok (by decide +kernel : decode (jx_mb 130) 92 = .ok (.iload_n 3, 1))) rfl rfl rfl
  · exact fun d lv st M Q x z a ha => jx_k_as (jx_fok (by decide +kernel : decode (jx_mb 130) 93 = .ok (.iastore, 1))) ha
  · exact fun d lv st M Q => jx_ev_st (jx_fok (by decide +kernel : decode (jx_mb 130) 94 = .ok (.iconst 1, 1))) rfl rfl rfl
  · exact fun d lv M Q x => jx_k_ri (jx_fok (by decide +kernel : decode (jx_mb 130) 95 = .ok (.ireturn, 1))) rfl
theorem kX8_put (d : Nat) (M : jx_M) (q : Int32 → jx_M → Prop) (a0 a1 a2 a3 : Value) : jx_I d 130 [a0, a1, a2, a3] M q ↔ jx_Ev d 130 0 [some a0, some a1, some a2, some a3] [] M (jx_qI q) := Iff.rfl
set_option maxRecDepth 100000 in
theorem eX8_cell :
  (∀ (d : Nat) (st : List Value) (M : jx_M) (Q : jx_Po) (l1 l2 l3 : Option Value) (x : Nat), jx_Ev d 131 0 [some (.ref x), l1, l2, l3] st M Q ↔ jx_Ev d 131 1 [some (.ref x), l1, l2, l3] (.ref x :: st) M Q) ∧
  (∀ (d : Nat) (lv : List (Option Value)) (st : List Value) (M : jx_M) (Q : jx_Po), jx_Ev d 131 1 lv st M Q ↔ jx_Ev d 131 2 lv (.int 0 :: st) M Q) ∧
  (∀ (d : Nat) (lv : List (Option Value)) (st : List Value) (M : jx_M) (Q : jx_Po) (x : Int32), jx_Ev d 131 2 lv (.int x :: .ref 36 :: st) M Q ↔ jx_Ev d 131 5 lv st (jx_up M 36 0 x) Q) ∧
  (∀ (d : Nat) (st : List Value) (M : jx_M) (Q : jx_Po) (l0 l2 l3 : Option Value) (x : Int32), jx_Ev d 131 5 [l0, some (.int x), l2, l3] st M Q ↔ jx_Ev d 131 6 [l0, some (.int x), l2, l3] (.int x :: st) M Q) ∧
  (∀ (d : Nat) (lv : List (Option Value)) (M : jx_M) (Q : jx_Po) (a0 : Int32), jx_Ev (d + 1) 131 6 lv [.int a0] M Q ↔ jx_I d 86 [.int a0] M (fun x M => jx_Ev (d + 1) 131 9 lv (.int x :: []) M Q)) ∧
  (∀ (d : Nat) (lv : List (Option Value)) (st : List Value) (M : jx_M) (Q : jx_Po) (x : Int32), jx_Ev d 131 9 lv (.int x :: st) M Q ↔ (if x = 0 then jx_Ev d 131 19 lv st M Q else jx_Ev d 131 12 lv st M Q)) ∧
  (∀ (d : Nat) (st : List Value) (M : jx_M) (Q : jx_Po) (l0 l1 l2 : Option Value) (x : Int32), jx_Ev d 131 12 [l0, l1, l2, some (.int x)] st M Q ↔ jx_Ev d 131 13 [l0, l1, l2, some (.int x)] (.int x :: st) M Q) ∧
  (∀ (d : Nat) (lv : List (Option Value)) (M : jx_M) (Q : jx_Po) (a0 : Int32), jx_Ev (d + 1) 131 13 lv [.int a0] M Q ↔ jx_I d 87 [.int a0] M (fun x M => jx_Ev (d + 1) 131 16 lv (.int x :: []) M Q)) ∧
  (∀ (d : Nat) (lv : List (Option Value)) (st : List Value) (M : jx_M) (Q : jx_Po) (x : Int32), jx_Ev d 131 16 lv (.int x :: st) M Q ↔ (if x = 0 then jx_Ev d 131 19 lv st M Q else jx_Ev d 131 23 lv st M Q)) ∧
  (∀ (d : Nat) (lv : List (Option Value)) (st : List Value) (M : jx_M) (Q : jx_Po), jx_Ev d 131 19 lv st M Q ↔ jx_Ev d 131 22 lv (.long (-9223372036854775808) :: st) M Q) ∧
  (∀ (d : Nat) (lv : List (Option Value)) (M : jx_M) (Q : jx_Po) (x : Int64), jx_Ev d 131 22 lv [.long x] M Q ↔ Q [.long x] M) ∧
  (∀ (d : Nat) (st : List Value) (M : jx_M) (Q : jx_Po) (l1 l2 l3 : Option Value) (x : Nat), jx_Ev d 131 23 [some (.ref x), l1, l2, l3] st M Q ↔ jx_Ev d 131 24 [some (.ref x), l1, l2, l3] (.ref x :: st) M Q) ∧
  (∀ (d : Nat) (lv : List (Option Value)) (st : List Value) (M : jx_M) (Q : jx_Po), jx_Ev d 131 24 lv (.ref 36 :: st) M Q ↔ jx_Ev d 131 27 lv (.ref 37 :: st) M Q) ∧
  (∀ (d : Nat) (st : List Value) (M : jx_M) (Q : jx_Po) (l0 l2 l3 : Option Value) (x : Int32), jx_Ev d 131 27 [l0, some (.int x), l2, l3] st M Q ↔ jx_Ev d 131 28 [l0, some (.int x), l2, l3] (.int x :: st) M Q) ∧
  (∀ (d : Nat) (lv : List (Option Value)) (st : List Value) (M : jx_M) (Q : jx_Po) (x : Int32) (a : Nat) (ha : jx_cl a = 9), jx_Ev d 131 28 lv (.int x :: .ref a :: st) M Q ↔ (vp_in x (jx_sz a) ∧ jx_Ev d 131 29 lv (.int (M a x.toNatClampNeg) :: st) M Q)) ∧
  (∀ (d : Nat) (lv : List (Option Value)) (st : List Value) (M : jx_M) (Q : jx_Po), jx_Ev d 131 29 lv st M Q ↔ jx_Ev d 131 31 lv (.int (-9) :: st) M Q) ∧
  (∀ (d : Nat) (lv : List (Option Value)) (st : List Value) (M : jx_M) (Q : jx_Po) (x z : Int32), jx_Ev d 131 31 lv (.int z :: .int x :: st) M Q ↔ (if x = z then jx_Ev d 131 50 lv st M Q else jx_Ev d 131 34 lv st M Q)) ∧
  (∀ (d : Nat) (st : List Value) (M : jx_M) (Q : jx_Po) (l1 l2 l3 : Option Value) (x : Nat), jx_Ev d 131 34 [some (.ref x), l1, l2, l3] st M Q ↔ jx_Ev d 131 35 [some (.ref x), l1, l2, l3] (.ref x :: st) M Q) ∧
  (∀ (d : Nat) (lv : List (Option Value)) (st : List Value) (M : jx_M) (Q : jx_Po), jx_Ev d 131 35 lv (.ref 36 :: st) M Q ↔ jx_Ev d 131 38 lv (.ref 37 :: st) M Q) ∧
  (∀ (d : Nat) (st : List Value) (M : jx_M) (Q : jx_Po) (l0 l2 l3 : Option Value) (x : Int32), jx_Ev d 131 38 [l0, some (.int x), l2, l3] st M Q ↔ jx_Ev d 131 39 [l0, some (.int x), l2, l3] (.int x :: st) M Q) ∧
  (∀ (d : Nat) (lv : List (Option Value)) (st : List Value) (M : jx_M) (Q : jx_Po) (x : Int32) (a : Nat) (ha : jx_cl a = 9), jx_Ev d 131 39 lv (.int x :: .ref a :: st) M Q ↔ (vp_in x (jx_sz a) ∧ jx_Ev d 131 40 lv (.int (M a x.toNatClampNeg) :: st) M Q)) ∧
  (∀ (d : Nat) (st : List Value) (M : jx_M) (Q : jx_Po) (l0 l1 l2 : Option Value) (x : Int32), jx_Ev d 131 40 [l0, l1, l2, some (.int x)] st M Q ↔ jx_Ev d 131 41 [l0, l1, l2, some (.int x)] (.int x :: st) M Q) ∧
  (∀ (d : Nat) (lv : List (Option Value)) (st : List Value) (M : jx_M) (Q : jx_Po) (x z : Int32), jx_Ev d 131 41 lv (.int z :: .int x :: st) M Q ↔ (if x = z then jx_Ev d 131 50 lv st M Q else jx_Ev d 131 44 lv st M Q)) ∧
  (∀ (d : Nat) (st : List Value) (M : jx_M) (Q : jx_Po) (l1 l2 l3 : Option Value) (x : Nat), jx_Ev d 131 44 [some (.ref x), l1, l2, l3] st M Q ↔ jx_Ev d 131 45 [some (.ref x), l1, l2, l3] (.ref x :: st) M Q) ∧
  (∀ (d : Nat) (lv : List (Option Value)) (st : List Value) (M : jx_M) (Q : jx_Po), jx_Ev d 131 45 lv st M Q ↔ jx_Ev d 131 46 lv (.int 2 :: st) M Q) ∧
  (∀ (d : Nat) (lv : List (Option Value)) (M : jx_M) (Q : jx_Po) (a0 : Int32), jx_Ev (d + 1) 131 46 lv [.int a0, .ref 36] M Q ↔ jx_L d 84 [.ref 36, .int a0] M (fun x M => jx_Ev (d + 1) 131 49 lv (.long x :: []) M Q)) ∧
  (∀ (d : Nat) (lv : List (Option Value)) (M : jx_M) (Q : jx_Po) (x : Int64), jx_Ev d 131 49 lv [.long x] M Q ↔ Q [.long x] M) ∧
  (∀ (d : Nat) (st : List Value) (M : jx_M) (Q : jx_Po) (l1 l2 l3 : Option Value) (x : Nat), jx_Ev d 131 50 [some (.ref x), l1, l2, l3] st M Q ↔ jx_Ev d 131 51 [some (.ref x), l1, l2, l3] (.ref x :: st) M Q) ∧
  (∀ (d : Nat) (lv : List (Option Value)) (st : List Value) (M : jx_M) (Q : jx_Po), jx_Ev d 131 51 lv (.ref 36 :: st) M Q ↔ jx_Ev d 131 54 lv (.ref 37 :: st) M Q) ∧
  (∀ (d : Nat) (st : List Value) (M : jx_M) (Q : jx_Po) (l0 l2 l3 : Option Value) (x : Int32), jx_Ev d 131 54 [l0, some (.int x), l2, l3] st M Q ↔ jx_Ev d 131 55 [l0, some (.int x), l2, l3] (.int x :: st) M Q) ∧
  (∀ (d : Nat) (lv : List (Option Value)) (st : List Value) (M : jx_M) (Q : jx_Po) (x : Int32) (a : Nat) (ha : jx_cl a = 9), jx_Ev d 131 55 lv (.int x :: .ref a :: st) M Q ↔ (vp_in x (jx_sz a) ∧ jx_Ev d 131 56 lv (.int (M a x.toNatClampNeg) :: st) M Q)) ∧
  (∀ (d : Nat) (lv : List (Option Value)) (st : List Value) (M : jx_M) (Q : jx_Po), jx_Ev d 131 56 lv st M Q ↔ jx_Ev d 131 58 lv (.int (-9) :: st) M Q) ∧
  (∀ (d : Nat) (lv : List (Option Value)) (st : List Value) (M : jx_M) (Q : jx_Po) (x z : Int32), jx_Ev d 131 58 lv (.int z :: .int x :: st) M Q ↔ (if x = z then jx_Ev d 131 61 lv st M Q else jx_Ev d 131 67 lv st M Q)) ∧
  (∀ (d : Nat) (st : List Value) (M : jx_M) (Q : jx_Po) (l1 l2 l3 : Option Value) (x : Nat), jx_Ev d 131 61 [some (.ref x), l1, l2, l3] st M Q ↔ jx_Ev d 131 62 [some (.ref x), l1, l2, l3] (.ref x :: st) M Q) ∧
  (∀ (d : Nat) (lv : List (Option Value)) (st : List Value) (M : jx_M) (Q : jx_Po), jx_Ev d 131 62 lv st M Q ↔ jx_Ev d 131 63 lv (.int 1 :: st) M Q) ∧
  (∀ (d : Nat) (lv : List (Option Value)) (M : jx_M) (Q : jx_Po) (a0 : Int32), jx_Ev (d + 1) 131 63 lv [.int a0, .ref 36] M Q ↔ jx_L d 84 [.ref 36, .int a0] M (fun x M => jx_Ev (d + 1) 131 66 lv (.long x :: []) M Q)) ∧
  (∀ (d : Nat) (lv : List (Option Value)) (M : jx_M) (Q : jx_Po) (x : Int64), jx_Ev d 131 66 lv [.long x] M Q ↔ Q [.long x] M) ∧
  (∀ (d : Nat) (st : List Value) (M : jx_M) (Q : jx_Po) (l0 l1 l3 : Option Value) (x : Int32), jx_Ev d 131 67 [l0, l1, some (.int x), l3] st M Q ↔ jx_Ev d 131 68 [l0, l1, some (.int x), l3] (.int x :: st) M Q) ∧
  (∀ (d : Nat) (lv : List (Option Value)) (st : List Value) (M : jx_M) (Q : jx_Po), jx_Ev d 131 68 lv st M Q ↔ jx_Ev d 131 69 lv (.int 0 :: st) M Q) ∧
  (∀ (d : Nat) (st : List Value) (M : jx_M) (Q : jx_Po) (l1 l2 l3 : Option Value) (x : Nat), jx_Ev d 131 69 [some (.ref x), l1, l2, l3] st M Q ↔ jx_Ev d 131 70 [some (.ref x), l1, l2, l3] (.ref x :: st) M Q) ∧
  (∀ (d : Nat) (lv : List (Option Value)) (st : List Value) (M : jx_M) (Q : jx_Po), jx_Ev d 131 70 lv (.ref 36 :: st) M Q ↔ jx_Ev d 131 73 lv (.ref 38 :: st) M Q) ∧
  (∀ (d : Nat) (st : List Value) (M : jx_M) (Q : jx_Po) (l0 l2 l3 : Option Value) (x : Int32), jx_Ev d 131 73 [l0, some (.int x), l2, l3] st M Q ↔ jx_Ev d 131 74 [l0, some (.int x), l2, l3] (.int x :: st) M Q) ∧
  (∀ (d : Nat) (lv : List (Option Value)) (st : List Value) (M : jx_M) (Q : jx_Po) (x : Int32) (a : Nat) (ha : jx_cl a = 9), jx_Ev d 131 74 lv (.int x :: .ref a :: st) M Q ↔ (vp_in x (jx_sz a) ∧ jx_Ev d 131 75 lv (.int (M a x.toNatClampNeg) :: st) M Q)) ∧
  (∀ (d : Nat) (lv : List (Option Value)) (st : List Value) (M : jx_M) (Q : jx_Po), jx_Ev d 131 75 lv st M Q ↔ jx_Ev d 131 76 lv (.int 1 :: st) M Q) ∧
  (∀ (d : Nat) (lv : List (Option Value)) (st : List Value) (M : jx_M) (Q : jx_Po) (x z : Int32), jx_Ev d 131 76 lv (.int z :: .int x :: st) M Q ↔ jx_Ev d 131 77 lv (.int (x - z) :: st) M Q) ∧
  (∀ (d : Nat) (lv : List (Option Value)) (M : jx_M) (Q : jx_Po) (a0 : Int32) (a1 : Int32) (a2 : Int32), jx_Ev (d + 1) 131 77 lv [.int a0, .int a1, .int a2] M Q ↔ jx_I d 85 [.int a2, .int a1, .int a0] M (fun x M => jx_Ev (d + 1) 131 80 lv (.int x :: []) M Q)) ∧
  (∀ (d : Nat) (lv : List (Option Value)) (st : List Value) (M : jx_M) (Q : jx_Po) (x : Int32), jx_Ev d 131 80 lv (.int x :: st) M Q ↔ (if x = 0 then jx_Ev d 131 83 lv st M Q else jx_Ev d 131 89 lv st M Q)) ∧
  (∀ (d : Nat) (st : List Value) (M : jx_M) (Q : jx_Po) (l1 l2 l3 : Option Value) (x : Nat), jx_Ev d 131 83 [some (.ref x), l1, l2, l3] st M Q ↔ jx_Ev d 131 84 [some (.ref x), l1, l2, l3] (.ref x :: st) M Q) ∧
  (∀ (d : Nat) (lv : List (Option Value)) (st : List Value) (M : jx_M) (Q : jx_Po), jx_Ev d 131 84 lv st M Q ↔ jx_Ev d 131 85 lv (.int 3 :: st) M Q) ∧
  (∀ (d : Nat) (lv : List (Option Value)) (M : jx_M) (Q : jx_Po) (a0 : Int32), jx_Ev (d + 1) 131 85 lv [.int a0, .ref 36] M Q ↔ jx_L d 84 [.ref 36, .int a0] M (fun x M => jx_Ev (d + 1) 131 88 lv (.long x :: []) M Q)) ∧
  (∀ (d : Nat) (lv : List (Option Value)) (M : jx_M) (Q : jx_Po) (x : Int64), jx_Ev d 131 88 lv [.long x] M Q ↔ Q [.long x] M) ∧
  (∀ (d : Nat) (st : List Value) (M : jx_M) (Q : jx_Po) (l1 l2 l3 : Option Value) (x : Nat), jx_Ev d 131 89 [some (.ref x), l1, l2, l3] st M Q ↔ jx_Ev d 131 90 [some (.ref x), l1, l2, l3] (.ref x :: st) M Q) ∧
  (∀ (d : Nat) (lv : List (Option Value)) (st : List Value) (M : jx_M) (Q : jx_Po), jx_Ev d 131 90 lv (.ref 36 :: st) M Q ↔ jx_Ev d 131 93 lv (.ref 39 :: st) M Q) ∧
  (∀ (d : Nat) (lv : List (Option Value)) (st : List Value) (M : jx_M) (Q : jx_Po), jx_Ev d 131 93 lv st M Q ↔ jx_Ev d 131 95 lv (.int 60 :: st) M Q) ∧
  (∀ (d : Nat) (st : List Value) (M : jx_M) (Q : jx_Po) (l0 l2 l3 : Option Value) (x : Int32), jx_Ev d 131 95 [l0, some (.int x), l2, l3] st M Q ↔ jx_Ev d 131 96 [l0, some (.int x), l2, l3] (.int x :: st) M Q) ∧
  (∀ (d : Nat) (lv : List (Option Value)) (st : List Value) (M : jx_M) (Q : jx_Po) (x z : Int32), jx_Ev d 131 96 lv (.int z :: .int x :: st) M Q ↔ jx_Ev d 131 97 lv (.int (x * z) :: st) M Q) ∧
  (∀ (d : Nat) (st : List Value) (M : jx_M) (Q : jx_Po) (l0 l1 l3 : Option Value) (x : Int32), jx_Ev d 131 97 [l0, l1, some (.int x), l3] st M Q ↔ jx_Ev d 131 98 [l0, l1, some (.int x), l3] (.int x :: st) M Q) ∧
  (∀ (d : Nat) (lv : List (Option Value)) (st : List Value) (M : jx_M) (Q : jx_Po) (x z : Int32), jx_Ev d 131 98 lv (.int z :: .int x :: st) M Q ↔ jx_Ev d 131 99 lv (.int (x + z) :: st) M Q) ∧
  (∀ (d : Nat) (lv : List (Option Value)) (st : List Value) (M : jx_M) (Q : jx_Po) (x : Int32) (a : Nat) (ha : jx_cl a = 9), jx_Ev d 131 99 lv (.int x :: .ref a :: st) M Q ↔ (vp_in x (jx_sz a) ∧ jx_Ev d 131 100 lv (.int (M a x.toNatClampNeg) :: st) M Q)) ∧
  (∀ (d : Nat) (lv : List (Option Value)) (st : List Value) (M : jx_M) (Q : jx_Po) (x : Int32), jx_Ev d 131 100 lv (.int x :: st) M Q ↔ jx_Ev d 131 101 lv (.long x.toInt64 :: st) M Q) ∧
  (∀ (d : Nat) (lv : List (Option Value)) (M : jx_M) (Q : jx_Po) (x : Int64), jx_Ev d 131 101 lv [.long x] M Q ↔ Q [.long x] M) := by
  refine ⟨?_, ?_, ?_, ?_, ?_, ?_, ?_, ?_, ?_, ?_, ?_, ?_, ?_, ?_, ?_, ?_, ?_, ?_, ?_, ?_, ?_, ?_, ?_, ?_, ?_, ?_, ?_, ?_, ?_, ?_, ?_, ?_, ?_, ?_, ?_, ?_, ?_, ?_, ?_, ?_, ?_, ?_, ?_, ?_, ?_, ?_, ?_, ?_, ?_, ?_, ?_, ?_, ?_, ?_, ?_, ?_, ?_, ?_, ?_, ?_, ?_⟩
  · exact fun d st M Q l1 l2 l3 x => jx_ev_st (jx_fok (by decide +kernel : decode (jx_mb 131) 0 = .ok (.aload_n 0, 1))) rfl rfl rfl
  · exact fun d lv st M Q => jx_ev_st (jx_fok (by decide +kernel : decode (jx_mb 131) 1 = .ok (.iconst 0, 1))) rfl rfl rfl
  · exact fun d lv st M Q x => jx_k_pf0 (jx_fok (by decide +kernel : decode (jx_mb 131) 2 = .ok (.putfield 67, 3))) rfl rfl rfl
  · exact fun d st M Q l0 l2 l3 x => jx_ev_st (jx_fok (by decide +kernel : decode (jx_mb 131) 5 = .ok (.iload_n 1, 1))) rfl rfl rfl
  · exact fun d lv M Q a0 => jx_ev_ci (jx_fok (by decide +kernel : decode (jx_mb 131) 6 = .ok (.invokestatic 86, 3))) rfl (jx_ccS (As := [.int a0]) (rest := []) rfl rfl rfl rfl rfl) (by decide)
  · exact fun d lv st M Q x => jx_k_b1 (jx_fok (by decide +kernel : decode (jx_mb 131) 9 = .ok (.ifCond .eq 10, 3))) rfl jx_hEq
  · exact fun d st M Q l0 l1 l2 x => jx_ev_st (jx_fok (by decide +kernel : decode (jx_mb 131) 12 = .ok (.iload_n 3, 1))) rfl rfl rfl
  · exact fun d lv M Q a0 => jx_ev_ci (jx_fok (by decide +kernel : decode (jx_mb 131) 13 = .ok (.invokestatic 90, 3))) rfl (jx_ccS (As := [.int a0]) (rest := []) rfl rfl rfl rfl rfl) (by decide)
  · exact fun d lv st M Q x => jx_k_b1n (jx_fok (by decide +kernel : decode (jx_mb 131) 16 = .ok (.ifCond .ne 7, 3))) rfl jx_hNe
  · exact fun d lv st M Q => jx_ev_st (jx_fok (by decide +kernel : decode (jx_mb 131) 19 = .ok (.ldc2_w 71, 3))) rfl rfl rfl
  · exact fun d lv M Q x => jx_k_rl (jx_fok (by decide +kernel : decode (jx_mb 131) 22 = .ok (.lreturn, 1))) rfl
  · exact fun d st M Q l1 l2 l3 x => jx_ev_st (jx_fok (by decide +kernel : decode (jx_mb 131) 23 = .ok (.aload_n 0, 1))) rfl rfl rfl
  · exact fun d lv st M Q => jx_k_gf (jx_fok (by decide +kernel : decode (jx_mb 131) 24 = .ok (.getfield 9, 3))) rfl rfl rfl
  · exact fun d st M Q l0 l2 l3 x => jx_ev_st (jx_fok (by decide +kernel : decode (jx_mb 131) 27 = .ok (.iload_n 1, 1))) rfl rfl rfl
  · exact fun d lv st M Q x a ha => jx_k_al (jx_fok (by decide +kernel : decode (jx_mb 131) 28 = .ok (.iaload, 1))) ha
  · exact fun d lv st M Q => jx_ev_st (jx_fok (by decide +kernel : decode (jx_mb 131) 29 = .ok (.bipush (-9), 2))) rfl rfl rfl
  · exact fun d lv st M Q x z => jx_k_b2 (jx_fok (by decide +kernel : decode (jx_mb 131) 31 = .ok (.if_icmp .eq 19, 3))) rfl jx_hEq
  · exact fun d st M Q l1 l2 l3 x => jx_ev_st (jx_fok (by decide +kernel : decode (jx_mb 131) 34 = .ok (.aload_n 0, 1))) rfl rfl rfl
  · exact fun d lv st M Q => jx_k_gf (jx_fok (by decide +kernel : decode (jx_mb 131) 35 = .ok (.getfield 9, 3))) rfl rfl rfl
  · exact fun d st M Q l0 l2 l3 x => jx_ev_st (jx_fok (by decide +kernel : decode (jx_mb 131) 38 = .ok (.iload_n 1, 1))) rfl rfl rfl
  · exact fun d lv st M Q x a ha => jx_k_al (jx_fok (by decide +kernel : decode (jx_mb 131) 39 = .ok (.iaload, 1))) ha
  · exact fun d st M Q l0 l1 l2 x => jx_ev_st (jx_fok (by decide +kernel : decode (jx_mb 131) 40 = .ok (.iload_n 3, 1))) rfl rfl rfl
  · exact fun d lv st M Q x z => jx_k_b2 (jx_fok (by decide +kernel : decode (jx_mb 131) 41 = .ok (.if_icmp .eq 9, 3))) rfl jx_hEq
  · exact fun d st M Q l1 l2 l3 x => jx_ev_st (jx_fok (by decide +kernel : decode (jx_mb 131) 44 = .ok (.aload_n 0, 1))) rfl rfl rfl
  · exact fun d lv st M Q => jx_ev_st (jx_fok (by decide +kernel : decode (jx_mb 131) 45 = .ok (.iconst 2, 1))) rfl rfl rfl
  · exact fun d lv M Q a0 => jx_ev_cl (jx_fok (by decide +kernel : decode (jx_mb 131) 46 = .ok (.invokevirtual 187, 3))) rfl (jx_ccV (As := [.int a0]) (rest := []) rfl rfl rfl rfl rfl rfl) rfl
  · exact fun d lv M Q x => jx_k_rl (jx_fok (by decide +kernel : decode (jx_mb 131) 49 = .ok (.lreturn, 1))) rfl
  · exact fun d st M Q l1 l2 l3 x => jx_ev_st (jx_fok (by decide +kernel : decode (jx_mb 131) 50 = .ok (.aload_n 0, 1))) rfl rfl rfl
  · exact fun d lv st M Q => jx_k_gf (jx_fok (by decide +kernel : decode (jx_mb 131) 51 = .ok (.getfield 9, 3))) rfl rfl rfl
  · exact fun d st M Q l0 l2 l3 x => jx_ev_st (jx_fok (by decide +kernel : decode (jx_mb 131) 54 = .ok (.iload_n 1, 1))) rfl rfl rfl
  · exact fun d lv st M Q x a ha => jx_k_al (jx_fok (by decide +kernel : decode (jx_mb 131) 55 = .ok (.iaload, 1))) ha
  · exact fun d lv st M Q => jx_ev_st (jx_fok (by decide +kernel : decode (jx_mb 131) 56 = .ok (.bipush (-9), 2))) rfl rfl rfl
  · exact fun d lv st M Q x z => jx_k_b2n (jx_fok (by decide +kernel : decode (jx_mb 131) 58 = .ok (.if_icmp .ne 9, 3))) rfl jx_hNe
  · exact fun d st M Q l1 l2 l3 x => jx_ev_st (jx_fok (by decide +kernel : decode (jx_mb 131) 61 = .ok (.aload_n 0, 1))) rfl rfl rfl
  · exact fun d lv st M Q => jx_ev_st (jx_fok (by decide +kernel : decode (jx_mb 131) 62 = .ok (.iconst 1, 1))) rfl rfl rfl
  · exact fun d lv M Q a0 => jx_ev_cl (jx_fok (by decide +kernel : decode (jx_mb 131) 63 = .ok (.invokevirtual 187, 3))) rfl (jx_ccV (As := [.int a0]) (rest := []) rfl rfl rfl rfl rfl rfl) rfl
  · exact fun d lv M Q x => jx_k_rl (jx_fok (by decide +kernel : decode (jx_mb 131) 66 = .ok (.lreturn, 1))) rfl
  · exact fun d st M Q l0 l1 l3 x => jx_ev_st (jx_fok (by decide +kernel : decode (jx_mb 131) 67 = .ok (.iload_n 2, 1))) rfl rfl rfl
  · exact fun d lv st M Q => jx_ev_st (jx_fok (by decide +kernel : decode (jx_mb 131) 68 = .ok (.iconst 0, 1))) rfl rfl rfl
  · exact fun d st M Q l1 l2 l3 x => jx_ev_st (jx_fok (by decide +kernel : decode (jx_mb 131) 69 = .ok (.aload_n 0, 1))) rfl rfl rfl
  · exact fun d lv st M Q => jx_k_gf (jx_fok (by decide +kernel : decode (jx_mb 131) 70 = .ok (.getfield 13, 3))) rfl rfl rfl
  · exact fun d st M Q l0 l2 l3 x => jx_ev_st (jx_fok (by decide +kernel : decode (jx_mb 131) 73 = .ok (.iload_n 1, 1))) rfl rfl rfl
  · exact fun d lv st M Q x a ha => jx_k_al (jx_fok (by decide +kernel : decode (jx_mb 131) 74 = .ok (.iaload, 1))) ha
  · exact fun d lv st M Q => jx_ev_st (jx_fok (by decide +kernel : decode (jx_mb 131) 75 = .ok (.iconst 1, 1))) rfl rfl rfl
  · exact fun d lv st M Q x z => jx_ev_st (jx_fok (by decide +kernel : decode (jx_mb 131) 76 = .ok (.isub, 1))) rfl rfl rfl
  · exact fun d lv M Q a0 a1 a2 => jx_ev_ci (jx_fok (by decide +kernel : decode (jx_mb 131) 77 = .ok (.invokestatic 73, 3))) rfl (jx_ccS (As := [.int a2, .int a1, .int a0]) (rest := []) rfl rfl rfl rfl rfl) (by decide)
  · exact fun d lv st M Q x => jx_k_b1n (jx_fok (by decide +kernel : decode (jx_mb 131) 80 = .ok (.ifCond .ne 9, 3))) rfl jx_hNe
  · exact fun d st M Q l1 l2 l3 x => jx_ev_st (jx_fok (by decide +kernel : decode (jx_mb 131) 83 = .ok (.aload_n 0, 1))) rfl rfl rfl
  · exact fun d lv st M Q => jx_ev_st (jx_fok (by decide +kernel : decode (jx_mb 131) 84 = .ok (.iconst 3, 1))) rfl rfl rfl
  · exact fun d lv M Q a0 => jx_ev_cl (jx_fok (by decide +kernel : decode (jx_mb 131) 85 = .ok (.invokevirtual 187, 3))) rfl (jx_ccV (As := [.int a0]) (rest := []) rfl rfl rfl rfl rfl rfl) rfl
  · exact fun d lv M Q x => jx_k_rl (jx_fok (by decide +kernel : decode (jx_mb 131) 88 = .ok (.lreturn, 1))) rfl
  · exact fun d st M Q l1 l2 l3 x => jx_ev_st (jx_fok (by decide +kernel : decode (jx_mb 131) 89 = .ok (.aload_n 0, 1))) rfl rfl rfl
  · exact fun d lv st M Q => jx_k_gf (jx_fok (by decide +kernel : decode (jx_mb 131) 90 = .ok (.getfield 16, 3))) rfl rfl rfl
  · exact fun d lv st M Q => jx_ev_st (jx_fok (by decide +kernel : decode (jx_mb 131) 93 = .ok (.bipush 60, 2))) rfl rfl rfl
  · exact fun d st M Q l0 l2 l3 x => jx_ev_st (jx_fok (by decide +kernel : decode (jx_mb 131) 95 = .ok (.iload_n 1, 1))) rfl rfl rfl
  · exact fun d lv st M Q x z => jx_ev_st (jx_fok (by decide +kernel : decode (jx_mb 131) 96 = .ok (.imul, 1))) rfl rfl rfl
  · exact fun d st M Q l0 l1 l3 x => jx_ev_st (jx_fok (by decide +kernel : decode (jx_mb 131) 97 = .ok (.iload_n 2, 1))) rfl rfl rfl
  · exact fun d lv st M Q x z => jx_ev_st (jx_fok (by decide +kernel : decode (jx_mb 131) 98 = .ok (.iadd, 1))) rfl rfl rfl
  · exact fun d lv st M Q x a ha => jx_k_al (jx_fok (by decide +kernel : decode (jx_mb 131) 99 = .ok (.iaload, 1))) ha
  · exact fun d lv st M Q x => jx_ev_st (jx_fok (by decide +kernel : decode (jx_mb 131) 100 = .ok (.i2l, 1))) rfl rfl rfl
  · exact fun d lv M Q x => jx_k_rl (jx_fok (by decide +kernel : decode (jx_mb 131) 101 = .ok (.lreturn, 1))) rfl
theorem kX8_cell (d : Nat) (M : jx_M) (q : Int64 → jx_M → Prop) (a0 a1 a2 a3 : Value) : jx_L d 131 [a0, a1, a2, a3] M q ↔ jx_Ev d 131 0 [some a0, some a1, some a2, some a3] [] M (jx_qL q) := Iff.rfl
set_option maxRecDepth 100000 in
theorem eX8_copy :
  (∀ (d : Nat) (st : List Value) (M : jx_M) (Q : jx_Po) (l1 l2 l3 l4 l5 l6 l7 l8 l9 : Option Value) (x : Nat), jx_Ev d 132 0 [some (.ref x), l1, l2, l3, l4, l5, l6, l7, l8, l9] st M Q ↔ jx_Ev d 132 1 [some (.ref x), l1, l2, l3, l4, l5, l6, l7, l8, l9] (.ref x :: st) M Q) ∧
  (∀ (d : Nat) (lv : List (Option Value)) (st : List Value) (M : jx_M) (Q : jx_Po), jx_Ev d 132 1 lv st M Q ↔ jx_Ev d 132 2 lv (.int 0 :: st) M Q) ∧
  (∀ (d : Nat) (lv : List (Option Value)) (st : List Value) (M : jx_M) (Q : jx_Po) (x : Int32), jx_Ev d 132 2 lv (.int x :: .ref 36 :: st) M Q ↔ jx_Ev d 132 5 lv st (jx_up M 36 0 x) Q) ∧
  (∀ (d : Nat) (st : List Value) (M : jx_M) (Q : jx_Po) (l0 l2 l3 l4 l5 l6 l7 l8 l9 : Option Value) (x : Int32), jx_Ev d 132 5 [l0, some (.int x), l2, l3, l4, l5, l6, l7, l8, l9] st M Q ↔ jx_Ev d 132 6 [l0, some (.int x), l2, l3, l4, l5, l6, l7, l8, l9] (.int x :: st) M Q) ∧
  (∀ (d : Nat) (lv : List (Option Value)) (M : jx_M) (Q : jx_Po) (a0 : Int32), jx_Ev (d + 1) 132 6 lv [.int a0] M Q ↔ jx_I d 86 [.int a0] M (fun x M => jx_Ev (d + 1) 132 9 lv (.int x :: []) M Q)) ∧
  (∀ (d : Nat) (lv : List (Option Value)) (st : List Value) (M : jx_M) (Q : jx_Po) (x : Int32), jx_Ev d 132 9 lv (.int x :: st) M Q ↔ (if x = 0 then jx_Ev d 132 19 lv st M Q else jx_Ev d 132 12 lv st M Q)) ∧
  (∀ (d : Nat) (st : List Value) (M : jx_M) (Q : jx_Po) (l0 l1 l2 l4 l5 l6 l7 l8 l9 : Option Value) (x : Int32), jx_Ev d 132 12 [l0, l1, l2, some (.int x), l4, l5, l6, l7, l8, l9] st M Q ↔ jx_Ev d 132 13 [l0, l1, l2, some (.int x), l4, l5, l6, l7, l8, l9] (.int x :: st) M Q) ∧
  (∀ (d : Nat) (lv : List (Option Value)) (M : jx_M) (Q : jx_Po) (a0 : Int32), jx_Ev (d + 1) 132 13 lv [.int a0] M Q ↔ jx_I d 86 [.int a0] M (fun x M => jx_Ev (d + 1) 132 16 lv (.int x :: []) M Q)) ∧
  (∀ (d : Nat) (lv : List (Option Value)) (st : List Value) (M : jx_M) (Q : jx_Po) (x : Int32), jx_Ev d 132 16 lv (.int x :: st) M Q ↔ (if x = 0 then jx_Ev d 132 19 lv st M Q else jx_Ev d 132 21 lv st M Q)) ∧
  (∀ (d : Nat) (lv : List (Option Value)) (st : List Value) (M : jx_M) (Q : jx_Po), jx_Ev d 132 19 lv st M Q ↔ jx_Ev d 132 20 lv (.int (-1) :: st) M Q) ∧
  (∀ (d : Nat) (lv : List (Option Value)) (M : jx_M) (Q : jx_Po) (x : Int32), jx_Ev d 132 20 lv [.int x] M Q ↔ Q [.int x] M) ∧
  (∀ (d : Nat) (st : List Value) (M : jx_M) (Q : jx_Po) (l1 l2 l3 l4 l5 l6 l7 l8 l9 : Option Value) (x : Nat), jx_Ev d 132 21 [some (.ref x), l1, l2, l3, l4, l5, l6, l7, l8, l9] st M Q ↔ jx_Ev d 132 22 [some (.ref x), l1, l2, l3, l4, l5, l6, l7, l8, l9] (.ref x :: st) M Q) ∧
  (∀ (d : Nat) (lv : List (Option Value)) (st : List Value) (M : jx_M) (Q : jx_Po), jx_Ev d 132 22 lv (.ref 36 :: st) M Q ↔ jx_Ev d 132 25 lv (.ref 37 :: st) M Q) ∧
  (∀ (d : Nat) (st : List Value) (M : jx_M) (Q : jx_Po) (l0 l2 l3 l4 l5 l6 l7 l8 l9 : Option Value) (x : Int32), jx_Ev d 132 25 [l0, some (.int x), l2, l3, l4, l5, l6, l7, l8, l9] st M Q ↔ jx_Ev d 132 26 [l0, some (.int x), l2, l3, l4, l5, l6, l7, l8, l9] (.int x :: st) M Q) ∧
  (∀ (d : Nat) (lv : List (Option Value)) (st : List Value) (M : jx_M) (Q : jx_Po) (x : Int32) (a : Nat) (ha : jx_cl a = 9), jx_Ev d 132 26 lv (.int x :: .ref a :: st) M Q ↔ (vp_in x (jx_sz a) ∧ jx_Ev d 132 27 lv (.int (M a x.toNatClampNeg) :: st) M Q)) ∧
  (∀ (d : Nat) (lv : List (Option Value)) (st : List Value) (M : jx_M) (Q : jx_Po), jx_Ev d 132 27 lv st M Q ↔ jx_Ev d 132 29 lv (.int (-9) :: st) M Q) ∧
  (∀ (d : Nat) (lv : List (Option Value)) (st : List Value) (M : jx_M) (Q : jx_Po) (x z : Int32), jx_Ev d 132 29 lv (.int z :: .int x :: st) M Q ↔ (if x = z then jx_Ev d 132 43 lv st M Q else jx_Ev d 132 32 lv st M Q)) ∧
  (∀ (d : Nat) (st : List Value) (M : jx_M) (Q : jx_Po) (l1 l2 l3 l4 l5 l6 l7 l8 l9 : Option Value) (x : Nat), jx_Ev d 132 32 [some (.ref x), l1, l2, l3, l4, l5, l6, l7, l8, l9] st M Q ↔ jx_Ev d 132 33 [some (.ref x), l1, l2, l3, l4, l5, l6, l7, l8, l9] (.ref x :: st) M Q) ∧
  (∀ (d : Nat) (lv : List (Option Value)) (st : List Value) (M : jx_M) (Q : jx_Po), jx_Ev d 132 33 lv (.ref 36 :: st) M Q ↔ jx_Ev d 132 36 lv (.ref 37 :: st) M Q) ∧
  (∀ (d : Nat) (st : List Value) (M : jx_M) (Q : jx_Po) (l0 l1 l2 l4 l5 l6 l7 l8 l9 : Option Value) (x : Int32), jx_Ev d 132 36 [l0, l1, l2, some (.int x), l4, l5, l6, l7, l8, l9] st M Q ↔ jx_Ev d 132 37 [l0, l1, l2, some (.int x), l4, l5, l6, l7, l8, l9] (.int x :: st) M Q) ∧
  (∀ (d : Nat) (lv : List (Option Value)) (st : List Value) (M : jx_M) (Q : jx_Po) (x : Int32) (a : Nat) (ha : jx_cl a = 9), jx_Ev d 132 37 lv (.int x :: .ref a :: st) M Q ↔ (vp_in x (jx_sz a) ∧ jx_Ev d 132 38 lv (.int (M a x.toNatClampNeg) :: st) M Q)) ∧
  (∀ (d : Nat) (lv : List (Option Value)) (st : List Value) (M : jx_M) (Q : jx_Po), jx_Ev d 132 38 lv st M Q ↔ jx_Ev d 132 40 lv (.int (-9) :: st) M Q) ∧
  (∀ (d : Nat) (lv : List (Option Value)) (st : List Value) (M : jx_M) (Q : jx_Po) (x z : Int32), jx_Ev d 132 40 lv (.int z :: .int x :: st) M Q ↔ (if x = z then jx_Ev d 132 43 lv st M Q else jx_Ev d 132 49 lv st M Q)) ∧
  (∀ (d : Nat) (st : List Value) (M : jx_M) (Q : jx_Po) (l1 l2 l3 l4 l5 l6 l7 l8 l9 : Option Value) (x : Nat), jx_Ev d 132 43 [some (.ref x), l1, l2, l3, l4, l5, l6, l7, l8, l9] st M Q ↔ jx_Ev d 132 44 [some (.ref x), l1, l2, l3, l4, l5, l6, l7, l8, l9] (.ref x :: st) M Q) ∧
  (∀ (d : Nat) (lv : List (Option Value)) (st : List Value) (M : jx_M) (Q : jx_Po), jx_Ev d 132 44 lv st M Q ↔ jx_Ev d 132 45 lv (.int 1 :: st) M Q) ∧
  (∀ (d : Nat) (lv : List (Option Value)) (M : jx_M) (Q : jx_Po) (a0 : Int32), jx_Ev (d + 1) 132 45 lv [.int a0, .ref 36] M Q ↔ jx_I d 83 [.ref 36, .int a0] M (fun x M => jx_Ev (d + 1) 132 48 lv (.int x :: []) M Q)) ∧
  (∀ (d : Nat) (lv : List (Option Value)) (M : jx_M) (Q : jx_Po) (x : Int32), jx_Ev d 132 48 lv [.int x] M Q ↔ Q [.int x] M) ∧
  (∀ (d : Nat) (st : List Value) (M : jx_M) (Q : jx_Po) (l1 l2 l3 l4 l5 l6 l7 l8 l9 : Option Value) (x : Nat), jx_Ev d 132 49 [some (.ref x), l1, l2, l3, l4, l5, l6, l7, l8, l9] st M Q ↔ jx_Ev d 132 50 [some (.ref x), l1, l2, l3, l4, l5, l6, l7, l8, l9] (.ref x :: st) M Q) ∧
  (∀ (d : Nat) (lv : List (Option Value)) (st : List Value) (M : jx_M) (Q : jx_Po), jx_Ev d 132 50 lv (.ref 36 :: st) M Q ↔ jx_Ev d 132 53 lv (.ref 37 :: st) M Q) ∧
  (∀ (d : Nat) (st : List Value) (M : jx_M) (Q : jx_Po) (l0 l2 l3 l4 l5 l6 l7 l8 l9 : Option Value) (x : Int32), jx_Ev d 132 53 [l0, some (.int x), l2, l3, l4, l5, l6, l7, l8, l9] st M Q ↔ jx_Ev d 132 54 [l0, some (.int x), l2, l3, l4, l5, l6, l7, l8, l9] (.int x :: st) M Q) ∧
  (∀ (d : Nat) (lv : List (Option Value)) (st : List Value) (M : jx_M) (Q : jx_Po) (x : Int32) (a : Nat) (ha : jx_cl a = 9), jx_Ev d 132 54 lv (.int x :: .ref a :: st) M Q ↔ (vp_in x (jx_sz a) ∧ jx_Ev d 132 55 lv (.int (M a x.toNatClampNeg) :: st) M Q)) ∧
  (∀ (d : Nat) (st : List Value) (M : jx_M) (Q : jx_Po) (l1 l2 l3 l4 l5 l6 l7 l8 l9 : Option Value) (x : Nat), jx_Ev d 132 55 [some (.ref x), l1, l2, l3, l4, l5, l6, l7, l8, l9] st M Q ↔ jx_Ev d 132 56 [some (.ref x), l1, l2, l3, l4, l5, l6, l7, l8, l9] (.ref x :: st) M Q) ∧
  (∀ (d : Nat) (lv : List (Option Value)) (st : List Value) (M : jx_M) (Q : jx_Po), jx_Ev d 132 56 lv (.ref 36 :: st) M Q ↔ jx_Ev d 132 59 lv (.ref 37 :: st) M Q) ∧
  (∀ (d : Nat) (st : List Value) (M : jx_M) (Q : jx_Po) (l0 l1 l2 l4 l5 l6 l7 l8 l9 : Option Value) (x : Int32), jx_Ev d 132 59 [l0, l1, l2, some (.int x), l4, l5, l6, l7, l8, l9] st M Q ↔ jx_Ev d 132 60 [l0, l1, l2, some (.int x), l4, l5, l6, l7, l8, l9] (.int x :: st) M Q) ∧
  (∀ (d : Nat) (lv : List (Option Value)) (st : List Value) (M : jx_M) (Q : jx_Po) (x : Int32) (a : Nat) (ha : jx_cl a = 9), jx_Ev d 132 60 lv (.int x :: .ref a :: st) M Q ↔ (vp_in x (jx_sz a) ∧ jx_Ev d 132 61 lv (.int (M a x.toNatClampNeg) :: st) M Q)) ∧
  (∀ (d : Nat) (lv : List (Option Value)) (st : List Value) (M : jx_M) (Q : jx_Po) (x z : Int32), jx_Ev d 132 61 lv (.int z :: .int x :: st) M Q ↔ (if x = z then jx_Ev d 132 70 lv st M Q else jx_Ev d 132 64 lv st M Q)) ∧
  (∀ (d : Nat) (st : List Value) (M : jx_M) (Q : jx_Po) (l1 l2 l3 l4 l5 l6 l7 l8 l9 : Option Value) (x : Nat), jx_Ev d 132 64 [some (.ref x), l1, l2, l3, l4, l5, l6, l7, l8, l9] st M Q ↔ jx_Ev d 132 65 [some (.ref x), l1, l2, l3, l4, l5, l6, l7, l8, l9] (.ref x :: st) M Q) ∧
  (∀ (d : Nat) (lv : List (Option Value)) (st : List Value) (M : jx_M) (Q : jx_Po), jx_Ev d 132 65 lv st M Q ↔ jx_Ev d 132 66 lv (.int 2 :: st) M Q) ∧
  (∀ (d : Nat) (lv : List (Option Value)) (M : jx_M) (Q : jx_Po) (a0 : Int32), jx_Ev (d + 1) 132 66 lv [.int a0, .ref 36] M Q ↔ jx_I d 83 [.ref 36, .int a0] M (fun x M => jx_Ev (d + 1) 132 69 lv (.int x :: []) M Q)) ∧
  (∀ (d : Nat) (lv : List (Option Value)) (M : jx_M) (Q : jx_Po) (x : Int32), jx_Ev d 132 69 lv [.int x] M Q ↔ Q [.int x] M) ∧
  (∀ (d : Nat) (st : List Value) (M : jx_M) (Q : jx_Po) (l0 l1 l3 l4 l5 l6 l7 l8 l9 : Option Value) (x : Int32), jx_Ev d 132 70 [l0, l1, some (.int x), l3, l4, l5, l6, l7, l8, l9] st M Q ↔ jx_Ev d 132 71 [l0, l1, some (.int x), l3, l4, l5, l6, l7, l8, l9] (.int x :: st) M Q) ∧
  (∀ (d : Nat) (lv : List (Option Value)) (st : List Value) (M : jx_M) (Q : jx_Po) (x : Int32), jx_Ev d 132 71 lv (.int x :: st) M Q ↔ (if x < 0 then jx_Ev d 132 109 lv st M Q else jx_Ev d 132 74 lv st M Q)) ∧
  (∀ (d : Nat) (st : List Value) (M : jx_M) (Q : jx_Po) (l0 l1 l2 l3 l5 l6 l7 l8 l9 : Option Value) (x : Int32), jx_Ev d 132 74 [l0, l1, l2, l3, some (.int x), l5, l6, l7, l8, l9] st M Q ↔ jx_Ev d 132 76 [l0, l1, l2, l3, some (.int x), l5, l6, l7, l8, l9] (.int x :: st) M Q) ∧
  (∀ (d : Nat) (lv : List (Option Value)) (st : List Value) (M : jx_M) (Q : jx_Po) (x : Int32), jx_Ev d 132 76 lv (.int x :: st) M Q ↔ (if x < 0 then jx_Ev d 132 109 lv st M Q else jx_Ev d 132 79 lv st M Q)) ∧
  (∀ (d : Nat) (st : List Value) (M : jx_M) (Q : jx_Po) (l0 l1 l2 l3 l4 l6 l7 l8 l9 : Option Value) (x : Int32), jx_Ev d 132 79 [l0, l1, l2, l3, l4, some (.int x), l6, l7, l8, l9] st M Q ↔ jx_Ev d 132 81 [l0, l1, l2, l3, l4, some (.int x), l6, l7, l8, l9] (.int x :: st) M Q) ∧
  (∀ (d : Nat) (lv : List (Option Value)) (st : List Value) (M : jx_M) (Q : jx_Po) (x : Int32), jx_Ev d 132 81 lv (.int x :: st) M Q ↔ (if x < 0 then jx_Ev d 132 109 lv st M Q else jx_Ev d 132 84 lv st M Q)) ∧
  (∀ (d : Nat) (st : List Value) (M : jx_M) (Q : jx_Po) (l0 l1 l3 l4 l5 l6 l7 l8 l9 : Option Value) (x : Int32), jx_Ev d 132 84 [l0, l1, some (.int x), l3, l4, l5, l6, l7, l8, l9] st M Q ↔ jx_Ev d 132 85 [l0, l1, some (.int x), l3, l4, l5, l6, l7, l8, l9] (.int x :: st) M Q) ∧
  (∀ (d : Nat) (st : List Value) (M : jx_M) (Q : jx_Po) (l1 l2 l3 l4 l5 l6 l7 l8 l9 : Option Value) (x : Nat), jx_Ev d 132 85 [some (.ref x), l1, l2, l3, l4, l5, l6, l7, l8, l9] st M Q ↔ jx_Ev d 132 86 [some (.ref x), l1, l2, l3, l4, l5, l6, l7, l8, l9] (.ref x :: st) M Q) ∧
  (∀ (d : Nat) (lv : List (Option Value)) (st : List Value) (M : jx_M) (Q : jx_Po), jx_Ev d 132 86 lv (.ref 36 :: st) M Q ↔ jx_Ev d 132 89 lv (.ref 38 :: st) M Q) ∧
  (∀ (d : Nat) (st : List Value) (M : jx_M) (Q : jx_Po) (l0 l2 l3 l4 l5 l6 l7 l8 l9 : Option Value) (x : Int32), jx_Ev d 132 89 [l0, some (.int x), l2, l3, l4, l5, l6, l7, l8, l9] st M Q ↔ jx_Ev d 132 90 [l0, some (.int x), l2, l3, l4, l5, l6, l7, l8, l9] (.int x :: st) M Q) ∧
  (∀ (d : Nat) (lv : List (Option Value)) (st : List Value) (M : jx_M) (Q : jx_Po) (x : Int32) (a : Nat) (ha : jx_cl a = 9), jx_Ev d 132 90 lv (.int x :: .ref a :: st) M Q ↔ (vp_in x (jx_sz a) ∧ jx_Ev d 132 91 lv (.int (M a x.toNatClampNeg) :: st) M Q)) ∧
  (∀ (d : Nat) (lv : List (Option Value)) (st : List Value) (M : jx_M) (Q : jx_Po) (x z : Int32), jx_Ev d 132 91 lv (.int z :: .int x :: st) M Q ↔ (if z < x then jx_Ev d 132 109 lv st M Q else jx_Ev d 132 94 lv st M Q)) ∧
  (∀ (d : Nat) (st : List Value) (M : jx_M) (Q : jx_Po) (l0 l1 l2 l3 l5 l6 l7 l8 l9 : Option Value) (x : Int32), jx_Ev d 132 94 [l0, l1, l2, l3, some (.int x), l5, l6, l7, l8, l9] st M Q ↔ jx_Ev d 132 96 [l0, l1, l2, l3, some (.int x), l5, l6, l7, l8, l9] (.int x :: st) M Q) ∧
  (∀ (d : Nat) (st : List Value) (M : jx_M) (Q : jx_Po) (l1 l2 l3 l4 l5 l6 l7 l8 l9 : Option Value) (x : Nat), jx_Ev d 132 96 [some (.ref x), l1, l2, l3, l4, l5, l6, l7, l8, l9] st M Q ↔ jx_Ev d 132 97 [some (.ref x), l1, l2, l3, l4, l5, l6, l7, l8, l9] (.ref x :: st) M Q) ∧
  (∀ (d : Nat) (lv : List (Option Value)) (st : List Value) (M : jx_M) (Q : jx_Po), jx_Ev d 132 97 lv (.ref 36 :: st) M Q ↔ jx_Ev d 132 100 lv (.ref 38 :: st) M Q) ∧
  (∀ (d : Nat) (st : List Value) (M : jx_M) (Q : jx_Po) (l0 l1 l2 l4 l5 l6 l7 l8 l9 : Option Value) (x : Int32), jx_Ev d 132 100 [l0, l1, l2, some (.int x), l4, l5, l6, l7, l8, l9] st M Q ↔ jx_Ev d 132 101 [l0, l1, l2, some (.int x), l4, l5, l6, l7, l8, l9] (.int x :: st) M Q) ∧
  (∀ (d : Nat) (lv : List (Option Value)) (st : List Value) (M : jx_M) (Q : jx_Po) (x : Int32) (a : Nat) (ha : jx_cl a = 9), jx_Ev d 132 101 lv (.int x :: .ref a :: st) M Q ↔ (vp_in x (jx_sz a) ∧ jx_Ev d 132 102 lv (.int (M a x.toNatClampNeg) :: st) M Q)) ∧
  (∀ (d : Nat) (lv : List (Option Value)) (st : List Value) (M : jx_M) (Q : jx_Po) (x z : Int32), jx_Ev d 132 102 lv (.int z :: .int x :: st) M Q ↔ (if z < x then jx_Ev d 132 109 lv st M Q else jx_Ev d 132 105 lv st M Q)) ∧
  (∀ (d : Nat) (lv : List (Option Value)) (st : List Value) (M : jx_M) (Q : jx_Po), jx_Ev d 132 105 lv st M Q ↔ jx_Ev d 132 106 lv (.int 1 :: st) M Q) ∧
  (∀ (d : Nat) (lv : List (Option Value)) (st : List Value) (M : jx_M) (Q : jx_Po), jx_Ev d 132 106 lv st M Q ↔ jx_Ev d 132 110 lv st M Q) ∧
  (∀ (d : Nat) (lv : List (Option Value)) (st : List Value) (M : jx_M) (Q : jx_Po), jx_Ev d 132 109 lv st M Q ↔ jx_Ev d 132 110 lv (.int 0 :: st) M Q) ∧
  (∀ (d : Nat) (st : List Value) (M : jx_M) (Q : jx_Po) (l0 l1 l2 l3 l4 l5 l6 l7 l8 l9 : Option Value) (x : Int32), jx_Ev d 132 110 [l0, l1, l2, l3, l4, l5, l6, l7, l8, l9] (.int x :: st) M Q ↔ jx_Ev d 132 112 [l0, l1, l2, l3, l4, l5, some (.int x), l7, l8, l9] st M Q) ∧
  (∀ (d : Nat) (st : List Value) (M : jx_M) (Q : jx_Po) (l0 l1 l2 l3 l4 l5 l7 l8 l9 : Option Value) (x : Int32), jx_Ev d 132 112 [l0, l1, l2, l3, l4, l5, some (.int x), l7, l8, l9] st M Q ↔ jx_Ev d 132 114 [l0, l1, l2, l3, l4, l5, some (.int x), l7, l8, l9] (.int x :: st) M Q) ∧
  (∀ (d : Nat) (lv : List (Option Value)) (st : List Value) (M : jx_M) (Q : jx_Po) (x : Int32), jx_Ev d 132 114 lv (.int x :: st) M Q ↔ (if x = 0 then jx_Ev d 132 144 lv st M Q else jx_Ev d 132 117 lv st M Q)) ∧
  (∀ (d : Nat) (st : List Value) (M : jx_M) (Q : jx_Po) (l0 l1 l2 l3 l4 l6 l7 l8 l9 : Option Value) (x : Int32), jx_Ev d 132 117 [l0, l1, l2, l3, l4, some (.int x), l6, l7, l8, l9] st M Q ↔ jx_Ev d 132 119 [l0, l1, l2, l3, l4, some (.int x), l6, l7, l8, l9] (.int x :: st) M Q) ∧
  (∀ (d : Nat) (st : List Value) (M : jx_M) (Q : jx_Po) (l1 l2 l3 l4 l5 l6 l7 l8 l9 : Option Value) (x : Nat), jx_Ev d 132 119 [some (.ref x), l1, l2, l3, l4, l5, l6, l7, l8, l9] st M Q ↔ jx_Ev d 132 120 [some (.ref x), l1, l2, l3, l4, l5, l6, l7, l8, l9] (.ref x :: st) M Q) ∧
  (∀ (d : Nat) (lv : List (Option Value)) (st : List Value) (M : jx_M) (Q : jx_Po), jx_Ev d 132 120 lv (.ref 36 :: st) M Q ↔ jx_Ev d 132 123 lv (.ref 38 :: st) M Q) ∧
  (∀ (d : Nat) (st : List Value) (M : jx_M) (Q : jx_Po) (l0 l2 l3 l4 l5 l6 l7 l8 l9 : Option Value) (x : Int32), jx_Ev d 132 123 [l0, some (.int x), l2, l3, l4, l5, l6, l7, l8, l9] st M Q ↔ jx_Ev d 132 124 [l0, some (.int x), l2, l3, l4, l5, l6, l7, l8, l9] (.int x :: st) M Q) ∧
  (∀ (d : Nat) (lv : List (Option Value)) (st : List Value) (M : jx_M) (Q : jx_Po) (x : Int32) (a : Nat) (ha : jx_cl a = 9), jx_Ev d 132 124 lv (.int x :: .ref a :: st) M Q ↔ (vp_in x (jx_sz a) ∧ jx_Ev d 132 125 lv (.int (M a x.toNatClampNeg) :: st) M Q)) ∧
  (∀ (d : Nat) (st : List Value) (M : jx_M) (Q : jx_Po) (l0 l1 l3 l4 l5 l6 l7 l8 l9 : Option Value) (x : Int32), jx_Ev d 132 125 [l0, l1, some (.int x), l3, l4, l5, l6, l7, l8, l9] st M Q ↔ jx_Ev d 132 126 [l0, l1, some (.int x), l3, l4, l5, l6, l7, l8, l9] (.int x :: st) M Q) ∧
  (∀ (d : Nat) (lv : List (Option Value)) (st : List Value) (M : jx_M) (Q : jx_Po) (x z : Int32), jx_Ev d 132 126 lv (.int z :: .int x :: st) M Q ↔ jx_Ev d 132 127 lv (.int (x - z) :: st) M Q) ∧
  (∀ (d : Nat) (lv : List (Option Value)) (st : List Value) (M : jx_M) (Q : jx_Po) (x z : Int32), jx_Ev d 132 127 lv (.int z :: .int x :: st) M Q ↔ (if z < x then jx_Ev d 132 144 lv st M Q else jx_Ev d 132 130 lv st M Q)) ∧
  (∀ (d : Nat) (st : List Value) (M : jx_M) (Q : jx_Po) (l0 l1 l2 l3 l4 l6 l7 l8 l9 : Option Value) (x : Int32), jx_Ev d 132 130 [l0, l1, l2, l3, l4, some (.int x), l6, l7, l8, l9] st M Q ↔ jx_Ev d 132 132 [l0, l1, l2, l3, l4, some (.int x), l6, l7, l8, l9] (.int x :: st) M Q) ∧
  (∀ (d : Nat) (st : List Value) (M : jx_M) (Q : jx_Po) (l1 l2 l3 l4 l5 l6 l7 l8 l9 : Option Value) (x : Nat), jx_Ev d 132 132 [some (.ref x), l1, l2, l3, l4, l5, l6, l7, l8, l9] st M Q ↔ jx_Ev d 132 133 [some (.ref x), l1, l2, l3, l4, l5, l6, l7, l8, l9] (.ref x :: st) M Q) ∧
  (∀ (d : Nat) (lv : List (Option Value)) (st : List Value) (M : jx_M) (Q : jx_Po), jx_Ev d 132 133 lv (.ref 36 :: st) M Q ↔ jx_Ev d 132 136 lv (.ref 38 :: st) M Q) ∧
  (∀ (d : Nat) (st : List Value) (M : jx_M) (Q : jx_Po) (l0 l1 l2 l4 l5 l6 l7 l8 l9 : Option Value) (x : Int32), jx_Ev d 132 136 [l0, l1, l2, some (.int x), l4, l5, l6, l7, l8, l9] st M Q ↔ jx_Ev d 132 137 [l0, l1, l2, some (.int x), l4, l5, l6, l7, l8, l9] (.int x :: st) M Q) ∧
  (∀ (d : Nat) (lv : List (Option Value)) (st : List Value) (M : jx_M) (Q : jx_Po) (x : Int32) (a : Nat) (ha : jx_cl a = 9), jx_Ev d 132 137 lv (.int x :: .ref a :: st) M Q ↔ (vp_in x (jx_sz a) ∧ jx_Ev d 132 138 lv (.int (M a x.toNatClampNeg) :: st) M Q)) ∧
  (∀ (d : Nat) (st : List Value) (M : jx_M) (Q : jx_Po) (l0 l1 l2 l3 l5 l6 l7 l8 l9 : Option Value) (x : Int32), jx_Ev d 132 138 [l0, l1, l2, l3, some (.int x), l5, l6, l7, l8, l9] st M Q ↔ jx_Ev d 132 140 [l0, l1, l2, l3, some (.int x), l5, l6, l7, l8, l9] (.int x :: st) M Q) ∧
  (∀ (d : Nat) (lv : List (Option Value)) (st : List Value) (M : jx_M) (Q : jx_Po) (x z : Int32), jx_Ev d 132 140 lv (.int z :: .int x :: st) M Q ↔ jx_Ev d 132 141 lv (.int (x - z) :: st) M Q) ∧
  (∀ (d : Nat) (lv : List (Option Value)) (st : List Value) (M : jx_M) (Q : jx_Po) (x z : Int32), jx_Ev d 132 141 lv (.int z :: .int x :: st) M Q ↔ (if x ≤ z then jx_Ev d 132 150 lv st M Q else jx_Ev d 132 144 lv st M Q)) ∧
  (∀ (d : Nat) (st : List Value) (M : jx_M) (Q : jx_Po) (l1 l2 l3 l4 l5 l6 l7 l8 l9 : Option Value) (x : Nat), jx_Ev d 132 144 [some (.ref x), l1, l2, l3, l4, l5, l6, l7, l8, l9] st M Q ↔ jx_Ev d 132 145 [some (.ref x), l1, l2, l3, l4, l5, l6, l7, l8, l9] (.ref x :: st) M Q) ∧
  (∀ (d : Nat) (lv : List (Option Value)) (st : List Value) (M : jx_M) (Q : jx_Po), jx_Ev d 132 145 lv st M Q ↔ jx_Ev d 132 146 lv (.int 3 :: st) M Q) ∧
  (∀ (d : Nat) (lv : List (Option Value)) (M : jx_M) (Q : jx_Po) (a0 : Int32), jx_Ev (d + 1) 132 146 lv [.int a0, .ref 36] M Q ↔ jx_I d 83 [.ref 36, .int a0] M (fun x M => jx_Ev (d + 1) 132 149 lv (.int x :: []) M Q)) ∧
  (∀ (d : Nat) (lv : List (Option Value)) (M : jx_M) (Q : jx_Po) (x : Int32), jx_Ev d 132 149 lv [.int x] M Q ↔ Q [.int x] M) ∧
  (∀ (d : Nat) (st : List Value) (M : jx_M) (Q : jx_Po) (l0 l1 l3 l4 l5 l6 l7 l8 l9 : Option Value) (x : Int32), jx_Ev d 132 150 [l0, l1, some (.int x), l3, l4, l5, l6, l7, l8, l9] st M Q ↔ jx_Ev d 132 151 [l0, l1, some (.int x), l3, l4, l5, l6, l7, l8, l9] (.int x :: st) M Q) ∧
  (∀ (d : Nat) (st : List Value) (M : jx_M) (Q : jx_Po) (l0 l1 l2 l3 l5 l6 l7 l8 l9 : Option Value) (x : Int32), jx_Ev d 132 151 [l0, l1, l2, l3, some (.int x), l5, l6, l7, l8, l9] st M Q ↔ jx_Ev d 132 153 [l0, l1, l2, l3, some (.int x), l5, l6, l7, l8, l9] (.int x :: st) M Q) ∧
  (∀ (d : Nat) (lv : List (Option Value)) (st : List Value) (M : jx_M) (Q : jx_Po) (x z : Int32), jx_Ev d 132 153 lv (.int z :: .int x :: st) M Q ↔ (if z ≤ x then jx_Ev d 132 160 lv st M Q else jx_Ev d 132 156 lv st M Q)) ∧
  (∀ (d : Nat) (lv : List (Option Value)) (st : List Value) (M : jx_M) (Q : jx_Po), jx_Ev d 132 156 lv st M Q ↔ jx_Ev d 132 157 lv (.int 1 :: st) M Q) ∧
  (∀ (d : Nat) (lv : List (Option Value)) (st : List Value) (M : jx_M) (Q : jx_Po), jx_Ev d 132 157 lv st M Q ↔ jx_Ev d 132 161 lv st M Q) ∧
  (∀ (d : Nat) (lv : List (Option Value)) (st : List Value) (M : jx_M) (Q : jx_Po), jx_Ev d 132 160 lv st M Q ↔ jx_Ev d 132 161 lv (.int 0 :: st) M Q) ∧
  (∀ (d : Nat) (st : List Value) (M : jx_M) (Q : jx_Po) (l0 l1 l2 l3 l4 l5 l6 l7 l8 l9 : Option Value) (x : Int32), jx_Ev d 132 161 [l0, l1, l2, l3, l4, l5, l6, l7, l8, l9] (.int x :: st) M Q ↔ jx_Ev d 132 163 [l0, l1, l2, l3, l4, l5, l6, some (.int x), l8, l9] st M Q) ∧
  (∀ (d : Nat) (lv : List (Option Value)) (st : List Value) (M : jx_M) (Q : jx_Po), jx_Ev d 132 163 lv st M Q ↔ jx_Ev d 132 164 lv (.int 0 :: st) M Q) ∧
  (∀ (d : Nat) (st : List Value) (M : jx_M) (Q : jx_Po) (l0 l1 l2 l3 l4 l5 l6 l7 l8 l9 : Option Value) (x : Int32), jx_Ev d 132 164 [l0, l1, l2, l3, l4, l5, l6, l7, l8, l9] (.int x :: st) M Q ↔ jx_Ev d 132 166 [l0, l1, l2, l3, l4, l5, l6, l7, some (.int x), l9] st M Q) ∧
  (∀ (d : Nat) (st : List Value) (M : jx_M) (Q : jx_Po) (l0 l1 l2 l3 l4 l6 l7 l8 l9 : Option Value) (x : Int32), jx_Ev d 132 168 [l0, l1, l2, l3, l4, some (.int x), l6, l7, l8, l9] st M Q ↔ jx_Ev d 132 170 [l0, l1, l2, l3, l4, some (.int x), l6, l7, l8, l9] (.int x :: st) M Q) ∧
  (∀ (d : Nat) (lv : List (Option Value)) (st : List Value) (M : jx_M) (Q : jx_Po) (x z : Int32), jx_Ev d 132 170 lv (.int z :: .int x :: st) M Q ↔ (if z ≤ x then jx_Ev d 132 227 lv st M Q else jx_Ev d 132 173 lv st M Q)) ∧
  (∀ (d : Nat) (st : List Value) (M : jx_M) (Q : jx_Po) (l0 l1 l2 l3 l4 l5 l6 l8 l9 : Option Value) (x : Int32), jx_Ev d 132 173 [l0, l1, l2, l3, l4, l5, l6, some (.int x), l8, l9] st M Q ↔ jx_Ev d 132 175 [l0, l1, l2, l3, l4, l5, l6, some (.int x), l8, l9] (.int x :: st) M Q) ∧
  (∀ (d : Nat) (lv : List (Option Value)) (st : List Value) (M : jx_M) (Q : jx_Po) (x : Int32), jx_Ev d 132 175 lv (.int x :: st) M Q ↔ (if x = 0 then jx_Ev d 132 188 lv st M Q else jx_Ev d 132 178 lv st M Q)) ∧
  (∀ (d : Nat) (st : List Value) (M : jx_M) (Q : jx_Po) (l0 l1 l2 l3 l4 l6 l7 l8 l9 : Option Value) (x : Int32), jx_Ev d 132 178 [l0, l1, l2, l3, l4, some (.int x), l6, l7, l8, l9] st M Q ↔ jx_Ev d 132 180 [l0, l1, l2, l3, l4, some (.int x), l6, l7, l8, l9] (.int x :: st) M Q) ∧
  (∀ (d : Nat) (lv : List (Option Value)) (st : List Value) (M : jx_M) (Q : jx_Po), jx_Ev d 132 180 lv st M Q ↔ jx_Ev d 132 181 lv (.int 1 :: st) M Q) ∧
  (∀ (d : Nat) (lv : List (Option Value)) (st : List Value) (M : jx_M) (Q : jx_Po) (x z : Int32), jx_Ev d 132 181 lv (.int z :: .int x :: st) M Q ↔ jx_Ev d 132 182 lv (.int (x - z) :: st) M Q) ∧
  (∀ (d : Nat) (st : List Value) (M : jx_M) (Q : jx_Po) (l0 l1 l2 l3 l4 l5 l6 l7 l9 : Option Value) (x : Int32), jx_Ev d 132 182 [l0, l1, l2, l3, l4, l5, l6, l7, some (.int x), l9] st M Q ↔ jx_Ev d 132 184 [l0, l1, l2, l3, l4, l5, l6, l7, some (.int x), l9] (.int x :: st) M Q) ∧
  (∀ (d : Nat) (lv : List (Option Value)) (st : List Value) (M : jx_M) (Q : jx_Po) (x z : Int32), jx_Ev d 132 184 lv (.int z :: .int x :: st) M Q ↔ jx_Ev d 132 185 lv (.int (x - z) :: st) M Q) ∧
  (∀ (d : Nat) (lv : List (Option Value)) (st : List Value) (M : jx_M) (Q : jx_Po), jx_Ev d 132 185 lv st M Q ↔ jx_Ev d 132 190 lv st M Q) ∧
  (∀ (d : Nat) (st : List Value) (M : jx_M) (Q : jx_Po) (l0 l1 l2 l3 l4 l5 l6 l7 l9 : Option Value) (x : Int32), jx_Ev d 132 188 [l0, l1, l2, l3, l4, l5, l6, l7, some (.int x), l9] st M Q ↔ jx_Ev d 132 190 [l0, l1, l2, l3, l4, l5, l6, l7, some (.int x), l9] (.int x :: st) M Q) ∧
  (∀ (d : Nat) (st : List Value) (M : jx_M) (Q : jx_Po) (l0 l1 l2 l3 l4 l5 l6 l7 l8 l9 : Option Value) (x : Int32), jx_Ev d 132 190 [l0, l1, l2, l3, l4, l5, l6, l7, l8, l9] (.int x :: st) M Q ↔ jx_Ev d 132 192 [l0, l1, l2, l3, l4, l5, l6, l7, l8, some (.int x)] st M Q) ∧
  (∀ (d : Nat) (st : List Value) (M : jx_M) (Q : jx_Po) (l1 l2 l3 l4 l5 l6 l7 l8 l9 : Option Value) (x : Nat), jx_Ev d 132 192 [some (.ref x), l1, l2, l3, l4, l5, l6, l7, l8, l9] st M Q ↔ jx_Ev d 132 193 [some (.ref x), l1, l2, l3, l4, l5, l6, l7, l8, l9] (.ref x :: st) M Q) ∧
  (∀ (d : Nat) (lv : List (Option Value)) (st : List Value) (M : jx_M) (Q : jx_Po), jx_Ev d 132 193 lv (.ref 36 :: st) M Q ↔ jx_Ev d 132 196 lv (.ref 39 :: st) M Q) ∧
  (∀ (d : Nat) (lv : List (Option Value)) (st : List Value) (M : jx_M) (Q : jx_Po), jx_Ev d 132 196 lv st M Q ↔ jx_Ev d 132 198 lv (.int 60 :: st) M Q) ∧
  (∀ (d : Nat) (st : List Value) (M : jx_M) (Q : jx_Po) (l0 l1 l2 l4 l5 l6 l7 l8 l9 : Option Value) (x : Int32), jx_Ev d 132 198 [l0, l1, l2, some (.int x), l4, l5, l6, l7, l8, l9] st M Q ↔ jx_Ev d 132 199 [l0, l1, l2, some (.int x), l4, l5, l6, l7, l8, l9] (.int x :: st) M Q) ∧
  (∀ (d : Nat) (lv : List (Option Value)) (st : List Value) (M : jx_M) (Q : jx_Po) (x z : Int32), jx_Ev d 132 199 lv (.int z :: .int x :: st) M Q ↔ jx_Ev d 132 200 lv (.int (x * z) :: st) M Q) ∧
  (∀ (d : Nat) (st : List Value) (M : jx_M) (Q : jx_Po) (l0 l1 l2 l3 l5 l6 l7 l8 l9 : Option Value) (x : Int32), jx_Ev d 132 200 [l0, l1, l2, l3, some (.int x), l5, l6, l7, l8, l9] st M Q ↔ jx_Ev d 132 202 [l0, l1, l2, l3, some (.int x), l5, l6, l7, l8, l9] (.int x :: st) M Q) ∧
  (∀ (d : Nat) (lv : List (Option Value)) (st : List Value) (M : jx_M) (Q : jx_Po) (x z : Int32), jx_Ev d 132 202 lv (.int z :: .int x :: st) M Q ↔ jx_Ev d 132 203 lv (.int (x + z) :: st) M Q) ∧
  (∀ (d : Nat) (st : List Value) (M : jx_M) (Q : jx_Po) (l0 l1 l2 l3 l4 l5 l6 l7 l8 : Option Value) (x : Int32), jx_Ev d 132 203 [l0, l1, l2, l3, l4, l5, l6, l7, l8, some (.int x)] st M Q ↔ jx_Ev d 132 205 [l0, l1, l2, l3, l4, l5, l6, l7, l8, some (.int x)] (.int x :: st) M Q) ∧
  (∀ (d : Nat) (lv : List (Option Value)) (st : List Value) (M : jx_M) (Q : jx_Po) (x z : Int32), jx_Ev d 132 205 lv (.int z :: .int x :: st) M Q ↔ jx_Ev d 132 206 lv (.int (x + z) :: st) M Q) ∧
  (∀ (d : Nat) (st : List Value) (M : jx_M) (Q : jx_Po) (l1 l2 l3 l4 l5 l6 l7 l8 l9 : Option Value) (x : Nat), jx_Ev d 132 206 [some (.ref x), l1, l2, l3, l4, l5, l6, l7, l8, l9] st M Q ↔ jx_Ev d 132 207 [some (.ref x), l1, l2, l3, l4, l5, l6, l7, l8, l9] (.ref x :: st) M Q) ∧
  (∀ (d : Nat) (lv : List (Option Value)) (st : List Value) (M : jx_M) (Q : jx_Po), jx_Ev d 132 207 lv (.ref 36 :: st) M Q ↔ jx_Ev d 132 210 lv (.ref 39 :: st) M Q) ∧
  (∀ (d : Nat) (lv : List (Option Value)) (st : List Value) (M : jx_M) (Q : jx_Po), jx_Ev d 132 210 lv st M Q ↔ jx_Ev d 132 212 lv (.int 60 :: st) M Q) ∧
  (∀ (d : Nat) (st : List Value) (M : jx_M) (Q : jx_Po) (l0 l2 l3 l4 l5 l6 l7 l8 l9 : Option Value) (x : Int32), jx_Ev d 132 212 [l0, some (.int x), l2, l3, l4, l5, l6, l7, l8, l9] st M Q ↔ jx_Ev d 132 213 [l0, some (.int x), l2, l3, l4, l5, l6, l7, l8, l9] (.int x :: st) M Q) ∧
  (∀ (d : Nat) (lv : List (Option Value)) (st : List Value) (M : jx_M) (Q : jx_Po) (x z : Int32), jx_Ev d 132 213 lv (.int z :: .int x :: st) M Q ↔ jx_Ev d 132 214 lv (.int (x * z) :: st) M Q) ∧
  (∀ (d : Nat) (st : List Value) (M : jx_M) (Q : jx_Po) (l0 l1 l3 l4 l5 l6 l7 l8 l9 : Option Value) (x : Int32), jx_Ev d 132 214 [l0, l1, some (.int x), l3, l4, l5, l6, l7, l8, l9] st M Q ↔ jx_Ev d 132 215 [l0, l1, some (.int x), l3, l4, l5, l6, l7, l8, l9] (.int x :: st) M Q) ∧
  (∀ (d : Nat) (lv : List (Option Value)) (st : List Value) (M : jx_M) (Q : jx_Po) (x z : Int32), jx_Ev d 132 215 lv (.int z :: .int x :: st) M Q ↔ jx_Ev d 132 216 lv (.int (x + z) :: st) M Q) ∧
  (∀ (d : Nat) (st : List Value) (M : jx_M) (Q : jx_Po) (l0 l1 l2 l3 l4 l5 l6 l7 l8 : Option Value) (x : Int32), jx_Ev d 132 216 [l0, l1, l2, l3, l4, l5, l6, l7, l8, some (.int x)] st M Q ↔ jx_Ev d 132 218 [l0, l1, l2, l3, l4, l5, l6, l7, l8, some (.int x)] (.int x :: st) M Q) ∧
  (∀ (d : Nat) (lv : List (Option Value)) (st : List Value) (M : jx_M) (Q : jx_Po) (x z : Int32), jx_Ev d 132 218 lv (.int z :: .int x :: st) M Q ↔ jx_Ev d 132 219 lv (.int (x + z) :: st) M Q) ∧
  (∀ (d : Nat) (lv : List (Option Value)) (st : List Value) (M : jx_M) (Q : jx_Po) (x : Int32) (a : Nat) (ha : jx_cl a = 9), jx_Ev d 132 219 lv (.int x :: .ref a :: st) M Q ↔ (vp_in x (jx_sz a) ∧ jx_Ev d 132 220 lv (.int (M a x.toNatClampNeg) :: st) M Q)) ∧
  (∀ (d : Nat) (lv : List (Option Value)) (st : List Value) (M : jx_M) (Q : jx_Po) (x z : Int32) (a : Nat) (ha : jx_cl a = 9), jx_Ev d 132 220 lv (.int z :: .int x :: .ref a :: st) M Q ↔ (vp_in x (jx_sz a) ∧ jx_Ev d 132 221 lv st (jx_up M a x.toNatClampNeg z) Q)) ∧
  (∀ (d : Nat) (st : List Value) (M : jx_M) (Q : jx_Po) (l0 l1 l2 l3 l4 l5 l6 l7 l9 : Option Value) (x : Int32), jx_Ev d 132 221 [l0, l1, l2, l3, l4, l5, l6, l7, some (.int x), l9] st M Q ↔ jx_Ev d 132 224 [l0, l1, l2, l3, l4, l5, l6, l7, some (.int (x + 1)), l9] st M Q) ∧
  (∀ (d : Nat) (lv : List (Option Value)) (st : List Value) (M : jx_M) (Q : jx_Po), jx_Ev d 132 224 lv st M Q ↔ jx_Ev d 132 166 lv st M Q) ∧
  (∀ (d : Nat) (st : List Value) (M : jx_M) (Q : jx_Po) (l0 l1 l2 l3 l4 l6 l7 l8 l9 : Option Value) (x : Int32), jx_Ev d 132 227 [l0, l1, l2, l3, l4, some (.int x), l6, l7, l8, l9] st M Q ↔ jx_Ev d 132 229 [l0, l1, l2, l3, l4, some (.int x), l6, l7, l8, l9] (.int x :: st) M Q) ∧
  (∀ (d : Nat) (lv : List (Option Value)) (M : jx_M) (Q : jx_Po) (x : Int32), jx_Ev d 132 229 lv [.int x] M Q ↔ Q [.int x] M) := by
  refine ⟨?_, ?_, ?_, ?_, ?_, ?_, ?_, ?_, ?_, ?_, ?_, ?_, ?_, ?_, ?_, ?_, ?_, ?_, ?_, ?_, ?_, ?_, ?_, ?_, ?_, ?_, ?_, ?_, ?_, ?_, ?_, ?_, ?_, ?_, ?_, ?_, ?_, ?_, ?_, ?_, ?_, ?_, ?_, ?_, ?_, ?_, ?_, ?_, ?_, ?_, ?_, ?_, ?_, ?_, ?_, ?_, ?_, ?_, ?_, ?_, ?_, ?_, ?_, ?_, ?_, ?_, ?_, ?_, ?_, ?_, ?_, ?_, ?_, ?_, ?_, ?_, ?_, ?_, ?_, ?_, ?_, ?_, ?_, ?_, ?_, ?_, ?_, ?_, ?_, ?_, ?_, ?_, ?_, ?_, ?_, ?_, ?_, ?_, ?_, ?_, ?_, ?_, ?_, ?_, ?_, ?_, ?_, ?_, ?_, ?_, ?_, ?_, ?_, ?_, ?_, ?_, ?_, ?_, ?_, ?_, ?_, ?_, ?_, ?_, ?_, ?_, ?_, ?_, ?_⟩
  · exact fun d st M Q l1 l2 l3 l4 l5 l6 l7 l8 l9 x => jx_ev_st (jx_fok (by decide +kernel : decode (jx_mb 132) 0 = .ok (.aload_n 0, 1))) rfl rfl rfl
  · exact fun d lv st M Q => jx_ev_st (jx_fok (by decide +kernel : decode (jx_mb 132) 1 = .ok (.iconst 0, 1))) rfl rfl rfl
  · exact fun d lv st M Q x => jx_k_pf0 (jx_fok (by decide +kernel : decode (jx_mb 132) 2 = .ok (.putfield 67, 3))) rfl rfl rfl
  · exact fun d st M Q l0 l2 l3 l4 l5 l6 l7 l8 l9 x => jx_ev_st (jx_fok (by decide +kernel : decode (jx_mb 132) 5 = .ok (.iload_n 1, 1))) rfl rfl rfl
  · exact fun d lv M Q a0 => jx_ev_ci (jx_fok (by decide +kernel : decode (jx_mb 132) 6 = .ok (.invokestatic 86, 3))) rfl (jx_ccS (As := [.int a0]) (rest := []) rfl rfl rfl rfl rfl) (by decide)
  · exact fun d lv st M Q x => jx_k_b1 (jx_fok (by decide +kernel : decode (jx_mb 132) 9 = .ok (.ifCond .eq 10, 3))) rfl jx_hEq
  · exact fun d st M Q l0 l1 l2 l4 l5 l6 l7 l8 l9 x => jx_ev_st (jx_fok (by decide +kernel : decode (jx_mb 132) 12 = .ok (.iload_n 3, 1))) rfl rfl rfl
  · exact fun d lv M Q a0 => jx_ev_ci (jx_fok (by decide +kernel : decode (jx_mb 132) 13 = .ok (.invokestatic 86, 3))) rfl (jx_ccS (As := [.int a0]) (rest := []) rfl rfl rfl rfl rfl) (by decide)
  · exact fun d lv st M Q x => jx_k_b1n (jx_fok (by decide +kernel : decode (jx_mb 132) 16 = .ok (.ifCond .ne 5, 3))) rfl jx_hNe
  · exact fun d lv st M Q => jx_ev_st (jx_fok (by decide +kernel : decode (jx_mb 132) 19 = .ok (.iconst (-1), 1))) rfl rfl rfl
  · exact fun d lv M Q x => jx_k_ri (jx_fok (by decide +kernel : decode (jx_mb 132) 20 = .ok (.ireturn, 1))) rfl
  · exact fun d st M Q l1 l2 l3 l4 l5 l6 l7 l8 l9 x => jx_ev_st (jx_fok (by decide +kernel : decode (jx_mb 132) 21 = .ok (.aload_n 0, 1))) rfl rfl rfl
  · exact fun d lv st M Q => jx_k_gf (jx_fok (by decide +kernel : decode (jx_mb 132) 22 = .ok (.getfield 9, 3))) rfl rfl rfl
  · exact fun d st M Q l0 l2 l3 l4 l5 l6 l7 l8 l9 x => jx_ev_st (jx_fok (by decide +kernel : decode (jx_mb 132) 25 = .ok (.iload_n 1, 1))) rfl rfl rfl
  · exact fun d lv st M Q x a ha => jx_k_al (jx_fok (by decide +kernel : decode (jx_mb 132) 26 = .ok (.iaload, 1))) ha
  · exact fun d lv st M Q => jx_ev_st (jx_fok (by decide +kernel : decode (jx_mb 132) 27 = .ok (.bipush (-9), 2))) rfl rfl rfl
  · exact fun d lv st M Q x z => jx_k_b2 (jx_fok (by decide +kernel : decode (jx_mb 132) 29 = .ok (.if_icmp .eq 14, 3))) rfl jx_hEq
  · exact fun d st M Q l1 l2 l3 l4 l5 l6 l7 l8 l9 x => jx_ev_st (jx_fok (by decide +kernel : decode (jx_mb 132) 32 = .ok (.aload_n 0, 1))) rfl rfl rfl
  · exact fun d lv st M Q => jx_k_gf (jx_fok (by decide +kernel : decode (jx_mb 132) 33 = .ok (.getfield 9, 3))) rfl rfl rfl
  · exact fun d st M Q l0 l1 l2 l4 l5 l6 l7 l8 l9 x => jx_ev_st (jx_fok (by decide +kernel : decode (jx_mb 132) 36 = .ok (.iload_n 3, 1))) rfl rfl rfl
  · exact fun d lv st M Q x a ha => jx_k_al (jx_fok (by decide +kernel : decode (jx_mb 132) 37 = .ok (.iaload, 1))) ha
  · exact fun d lv st M Q => jx_ev_st (jx_fok (by decide +kernel : decode (jx_mb 132) 38 = .ok (.bipush (-9), 2))) rfl rfl rfl
  · exact fun d lv st M Q x z => jx_k_b2n (jx_fok (by decide +kernel : decode (jx_mb 132) 40 = .ok (.if_icmp .ne 9, 3))) rfl jx_hNe
  · exact fun d st M Q l1 l2 l3 l4 l5 l6 l7 l8 l9 x => jx_ev_st (jx_fok (by decide +kernel : decode (jx_mb 132) 43 = .ok (.aload_n 0, 1))) rfl rfl rfl
  · exact fun d lv st M Q => jx_ev_st (jx_fok (by decide +kernel : decode (jx_mb 132) 44 = .ok (.iconst 1, 1))) rfl rfl rfl
  · exact fun d lv M Q a0 => jx_ev_ci (jx_fok (by decide +kernel : decode (jx_mb 132) 45 = .ok (.invokevirtual 97, 3))) rfl (jx_ccV (As := [.int a0]) (rest := []) rfl rfl rfl rfl rfl rfl) (by decide)
  · exact fun d lv M Q x => jx_k_ri (jx_fok (by decide +kernel : decode (jx_mb 132) 48 = .ok (.ireturn, 1))) rfl
  · exact fun d st M Q l1 l2 l3 l4 l5 l6 l7 l8 l9 x => jx_ev_st (jx_fok (by decide +kernel : decode (jx_mb 132) 49 = .ok (.aload_n 0, 1))) rfl rfl rfl
  · exact fun d lv st M Q => jx_k_gf (jx_fok (by decide +kernel : decode (jx_mb 132) 50 = .ok (.getfield 9, 3))) rfl rfl rfl
  · exact fun d st M Q l0 l2 l3 l4 l5 l6 l7 l8 l9 x => jx_ev_st (jx_fok (by decide +kernel : decode (jx_mb 132) 53 = .ok (.iload_n 1, 1))) rfl rfl rfl
  · exact fun d lv st M Q x a ha => jx_k_al (jx_fok (by decide +kernel : decode (jx_mb 132) 54 = .ok (.iaload, 1))) ha
  · exact fun d st M Q l1 l2 l3 l4 l5 l6 l7 l8 l9 x => jx_ev_st (jx_fok (by decide +kernel : decode (jx_mb 132) 55 = .ok (.aload_n 0, 1))) rfl rfl rfl
  · exact fun d lv st M Q => jx_k_gf (jx_fok (by decide +kernel : decode (jx_mb 132) 56 = .ok (.getfield 9, 3))) rfl rfl rfl
  · exact fun d st M Q l0 l1 l2 l4 l5 l6 l7 l8 l9 x => jx_ev_st (jx_fok (by decide +kernel : decode (jx_mb 132) 59 = .ok (.iload_n 3, 1))) rfl rfl rfl
  · exact fun d lv st M Q x a ha => jx_k_al (jx_fok (by decide +kernel : decode (jx_mb 132) 60 = .ok (.iaload, 1))) ha
  · exact fun d lv st M Q x z => jx_k_b2 (jx_fok (by decide +kernel : decode (jx_mb 132) 61 = .ok (.if_icmp .eq 9, 3))) rfl jx_hEq
  · exact fun d st M Q l1 l2 l3 l4 l5 l6 l7 l8 l9 x => jx_ev_st (jx_fok (by decide +kernel : decode (jx_mb 132) 64 = .ok (.aload_n 0, 1))) rfl rfl rfl
  · exact fun d lv st M Q => jx_ev_st (jx_fok (by decide +kernel : decode (jx_mb 132) 65 = .ok (.iconst 2, 1))) rfl rfl rfl
  · exact fun d lv M Q a0 => jx_ev_ci (jx_fok (by decide +kernel : decode (jx_mb 132) 66 = .ok (.invokevirtual 97, 3))) rfl (jx_ccV (As := [.int a0]) (rest := []) rfl rfl rfl rfl rfl rfl) (by decide)
  · exact fun d lv M Q x => jx_k_ri (jx_fok (by decide +kernel : decode (jx_mb 132) 69 = .ok (.ireturn, 1))) rfl
  · exact fun d st M Q l0 l1 l3 l4 l5 l6 l7 l8 l9 x => jx_ev_st (jx_fok (by decide +kernel : decode (jx_mb 132) 70 = .ok (.iload_n 2, 1))) rfl rfl rfl
  · exact fun d lv st M Q x => jx_k_b1 (jx_fok (by decide +kernel : decode (jx_mb 132) 71 = .ok (.ifCond .lt 38, 3))) rfl jx_hLt
  · exact fun d st M Q l0 l1 l2 l3 l5 l6 l7 l8 l9 x => jx_ev_st (jx_fok (by decide +kernel : decode (jx_mb 132) 74 = .ok (.iload 4, 2))) rfl rfl rfl
  · exact fun d lv st M Q x => jx_k_b1 (jx_fok (by decide +kernel : decode (jx_mb 132) 76 = .ok (.ifCond .lt 33, 3))) rfl jx_hLt
  · exact fun d st M Q l0 l1 l2 l3 l4 l6 l7 l8 l9 x => jx_ev_st (jx_fok (by decide +kernel : decode (jx_mb 132) 79 = .ok (.iload 5, 2))) rfl rfl rfl
  · exact fun d lv st M Q x => jx_k_b1 (jx_fok (by decide +kernel : decode (jx_mb 132) 81 = .ok (.ifCond .lt 28, 3))) rfl jx_hLt
  · exact fun d st M Q l0 l1 l3 l4 l5 l6 l7 l8 l9 x => jx_ev_st (jx_fok (by decide +kernel : decode (jx_mb 132) 84 = .ok (.iload_n 2, 1))) rfl rfl rfl
  · exact fun d st M Q l1 l2 l3 l4 l5 l6 l7 l8 l9 x => jx_ev_st (jx_fok (by decide +kernel : decode (jx_mb 132) 85 = .ok (.aload_n 0, 1))) rfl rfl rfl
  · exact fun d lv st M Q => jx_k_gf (jx_fok (by decide +kernel : decode (jx_mb 132) 86 = .ok (.getfield 13, 3))) rfl rfl rfl
  · exact fun d st M Q l0 l2 l3 l4 l5 l6 l7 l8 l9 x => jx_ev_st (jx_fok (by decide +kernel : decode (jx_mb 132) 89 = .ok (.iload_n 1, 1))) rfl rfl rfl
  · exact fun d lv st M Q x a ha => jx_k_al (jx_fok (by decide +kernel : decode (jx_mb 132) 90 = .ok (.iaload, 1))) ha
  · exact fun d lv st M Q x z => jx_k_b2 (jx_fok (by decide +kernel : decode (jx_mb 132) 91 = .ok (.if_icmp .gt 18, 3))) rfl jx_hGt
  · exact fun d st M Q l0 l1 l2 l3 l5 l6 l7 l8 l9 x => jx_ev_st (jx_fok (by decide +kernel : decode (jx_mb 132) 94 = .ok (.iload 4, 2))) rfl rfl rfl
  · exact fun d st M Q l1 l2 l3 l4 l5 l6 l7 l8 l9 x => jx_ev_st (jx_fok (by decide +kernel : decode (jx_mb 132) 96 = .ok (.aload_n 0, 1))) rfl rfl rfl
  · exact fun d lv st M Q => jx_k_gf (jx_fok (by decide +kernel : decode (jx_mb 132) 97 = .ok (.getfield 13, 3))) rfl rfl rfl
  · exact fun d st M Q l0 l1 l2 l4 l5 l6 l7 l8 l9 x => jx_ev_st (jx_fok (by decide +kernel : decode (jx_mb 132) 100 = .ok (.iload_n 3, 1))) rfl rfl rfl
  · exact fun d lv st M Q x a ha => jx_k_al (jx_fok (by decide +kernel : decode (jx_mb 132) 101 = .ok (.iaload, 1))) ha
  · exact fun d lv st M Q x z => jx_k_b2 (jx_fok (by decide +kernel : decode (jx_mb 132) 102 = .ok (.if_icmp .gt 7, 3))) rfl jx_hGt
  · exact fun d lv st M Q => jx_ev_st (jx_fok (by decide +kernel : decode (jx_mb 132) 105 = .ok (.iconst 1, 1))) rfl rfl rfl
  · exact fun d lv st M Q => jx_k_goto (jx_fok (by decide +kernel : decode (jx_mb 132) 106 = .ok (.goto 4, 3))) rfl
  · exact fun d lv st M Q => jx_ev_st (jx_fok (by decide +kernel : decode (jx_mb 132) 109 = .ok (.iconst 0, 1))) rfl rfl rfl
  · exact fun d st M Q l0 l1 l2 l3 l4 l5 l6 l7 l8 l9 x => jx_ev_st (jx_fok (by decide +kernel : decode (jx_mb 132) 110 = .ok (.istore 6, 2))) rfl rfl rfl
  · exact fun d st M Q l0 l1 l2 l3 l4 l5 l7 l8 l9 x => jx_ev_st (jx_fok (by decide +kernel : decode (jx_mb 132) 112 = .ok (.iload 6, 2))) rfl rfl rfl
  · exact fun d lv st M Q x => jx_k_b1 (jx_fok (by decide +kernel : decode (jx_mb 132) 114 = .ok (.ifCond .eq 30, 3))) rfl jx_hEq
  · exact fun d st M Q l0 l1 l2 l3 l4 l6 l7 l8 l9 x => jx_ev_st (jx_fok (by decide +kernel : decode (jx_mb 132) 117 = .ok (.iload 5, 2))) rfl rfl rfl
  · exact fun d st M Q l1 l2 l3 l4 l5 l6 l7 l8 l9 x => jx_ev_st (jx_fok (by decide +kernel : decode (jx_mb 132) 119 = .ok (.aload_n 0, 1))) rfl rfl rfl
  · exact fun d lv st M Q => jx_k_gf (jx_fok (by decide +kernel : decode (jx_mb 132) 120 = .ok (.getfield 13, 3))) rfl rfl rfl
  · exact fun d st M Q l0 l2 l3 l4 l5 l6 l7 l8 l9 x => jx_ev_st (jx_fok (by decide +kernel : decode (jx_mb 132) 123 = .ok (.iload_n 1, 1))) rfl rfl rfl
  · exact fun d lv st M Q x a ha => jx_k_al (jx_fok (by decide +kernel : decode (jx_mb 132) 124 = .ok (.iaload, 1))) ha
  · exact fun d st M Q l0 l1 l3 l4 l5 l6 l7 l8 l9 x => jx_ev_st (jx_fok (by decide +kernel : decode (jx_mb 132) 125 = .ok (.iload_n 2, 1))) rfl rfl rfl
  · exact fun d lv st M Q x z => jx_ev_st (jx_fok (by decide +kernel : decode (jx_mb 132) 126 = .ok (.isub, 1))) rfl rfl rfl
  · exact fun d lv st M Q x z => jx_k_b2 (jx_fok (by decide +kernel : decode (jx_mb 132) 127 = .ok (.if_icmp .gt 17, 3))) rfl jx_hGt
  · exact fun d st M Q l0 l1 l2 l3 l4 l6 l7 l8 l9 x => jx_ev_st (jx_fok (by decide +kernel : decode (jx_mb 132) 130 = .ok (.iload 5, 2))) rfl rfl rfl
  · exact fun d st M Q l1 l2 l3 l4 l5 l6 l7 l8 l9 x => jx_ev_st (jx_fok (by decide +kernel : decode (jx_mb 132) 132 = .ok (.aload_n 0, 1))) rfl rfl rfl
  · exact fun d lv st M Q => jx_k_gf (jx_fok (by decide +kernel : decode (jx_mb 132) 133 = .ok (.getfield 13, 3))) rfl rfl rfl
  · exact fun d st M Q l0 l1 l2 l4 l5 l6 l7 l8 l9 x => jx_ev_st (jx_fok (by decide +kernel : decode (jx_mb 132) 136 = .ok (.iload_n 3, 1))) rfl rfl rfl
  · exact fun d lv st M Q x a ha => jx_k_al (jx_fok (by decide +kernel : decode (jx_mb 132) 137 = .ok (.iaload, 1))) ha
  · exact fun d st M Q l0 l1 l2 l3 l5 l6 l7 l8 l9 x => jx_ev_st (jx_fok (by decide +kernel : decode (jx_mb 132) 138 = .ok (.iload 4, 2))) rfl rfl rfl
  · exact fun d lv st M Q x z => jx_ev_st (jx_fok (by decide +kernel : decode (jx_mb 132) 140 = .ok (.isub, 1))) rfl rfl rfl
  · exact fun d lv st M Q x z => jx_k_b2 (jx_fok (by decide +kernel : decode (jx_mb 132) 141 = .ok (.if_icmp .le 9, 3))) rfl jx_hLe
  · exact fun d st M Q l1 l2 l3 l4 l5 l6 l7 l8 l9 x => jx_ev_st (jx_fok (by decide +kernel : decode (jx_mb 132) 144 = .ok (.aload_n 0, 1))) rfl rfl rfl
  · exact fun d lv st M Q => jx_ev_st (jx_fok (by decide +kernel : decode (jx_mb 132) 145 = .ok (.iconst 3, 1))) rfl rfl rfl
  · exact fun d lv M Q a0 => jx_ev_ci (jx_fok (by decide +kernel : decode (jx_mb 132) 146 = .ok (.invokevirtual 97, 3))) rfl (jx_ccV (As := [.int a0]) (rest := []) rfl rfl rfl rfl rfl rfl) (by decide)
  · exact fun d lv M Q x => jx_k_ri (jx_fok (by decide +kernel : decode (jx_mb 132) 149 = .ok (.ireturn, 1))) rfl
  · exact fun d st M Q l0 l1 l3 l4 l5 l6 l7 l8 l9 x => jx_ev_st (jx_fok (by decide +kernel : decode (jx_mb 132) 150 = .ok (.iload_n 2, 1))) rfl rfl rfl
  · exact fun d st M Q l0 l1 l2 l3 l5 l6 l7 l8 l9 x => jx_ev_st (jx_fok (by decide +kernel : decode (jx_mb 132) 151 = .ok (.iload 4, 2))) rfl rfl rfl
  · exact fun d lv st M Q x z => jx_k_b2 (jx_fok (by decide +kernel : decode (jx_mb 132) 153 = .ok (.if_icmp .ge 7, 3))) rfl jx_hGe
  · exact fun d lv st M Q => jx_ev_st (jx_fok (by decide +kernel : decode (jx_mb 132) 156 = .ok (.iconst 1, 1))) rfl rfl rfl
  · exact fun d lv st M Q => jx_k_goto (jx_fok (by decide +kernel : decode (jx_mb 132) 157 = .ok (.goto 4, 3))) rfl
  · exact fun d lv st M Q => jx_ev_st (jx_fok (by decide +kernel : decode (jx_mb 132) 160 = .ok (.iconst 0, 1))) rfl rfl rfl
  · exact fun d st M Q l0 l1 l2 l3 l4 l5 l6 l7 l8 l9 x => jx_ev_st (jx_fok (by decide +kernel : decode (jx_mb 132) 161 = .ok (.istore 7, 2))) rfl rfl rfl
  · exact fun d lv st M Q => jx_ev_st (jx_fok (by decide +kernel : decode (jx_mb 132) 163 = .ok (.iconst 0, 1))) rfl rfl rfl
  · exact fun d st M Q l0 l1 l2 l3 l4 l5 l6 l7 l8 l9 x => jx_ev_st (jx_fok (by decide +kernel : decode (jx_mb 132) 164 = .ok (.istore 8, 2))) rfl rfl rfl
  · exact fun d st M Q l0 l1 l2 l3 l4 l6 l7 l8 l9 x => jx_ev_st (jx_fok (by decide +kernel : decode (jx_mb 132) 168 = .ok (.iload 5, 2))) rfl rfl rfl
  · exact fun d lv st M Q x z => jx_k_b2 (jx_fok (by decide +kernel : decode (jx_mb 132) 170 = .ok (.if_icmp .ge 57, 3))) rfl jx_hGe
  · exact fun d st M Q l0 l1 l2 l3 l4 l5 l6 l8 l9 x => jx_ev_st (jx_fok (by decide +kernel : decode (jx_mb 132) 173 = .ok (.iload 7, 2))) rfl rfl rfl
  · exact fun d lv st M Q x => jx_k_b1 (jx_fok (by decide +kernel : decode (jx_mb 132) 175 = .ok (.ifCond .eq 13, 3))) rfl jx_hEq
  · exact fun d st M Q l0 l1 l2 l3 l4 l6 l7 l8 l9 x => jx_ev_st (jx_fok (by decide +kernel : decode (jx_mb 132) 178 = .ok (.iload 5, 2))) rfl rfl rfl
  · exact fun d lv st M Q => jx_ev_st (jx_fok (by decide +kernel : decode (jx_mb 132) 180 = .ok (.iconst 1, 1))) rfl rfl rfl
  · exact fun d lv st M Q x z => jx_ev_st (jx_fok (by decide +kernel : decode (jx_mb 132) 181 = .ok (.isub, 1))) rfl rfl rfl
  · exact fun d st M Q l0 l1 l2 l3 l4 l5 l6 l7 l9 x => jx_ev_st (jx_fok (by decide +kernel : decode (jx_mb 132) 182 = .ok (.iload 8, 2))) rfl rfl rfl
  · exact fun d lv st M Q x z => jx_ev_st (jx_fok (by decide +kernel : decode (jx_mb 132) 184 = .ok (.isub, 1))) rfl rfl rfl
  · exact fun d lv st M Q => jx_k_goto (jx_fok (by decide +kernel : decode (jx_mb 132) 185 = .ok (.goto 5, 3))) rfl
  · exact fun d st M Q l0 l1 l2 l3 l4 l5 l6 l7 l9 x => jx_ev_st (jx_fok (by decide +kernel : decode (jx_mb 132) 188 = .ok (.iload 8, 2))) rfl rfl rfl
  · exact fun d st M Q l0 l1 l2 l3 l4 l5 l6 l7 l8 l9 x => jx_ev_st (jx_fok (by decide +kernel : decode (jx_mb 132) 190 = .ok (.istore 9, 2))) rfl rfl rfl
  · exact fun d st M Q l1 l2 l3 l4 l5 l6 l7 l8 l9 x => jx_ev_st (jx_fok (by decide +kernel : decode (jx_mb 132) 192 = .ok (.aload_n 0, 1))) rfl rfl rfl
  · exact fun d lv st M Q => jx_k_gf (jx_fok (by decide +kernel : decode (jx_mb 132) 193 = .ok (.getfield 16, 3))) rfl rfl rfl
  · exact fun d lv st M Q => jx_ev_st (jx_fok (by decide +kernel : decode (jx_mb 132) 196 = .ok (.bipush 60, 2))) rfl rfl rfl
  · exact fun d st M Q l0 l1 l2 l4 l5 l6 l7 l8 l9 x => jx_ev_st (jx_fok (by decide +kernel : decode (jx_mb 132) 198 = .ok (.iload_n 3, 1))) rfl rfl rfl
  · exact fun d lv st M Q x z => jx_ev_st (jx_fok (by decide +kernel : decode (jx_mb 132) 199 = .ok (.imul, 1))) rfl rfl rfl
  · exact fun d st M Q l0 l1 l2 l3 l5 l6 l7 l8 l9 x => jx_ev_st (jx_fok (by decide +kernel : decode (jx_mb 132) 200 = .ok (.iload 4, 2))) rfl rfl rfl
  · exact fun d lv st M Q x z => jx_ev_st (jx_fok (by decide +kernel : decode (jx_mb 132) 202 = .ok (.iadd, 1))) rfl rfl rfl
  · exact fun d st M Q l0 l1 l2 l3 l4 l5 l6 l7 l8 x => jx_ev_st (jx_fok (by decide +kernel : decode (jx_mb 132) 203 = .ok (.iload 9, 2))) rfl rfl rfl
  · exact fun d lv st M Q x z => jx_ev_st (jx_fok (by decide +kernel : decode (jx_mb 132) 205 = .ok (.iadd, 1))) rfl rfl rfl
  · exact fun d st M Q l1 l2 l3 l4 l5 l6 l7 l8 l9 x => jx_ev_st (jx_fok (by decide +kernel : decode (jx_mb 132) 206 = .ok (.aload_n 0, 1))) rfl rfl rfl
  · exact fun d lv st M Q => jx_k_gf (jx_fok (by decide +kernel : decode (jx_mb 132) 207 = .ok (.getfield 16, 3))) rfl rfl rfl
  · exact fun d lv st M Q => jx_ev_st (jx_fok (by decide +kernel : decode (jx_mb 132) 210 = .ok (.bipush 60, 2))) rfl rfl rfl
  · exact fun d st M Q l0 l2 l3 l4 l5 l6 l7 l8 l9 x => jx_ev_st (jx_fok (by decide +kernel : decode (jx_mb 132) 212 = .ok (.iload_n 1, 1))) rfl rfl rfl
  · exact fun d lv st M Q x z => jx_ev_st (jx_fok (by decide +kernel : decode (jx_mb 132) 213 = .ok (.imul, 1))) rfl rfl rfl
  · exact fun d st M Q l0 l1 l3 l4 l5 l6 l7 l8 l9 x => jx_ev_st (jx_fok (by decide +kernel : decode (jx_mb 132) 214 = .ok (.iload_n 2, 1))) rfl rfl rfl
  · exact fun d lv st M Q x z => jx_ev_st (jx_fok (by decide +kernel : decode (jx_mb 132) 215 = .ok (.iadd, 1))) rfl rfl rfl
  · exact fun d st M Q l0 l1 l2 l3 l4 l5 l6 l7 l8 x => jx_ev_st (jx_fok (by decide +kernel : decode (jx_mb 132) 216 = .ok (.iload 9, 2))) rfl rfl rfl
  · exact fun d lv st M Q x z => jx_ev_st (jx_fok (by decide +kernel : decode (jx_mb 132) 218 = .ok (.iadd, 1))) rfl rfl rfl
  · exact fun d lv st M Q x a ha => jx_k_al (jx_fok (by decide +kernel : decode (jx_mb 132) 219 = .ok (.iaload, 1))) ha
  · exact fun d lv st M Q x z a ha => jx_k_as (jx_fok (by decide +kernel : decode (jx_mb 132) 220 = .ok (.iastore, 1))) ha
  · exact fun d st M Q l0 l1 l2 l3 l4 l5 l6 l7 l9 x => jx_ev_st (jx_fok (by decide +kernel : decode (jx_mb 132) 221 = .ok (.iinc 8 1, 3))) rfl rfl rfl
  · exact fun d lv st M Q => jx_k_goto (jx_fok (by decide +kernel : decode (jx_mb 132) 224 = .ok (.goto (-58), 3))) rfl
  · exact fun d st M Q l0 l1 l2 l3 l4 l6 l7 l8 l9 x => jx_ev_st (jx_fok (by decide +kernel : decode (jx_mb 132) 227 = .ok (.iload 5, 2))) rfl rfl rfl
  · exact fun d lv M Q x => jx_k_ri (jx_fok (by decide +kernel : decode (jx_mb 132) 229 = .ok (.ireturn, 1))) rfl
theorem eX8_copy_166 (d : Nat) (st : List Value) (M : jx_M) (Q : jx_Po) (l0 l1 l2 l3 l4 l5 l6 l7 l9 : Option Value) (x : Int32) : jx_Ev d 132 166 [l0, l1, l2, l3, l4, l5, l6, l7, some (.int x), l9] st M Q ↔ jx_Ev d 132 168 [l0, l1, l2, l3, l4, l5, l6, l7, some (.int x), l9] (.int x :: st) M Q := jx_ev_st (jx_fok (by decide +kernel : decode (jx_mb 132) 166 = .ok (.iload 8, 2))) rfl rfl rfl
theorem kX8_copy (d : Nat) (M : jx_M) (q : Int32 → jx_M → Prop) (a0 a1 a2 a3 a4 a5 : Value) : jx_I d 132 [a0, a1, a2, a3, a4, a5] M q ↔ jx_Ev d 132 0 [some a0, some a1, some a2, some a3, some a4, some a5, none, none, none, none] [] M (jx_qI q) := Iff.rfl
set_option maxRecDepth 100000 in
theorem eX8_begins :
  (∀ (d : Nat) (st : List Value) (M : jx_M) (Q : jx_Po) (l1 : Option Value) (x : Nat), jx_Ev d 133 0 [some (.ref x), l1] st M Q ↔ jx_Ev d 133 1 [some (.ref x), l1] (.ref x :: st) M Q) ∧
  (∀ (d : Nat) (lv : List (Option Value)) (st : List Value) (M : jx_M) (Q : jx_Po), jx_Ev d 133 1 lv st M Q ↔ jx_Ev d 133 3 lv (.int 31 :: st) M Q) ∧
  (∀ (d : Nat) (st : List Value) (M : jx_M) (Q : jx_Po) (l1 : Option Value) (x : Nat), jx_Ev d 133 3 [some (.ref x), l1] st M Q ↔ jx_Ev d 133 4 [some (.ref x), l1] (.ref x :: st) M Q) ∧
  (∀ (d : Nat) (lv : List (Option Value)) (st : List Value) (M : jx_M) (Q : jx_Po), jx_Ev d 133 4 lv (.ref 36 :: st) M Q ↔ jx_Ev d 133 7 lv (.int (M 36 1) :: st) M Q) ∧
  (∀ (d : Nat) (lv : List (Option Value)) (st : List Value) (M : jx_M) (Q : jx_Po) (x z : Int32), jx_Ev d 133 7 lv (.int z :: .int x :: st) M Q ↔ jx_Ev d 133 8 lv (.int (x * z) :: st) M Q) ∧
  (∀ (d : Nat) (st : List Value) (M : jx_M) (Q : jx_Po) (l0 : Option Value) (x : Int32), jx_Ev d 133 8 [l0, some (.int x)] st M Q ↔ jx_Ev d 133 9 [l0, some (.int x)] (.int x :: st) M Q) ∧
  (∀ (d : Nat) (lv : List (Option Value)) (st : List Value) (M : jx_M) (Q : jx_Po) (x z : Int32), jx_Ev d 133 9 lv (.int z :: .int x :: st) M Q ↔ jx_Ev d 133 10 lv (.int (x + z) :: st) M Q) ∧
  (∀ (d : Nat) (lv : List (Option Value)) (st : List Value) (M : jx_M) (Q : jx_Po) (x : Int32), jx_Ev d 133 10 lv (.int x :: .ref 36 :: st) M Q ↔ jx_Ev d 133 13 lv st (jx_up M 36 1 x) Q) ∧
  (∀ (d : Nat) (lv : List (Option Value)) (M : jx_M) (Q : jx_Po), jx_Ev d 133 13 lv [] M Q ↔ Q [] M) := by
  refine ⟨?_, ?_, ?_, ?_, ?_, ?_, ?_, ?_, ?_⟩
  · exact fun d st M Q l1 x => jx_ev_st (jx_fok (by decide +kernel : decode (jx_mb 133) 0 = .ok (.aload_n 0, 1))) rfl rfl rfl
  · exact fun d lv st M Q => jx_ev_st (jx_fok (by decide +kernel : decode (jx_mb 133) 1 = .ok (.bipush 31, 2))) rfl rfl rfl
  · exact fun d st M Q l1 x => jx_ev_st (jx_fok (by decide +kernel : decode (jx_mb 133) 3 = .ok (.aload_n 0, 1))) rfl rfl rfl
  · exact fun d lv st M Q => jx_k_gf (jx_fok (by decide +kernel : decode (jx_mb 133) 4 = .ok (.getfield 191, 3))) rfl rfl rfl
  · exact fun d lv st M Q x z => jx_ev_st (jx_fok (by decide +kernel : decode (jx_mb 133) 7 = .ok (.imul, 1))) rfl rfl rfl
  · exact fun d st M Q l0 x => jx_ev_st (jx_fok (by decide +kernel : decode (jx_mb 133) 8 = .ok (.iload_n 1, 1))) rfl rfl rfl
  · exact fun d lv st M Q x z => jx_ev_st (jx_fok (by decide +kernel : decode (jx_mb 133) 9 = .ok (.iadd, 1))) rfl rfl rfl
  · exact fun d lv st M Q x => jx_k_pf0 (jx_fok (by decide +kernel : decode (jx_mb 133) 10 = .ok (.putfield 191, 3))) rfl rfl rfl
  · exact fun d lv M Q => jx_k_rv (jx_fok (by decide +kernel : decode (jx_mb 133) 13 = .ok (.return_, 1))) rfl
theorem kX8_begins (d : Nat) (M : jx_M) (q : jx_M → Prop) (a0 a1 : Value) : jx_V d 133 [a0, a1] M q ↔ jx_Ev d 133 0 [some a0, some a1] [] M (jx_qV q) := Iff.rfl
set_option maxRecDepth 100000 in
theorem eX8_tell :
  (∀ (d : Nat) (st : List Value) (M : jx_M) (Q : jx_Po) (l1 l2 : Option Value) (x : Nat), jx_Ev d 134 0 [some (.ref x), l1, l2] st M Q ↔ jx_Ev d 134 1 [some (.ref x), l1, l2] (.ref x :: st) M Q) ∧
  (∀ (d : Nat) (st : List Value) (M : jx_M) (Q : jx_Po) (l0 l2 : Option Value) (x : Int32), jx_Ev d 134 1 [l0, some (.int x), l2] st M Q ↔ jx_Ev d 134 2 [l0, some (.int x), l2] (.int x :: st) M Q) ∧
  (∀ (d : Nat) (lv : List (Option Value)) (M : jx_M) (Q : jx_Po) (a0 : Int32), jx_Ev (d + 1) 134 2 lv [.int a0, .ref 36] M Q ↔ jx_I d 90 [.ref 36, .int a0] M (fun x M => jx_Ev (d + 1) 134 5 lv (.int x :: []) M Q)) ∧
  (∀ (d : Nat) (lv : List (Option Value)) (st : List Value) (M : jx_M) (Q : jx_Po) (x : Int32), jx_Ev d 134 5 lv (.int x :: st) M Q ↔ (if x = 0 then jx_Ev d 134 8 lv st M Q else jx_Ev d 134 10 lv st M Q)) ∧
  (∀ (d : Nat) (lv : List (Option Value)) (st : List Value) (M : jx_M) (Q : jx_Po), jx_Ev d 134 8 lv st M Q ↔ jx_Ev d 134 9 lv (.int (-1) :: st) M Q) ∧
  (∀ (d : Nat) (lv : List (Option Value)) (M : jx_M) (Q : jx_Po) (x : Int32), jx_Ev d 134 9 lv [.int x] M Q ↔ Q [.int x] M) ∧
  (∀ (d : Nat) (st : List Value) (M : jx_M) (Q : jx_Po) (l1 l2 : Option Value) (x : Nat), jx_Ev d 134 10 [some (.ref x), l1, l2] st M Q ↔ jx_Ev d 134 11 [some (.ref x), l1, l2] (.ref x :: st) M Q) ∧
  (∀ (d : Nat) (lv : List (Option Value)) (st : List Value) (M : jx_M) (Q : jx_Po), jx_Ev d 134 11 lv (.ref 36 :: st) M Q ↔ jx_Ev d 134 14 lv (.ref 43 :: st) M Q) ∧
  (∀ (d : Nat) (st : List Value) (M : jx_M) (Q : jx_Po) (l0 l2 : Option Value) (x : Int32), jx_Ev d 134 14 [l0, some (.int x), l2] st M Q ↔ jx_Ev d 134 15 [l0, some (.int x), l2] (.int x :: st) M Q) ∧
  (∀ (d : Nat) (lv : List (Option Value)) (st : List Value) (M : jx_M) (Q : jx_Po) (x : Int32) (a : Nat) (ha : jx_cl a = 9), jx_Ev d 134 15 lv (.int x :: .ref a :: st) M Q ↔ (vp_in x (jx_sz a) ∧ jx_Ev d 134 16 lv (.int (M a x.toNatClampNeg) :: st) M Q)) ∧
  (∀ (d : Nat) (st : List Value) (M : jx_M) (Q : jx_Po) (l0 l1 l2 : Option Value) (x : Int32), jx_Ev d 134 16 [l0, l1, l2] (.int x :: st) M Q ↔ jx_Ev d 134 17 [l0, l1, some (.int x)] st M Q) ∧
  (∀ (d : Nat) (st : List Value) (M : jx_M) (Q : jx_Po) (l1 l2 : Option Value) (x : Nat), jx_Ev d 134 17 [some (.ref x), l1, l2] st M Q ↔ jx_Ev d 134 18 [some (.ref x), l1, l2] (.ref x :: st) M Q) ∧
  (∀ (d : Nat) (lv : List (Option Value)) (st : List Value) (M : jx_M) (Q : jx_Po), jx_Ev d 134 18 lv (.ref 36 :: st) M Q ↔ jx_Ev d 134 21 lv (.ref 42 :: st) M Q) ∧
  (∀ (d : Nat) (st : List Value) (M : jx_M) (Q : jx_Po) (l0 l2 : Option Value) (x : Int32), jx_Ev d 134 21 [l0, some (.int x), l2] st M Q ↔ jx_Ev d 134 22 [l0, some (.int x), l2] (.int x :: st) M Q) ∧
  (∀ (d : Nat) (lv : List (Option Value)) (st : List Value) (M : jx_M) (Q : jx_Po) (x : Int32) (a : Nat) (ha : jx_cl a = 9), jx_Ev d 134 22 lv (.int x :: .ref a :: st) M Q ↔ (vp_in x (jx_sz a) ∧ jx_Ev d 134 23 lv (.int (M a x.toNatClampNeg) :: st) M Q)) ∧
  (∀ (d : Nat) (lv : List (Option Value)) (st : List Value) (M : jx_M) (Q : jx_Po) (x : Int32), jx_Ev d 134 23 lv (.int x :: st) M Q ↔ (if x = 1 then jx_Ev d 134 48 lv st M Q else if x = 2 then jx_Ev d 134 63 lv st M Q else jx_Ev d 134 90 lv st M Q)) ∧
  (∀ (d : Nat) (st : List Value) (M : jx_M) (Q : jx_Po) (l1 l2 : Option Value) (x : Nat), jx_Ev d 134 48 [some (.ref x), l1, l2] st M Q ↔ jx_Ev d 134 49 [some (.ref x), l1, l2] (.ref x :: st) M Q) ∧
  (∀ (d : Nat) (lv : List (Option Value)) (st : List Value) (M : jx_M) (Q : jx_Po), jx_Ev d 134 49 lv st M Q ↔ jx_Ev d 134 50 lv (.int 2 :: st) M Q) ∧
  (∀ (d : Nat) (lv : List (Option Value)) (M : jx_M) (Q : jx_Po) (a0 : Int32), jx_Ev (d + 1) 134 50 lv [.int a0, .ref 36] M Q ↔ jx_V d 133 [.ref 36, .int a0] M (fun M => jx_Ev (d + 1) 134 53 lv [] M Q)) ∧
  (∀ (d : Nat) (st : List Value) (M : jx_M) (Q : jx_Po) (l1 l2 : Option Value) (x : Nat), jx_Ev d 134 53 [some (.ref x), l1, l2] st M Q ↔ jx_Ev d 134 54 [some (.ref x), l1, l2] (.ref x :: st) M Q) ∧
  (∀ (d : Nat) (lv : List (Option Value)) (st : List Value) (M : jx_M) (Q : jx_Po), jx_Ev d 134 54 lv st M Q ↔ jx_Ev d 134 55 lv (.int 1 :: st) M Q) ∧
  (∀ (d : Nat) (lv : List (Option Value)) (M : jx_M) (Q : jx_Po) (a0 : Int32), jx_Ev (d + 1) 134 55 lv [.int a0, .ref 36] M Q ↔ jx_V d 133 [.ref 36, .int a0] M (fun M => jx_Ev (d + 1) 134 58 lv [] M Q)) ∧
  (∀ (d : Nat) (st : List Value) (M : jx_M) (Q : jx_Po) (l0 l1 : Option Value) (x : Int32), jx_Ev d 134 58 [l0, l1, some (.int x)] st M Q ↔ jx_Ev d 134 59 [l0, l1, some (.int x)] (.int x :: st) M Q) ∧
  (∀ (d : Nat) (lv : List (Option Value)) (st : List Value) (M : jx_M) (Q : jx_Po), jx_Ev d 134 59 lv st M Q ↔ jx_Ev d 134 61 lv (.int 100 :: st) M Q) ∧
  (∀ (d : Nat) (lv : List (Option Value)) (st : List Value) (M : jx_M) (Q : jx_Po) (x z : Int32), jx_Ev d 134 61 lv (.int z :: .int x :: st) M Q ↔ jx_Ev d 134 62 lv (.int (x + z) :: st) M Q) ∧
  (∀ (d : Nat) (lv : List (Option Value)) (M : jx_M) (Q : jx_Po) (x : Int32), jx_Ev d 134 62 lv [.int x] M Q ↔ Q [.int x] M) ∧
  (∀ (d : Nat) (st : List Value) (M : jx_M) (Q : jx_Po) (l1 l2 : Option Value) (x : Nat), jx_Ev d 134 63 [some (.ref x), l1, l2] st M Q ↔ jx_Ev d 134 64 [some (.ref x), l1, l2] (.ref x :: st) M Q) ∧
  (∀ (d : Nat) (lv : List (Option Value)) (st : List Value) (M : jx_M) (Q : jx_Po), jx_Ev d 134 64 lv st M Q ↔ jx_Ev d 134 65 lv (.int 3 :: st) M Q) ∧
  (∀ (d : Nat) (lv : List (Option Value)) (M : jx_M) (Q : jx_Po) (a0 : Int32), jx_Ev (d + 1) 134 65 lv [.int a0, .ref 36] M Q ↔ jx_V d 133 [.ref 36, .int a0] M (fun M => jx_Ev (d + 1) 134 68 lv [] M Q)) ∧
  (∀ (d : Nat) (st : List Value) (M : jx_M) (Q : jx_Po) (l1 l2 : Option Value) (x : Nat), jx_Ev d 134 68 [some (.ref x), l1, l2] st M Q ↔ jx_Ev d 134 69 [some (.ref x), l1, l2] (.ref x :: st) M Q) ∧
  (∀ (d : Nat) (lv : List (Option Value)) (st : List Value) (M : jx_M) (Q : jx_Po), jx_Ev d 134 69 lv st M Q ↔ jx_Ev d 134 70 lv (.int 2 :: st) M Q) ∧
  (∀ (d : Nat) (lv : List (Option Value)) (M : jx_M) (Q : jx_Po) (a0 : Int32), jx_Ev (d + 1) 134 70 lv [.int a0, .ref 36] M Q ↔ jx_V d 133 [.ref 36, .int a0] M (fun M => jx_Ev (d + 1) 134 73 lv [] M Q)) ∧
  (∀ (d : Nat) (st : List Value) (M : jx_M) (Q : jx_Po) (l1 l2 : Option Value) (x : Nat), jx_Ev d 134 73 [some (.ref x), l1, l2] st M Q ↔ jx_Ev d 134 74 [some (.ref x), l1, l2] (.ref x :: st) M Q) ∧
  (∀ (d : Nat) (lv : List (Option Value)) (st : List Value) (M : jx_M) (Q : jx_Po), jx_Ev d 134 74 lv st M Q ↔ jx_Ev d 134 75 lv (.int 1 :: st) M Q) ∧
  (∀ (d : Nat) (lv : List (Option Value)) (M : jx_M) (Q : jx_Po) (a0 : Int32), jx_Ev (d + 1) 134 75 lv [.int a0, .ref 36] M Q ↔ jx_V d 133 [.ref 36, .int a0] M (fun M => jx_Ev (d + 1) 134 78 lv [] M Q)) ∧
  (∀ (d : Nat) (st : List Value) (M : jx_M) (Q : jx_Po) (l1 l2 : Option Value) (x : Nat), jx_Ev d 134 78 [some (.ref x), l1, l2] st M Q ↔ jx_Ev d 134 79 [some (.ref x), l1, l2] (.ref x :: st) M Q) ∧
  (∀ (d : Nat) (lv : List (Option Value)) (st : List Value) (M : jx_M) (Q : jx_Po), jx_Ev d 134 79 lv st M Q ↔ jx_Ev d 134 80 lv (.int 1 :: st) M Q) ∧
  (∀ (d : Nat) (lv : List (Option Value)) (M : jx_M) (Q : jx_Po) (a0 : Int32), jx_Ev (d + 1) 134 80 lv [.int a0, .ref 36] M Q ↔ jx_V d 133 [.ref 36, .int a0] M (fun M => jx_Ev (d + 1) 134 83 lv [] M Q)) ∧
  (∀ (d : Nat) (lv : List (Option Value)) (st : List Value) (M : jx_M) (Q : jx_Po), jx_Ev d 134 83 lv st M Q ↔ jx_Ev d 134 84 lv (.int 2 :: st) M Q) ∧
  (∀ (d : Nat) (st : List Value) (M : jx_M) (Q : jx_Po) (l0 l1 : Option Value) (x : Int32), jx_Ev d 134 84 [l0, l1, some (.int x)] st M Q ↔ jx_Ev d 134 85 [l0, l1, some (.int x)] (.int x :: st) M Q) ∧
  (∀ (d : Nat) (lv : List (Option Value)) (st : List Value) (M : jx_M) (Q : jx_Po) (x z : Int32), jx_Ev d 134 85 lv (.int z :: .int x :: st) M Q ↔ jx_Ev d 134 86 lv (.int (x * z) :: st) M Q) ∧
  (∀ (d : Nat) (lv : List (Option Value)) (st : List Value) (M : jx_M) (Q : jx_Po), jx_Ev d 134 86 lv st M Q ↔ jx_Ev d 134 88 lv (.int 100 :: st) M Q) ∧
  (∀ (d : Nat) (lv : List (Option Value)) (st : List Value) (M : jx_M) (Q : jx_Po) (x z : Int32), jx_Ev d 134 88 lv (.int z :: .int x :: st) M Q ↔ jx_Ev d 134 89 lv (.int (x + z) :: st) M Q) ∧
  (∀ (d : Nat) (lv : List (Option Value)) (M : jx_M) (Q : jx_Po) (x : Int32), jx_Ev d 134 89 lv [.int x] M Q ↔ Q [.int x] M) ∧
  (∀ (d : Nat) (st : List Value) (M : jx_M) (Q : jx_Po) (l1 l2 : Option Value) (x : Nat), jx_Ev d 134 90 [some (.ref x), l1, l2] st M Q ↔ jx_Ev d 134 91 [some (.ref x), l1, l2] (.ref x :: st) M Q) ∧
  (∀ (d : Nat) (lv : List (Option Value)) (st : List Value) (M : jx_M) (Q : jx_Po), jx_Ev d 134 91 lv st M Q ↔ jx_Ev d 134 92 lv (.int 1 :: st) M Q) ∧
  (∀ (d : Nat) (lv : List (Option Value)) (M : jx_M) (Q : jx_Po) (a0 : Int32), jx_Ev (d + 1) 134 92 lv [.int a0, .ref 36] M Q ↔ jx_V d 133 [.ref 36, .int a0] M (fun M => jx_Ev (d + 1) 134 95 lv [] M Q)) ∧
  (∀ (d : Nat) (st : List Value) (M : jx_M) (Q : jx_Po) (l0 l1 : Option Value) (x : Int32), jx_Ev d 134 95 [l0, l1, some (.int x)] st M Q ↔ jx_Ev d 134 96 [l0, l1, some (.int x)] (.int x :: st) M Q) ∧
  (∀ (d : Nat) (lv : List (Option Value)) (M : jx_M) (Q : jx_Po) (x : Int32), jx_Ev d 134 96 lv [.int x] M Q ↔ Q [.int x] M) := by
  refine ⟨?_, ?_, ?_, ?_, ?_, ?_, ?_, ?_, ?_, ?_, ?_, ?_, ?_, ?_, ?_, ?_, ?_, ?_, ?_, ?_, ?_, ?_, ?_, ?_, ?_, ?_, ?_, ?_, ?_, ?_, ?_, ?_, ?_, ?_, ?_, ?_, ?_, ?_, ?_, ?_, ?_, ?_, ?_, ?_, ?_, ?_, ?_, ?_, ?_⟩
  · exact fun d st M Q l1 l2 x => jx_ev_st (jx_fok (by decide +kernel : decode (jx_mb 134) 0 = .ok (.aload_n 0, 1))) rfl rfl rfl
  · exact fun d st M Q l0 l2 x => jx_ev_st (jx_fok (by decide +kernel : decode (jx_mb 134) 1 = .ok (.iload_n 1, 1))) rfl rfl rfl
  · exact fun d lv M Q a0 => jx_ev_ci (jx_fok (by decide +kernel : decode (jx_mb 134) 2 = .ok (.invokevirtual 148, 3))) rfl (jx_ccV (As := [.int a0]) (rest := []) rfl rfl rfl rfl rfl rfl) (by decide)
  · exact fun d lv st M Q x => jx_k_b1n (jx_fok (by decide +kernel : decode (jx_mb 134) 5 = .ok (.ifCond .ne 5, 3))) rfl jx_hNe
  · exact fun d lv st M Q => jx_ev_st (jx_fok (by decide +kernel : decode (jx_mb 134) 8 = .ok (.iconst (-1), 1))) rfl rfl rfl
  · exact fun d lv M Q x => jx_k_ri (jx_fok (by decide +kernel : decode (jx_mb 134) 9 = .ok (.ireturn, 1))) rfl
  · exact fun d st M Q l1 l2 x => jx_ev_st (jx_fok (by decide +kernel : decode (jx_mb 134) 10 = .ok (.aload_n 0, 1))) rfl rfl rfl
  · exact fun d lv st M Q => jx_k_gf (jx_fok (by decide +kernel : decode (jx_mb 134) 11 = .ok (.getfield 28, 3))) rfl rfl rfl
  · exact fun d st M Q l0 l2 x => jx_ev_st (jx_fok (by decide +kernel : decode (jx_mb 134) 14 = .ok (.iload_n 1, 1))) rfl rfl rfl
  · exact fun d lv st M Q x a ha => jx_k_al (jx_fok (by decide +kernel : decode (jx_mb 134) 15 = .ok (.iaload, 1))) ha
  · exact fun d st M Q l0 l1 l2 x => jx_ev_st (jx_fok (by decide +kernel : decode (jx_mb 134) 16 = .ok (.istore_n 2, 1))) rfl rfl rfl
  · exact fun d st M Q l1 l2 x => jx_ev_st (jx_fok (by decide +kernel : decode (jx_mb 134) 17 = .ok (.aload_n 0, 1))) rfl rfl rfl
  · exact fun d lv st M Q => jx_k_gf (jx_fok (by decide +kernel : decode (jx_mb 134) 18 = .ok (.getfield 25, 3))) rfl rfl rfl
  · exact fun d st M Q l0 l2 x => jx_ev_st (jx_fok (by decide +kernel : decode (jx_mb 134) 21 = .ok (.iload_n 1, 1))) rfl rfl rfl
  · exact fun d lv st M Q x a ha => jx_k_al (jx_fok (by decide +kernel : decode (jx_mb 134) 22 = .ok (.iaload, 1))) ha
  · intro d lv st M Q x
    by_cases h0 : x = 1
    · subst h0; rw [if_pos rfl]; exact jx_k_lsw (jx_fok (by decide +kernel : decode (jx_mb 134) 23 = .ok (.lookupswitch 67 #[(1, 25), (2, 40)], 25))) (by decide) rfl
    rw [if_neg h0]
    by_cases h1 : x = 2
    · subst h1; rw [if_pos rfl]; exact jx_k_lsw (jx_fok (by decide +kernel : decode (jx_mb 134) 23 = .ok (.lookupswitch 67 #[(1, 25), (2, 40)], 25))) (by decide) rfl
    rw [if_neg h1]
    exact jx_k_lsw (jx_fok (by decide +kernel : decode (jx_mb 134) 23 = .ok (.lookupswitch 67 #[(1, 25), (2, 40)], 25))) (by decide) (by rw [show Op.lookupswitch.offset _ _ _ = _ from (lv_osw h0 (by decide)).trans ((lv_osw h1 (by decide)).trans rfl)]; rfl)
  · exact fun d st M Q l1 l2 x => jx_ev_st (jx_fok (by decide +kernel : decode (jx_mb 134) 48 = .ok (.aload_n 0, 1))) rfl rfl rfl
  · exact fun d lv st M Q => jx_ev_st (jx_fok (by decide +kernel : decode (jx_mb 134) 49 = .ok (.iconst 2, 1))) rfl rfl rfl
  · exact fun d lv M Q a0 => jx_ev_cv (jx_fok (by decide +kernel : decode (jx_mb 134) 50 = .ok (.invokevirtual 194, 3))) rfl (jx_ccV (As := [.int a0]) (rest := []) rfl rfl rfl rfl rfl rfl) rfl
  · exact fun d st M Q l1 l2 x => jx_ev_st (jx_fok (by decide +kernel : decode (jx_mb 134) 53 = .ok (.aload_n 0, 1))) rfl rfl rfl
  · exact fun d lv st M Q => jx_ev_st (jx_fok (by decide +kernel : decode (jx_mb 134) 54 = .ok (.iconst 1, 1))) rfl rfl rfl
  · exact fun d lv M Q a0 => jx_ev_cv (jx_fok (by decide +kernel : decode (jx_mb 134) 55 = .ok (.invokevirtual 194, 3))) rfl (jx_ccV (As := [.int a0]) (rest := []) rfl rfl rfl rfl rfl rfl) rfl
  · exact fun d st M Q l0 l1 x => jx_ev_st (jx_fok (by decide +kernel : decode (jx_mb 134) 58 = .ok (.iload_n 2, 1))) rfl rfl rfl
  · exact fun d lv st M Q => jx_ev_st (jx_fok (by decide +kernel : decode (jx_mb 134) 59 = .ok (.bipush 100, 2))) rfl rfl rfl
  · exact fun d lv st M Q x z => jx_ev_st (jx_fok (by decide +kernel : decode (jx_mb 134) 61 = .ok (.iadd, 1))) rfl rfl rfl
  · exact fun d lv M Q x => jx_k_ri (jx_fok (by decide +kernel : decode (jx_mb 134) 62 = .ok (.ireturn, 1))) rfl
  · exact fun d st M Q l1 l2 x => jx_ev_st (jx_fok (by decide +kernel : decode (jx_mb 134) 63 = .ok (.aload_n 0, 1))) rfl rfl rfl
  · exact fun d lv st M Q => jx_ev_st (jx_fok (by decide +kernel : decode (jx_mb 134) 64 = .ok (.iconst 3, 1))) rfl rfl rfl
  · exact fun d lv M Q a0 => jx_ev_cv (jx_fok (by decide +kernel : decode (jx_mb 134) 65 = .ok (.invokevirtual 194, 3))) rfl (jx_ccV (As := [.int a0]) (rest := []) rfl rfl rfl rfl rfl rfl) rfl
  · exact fun d st M Q l1 l2 x => jx_ev_st (jx_fok (by decide +kernel : decode (jx_mb 134) 68 = .ok (.aload_n 0, 1))) rfl rfl rfl
  · exact fun d lv st M Q => jx_ev_st (jx_fok (by decide +kernel : decode (jx_mb 134) 69 = .ok (.iconst 2, 1))) rfl rfl rfl
  · exact fun d lv M Q a0 => jx_ev_cv (jx_fok (by decide +kernel : decode (jx_mb 134) 70 = .ok (.invokevirtual 194, 3))) rfl (jx_ccV (As := [.int a0]) (rest := []) rfl rfl rfl rfl rfl rfl) rfl
  · exact fun d st M Q l1 l2 x => jx_ev_st (jx_fok (by decide +kernel : decode (jx_mb 134) 73 = .ok (.aload_n 0, 1))) rfl rfl rfl
  · exact fun d lv st M Q => jx_ev_st (jx_fok (by decide +kernel : decode (jx_mb 134) 74 = .ok (.iconst 1, 1))) rfl rfl rfl
  · exact fun d lv M Q a0 => jx_ev_cv (jx_fok (by decide +kernel : decode (jx_mb 134) 75 = .ok (.invokevirtual 194, 3))) rfl (jx_ccV (As := [.int a0]) (rest := []) rfl rfl rfl rfl rfl rfl) rfl
  · exact fun d st M Q l1 l2 x => jx_ev_st (jx_fok (by decide +kernel : decode (jx_mb 134) 78 = .ok (.aload_n 0, 1))) rfl rfl rfl
  · exact fun d lv st M Q => jx_ev_st (jx_fok (by decide +kernel : decode (jx_mb 134) 79 = .ok (.iconst 1, 1))) rfl rfl rfl
  · exact fun d lv M Q a0 => jx_ev_cv (jx_fok (by decide +kernel : decode (jx_mb 134) 80 = .ok (.invokevirtual 194, 3))) rfl (jx_ccV (As := [.int a0]) (rest := []) rfl rfl rfl rfl rfl rfl) rfl
  · exact fun d lv st M Q => jx_ev_st (jx_fok (by decide +kernel : decode (jx_mb 134) 83 = .ok (.iconst 2, 1))) rfl rfl rfl
  · exact fun d st M Q l0 l1 x => jx_ev_st (jx_fok (by decide +kernel : decode (jx_mb 134) 84 = .ok (.iload_n 2, 1))) rfl rfl rfl
  · exact fun d lv st M Q x z => jx_ev_st (jx_fok (by decide +kernel : decode (jx_mb 134) 85 = .ok (.imul, 1))) rfl rfl rfl
  · exact fun d lv st M Q => jx_ev_st (jx_fok (by decide +kernel : decode (jx_mb 134) 86 = .ok (.bipush 100, 2))) rfl rfl rfl
  · exact fun d lv st M Q x z => jx_ev_st (jx_fok (by decide +kernel : decode (jx_mb 134) 88 = .ok (.iadd, 1))) rfl rfl rfl
  · exact fun d lv M Q x => jx_k_ri (jx_fok (by decide +kernel : decode (jx_mb 134) 89 = .ok (.ireturn, 1))) rfl
  · exact fun d st M Q l1 l2 x => jx_ev_st (jx_fok (by decide +kernel : decode (jx_mb 134) 90 = .ok (.aload_n 0, 1))) rfl rfl rfl
  · exact fun d lv st M Q => jx_ev_st (jx_fok (by decide +kernel : decode (jx_mb 134) 91 = .ok (.iconst 1, 1))) rfl rfl rfl
  · exact fun d lv M Q a0 => jx_ev_cv (jx_fok (by decide +kernel : decode (jx_mb 134) 92 = .ok (.invokevirtual 194, 3))) rfl (jx_ccV (As := [.int a0]) (rest := []) rfl rfl rfl rfl rfl rfl) rfl
  · exact fun d st M Q l0 l1 x => jx_ev_st (jx_fok (by decide +kernel : decode (jx_mb 134) 95 = .ok (.iload_n 2, 1))) rfl rfl rfl
  · exact fun d lv M Q x => jx_k_ri (jx_fok (by decide +kernel : decode (jx_mb 134) 96 = .ok (.ireturn, 1))) rfl
theorem kX8_tell (d : Nat) (M : jx_M) (q : Int32 → jx_M → Prop) (a0 a1 : Value) : jx_I d 134 [a0, a1] M q ↔ jx_Ev d 134 0 [some a0, some a1, none] [] M (jx_qI q) := Iff.rfl
set_option maxRecDepth 100000 in
theorem eX8_cork :
  (∀ (d : Nat) (st : List Value) (M : jx_M) (Q : jx_Po) (l1 : Option Value) (x : Nat), jx_Ev d 135 0 [some (.ref x), l1] st M Q ↔ jx_Ev d 135 1 [some (.ref x), l1] (.ref x :: st) M Q) ∧
  (∀ (d : Nat) (st : List Value) (M : jx_M) (Q : jx_Po) (l0 : Option Value) (x : Int32), jx_Ev d 135 1 [l0, some (.int x)] st M Q ↔ jx_Ev d 135 2 [l0, some (.int x)] (.int x :: st) M Q) ∧
  (∀ (d : Nat) (lv : List (Option Value)) (M : jx_M) (Q : jx_Po) (a0 : Int32), jx_Ev (d + 1) 135 2 lv [.int a0, .ref 36] M Q ↔ jx_I d 90 [.ref 36, .int a0] M (fun x M => jx_Ev (d + 1) 135 5 lv (.int x :: []) M Q)) ∧
  (∀ (d : Nat) (lv : List (Option Value)) (st : List Value) (M : jx_M) (Q : jx_Po) (x : Int32), jx_Ev d 135 5 lv (.int x :: st) M Q ↔ (if x = 0 then jx_Ev d 135 8 lv st M Q else jx_Ev d 135 10 lv st M Q)) ∧
  (∀ (d : Nat) (lv : List (Option Value)) (st : List Value) (M : jx_M) (Q : jx_Po), jx_Ev d 135 8 lv st M Q ↔ jx_Ev d 135 9 lv (.int (-1) :: st) M Q) ∧
  (∀ (d : Nat) (lv : List (Option Value)) (M : jx_M) (Q : jx_Po) (x : Int32), jx_Ev d 135 9 lv [.int x] M Q ↔ Q [.int x] M) ∧
  (∀ (d : Nat) (st : List Value) (M : jx_M) (Q : jx_Po) (l1 : Option Value) (x : Nat), jx_Ev d 135 10 [some (.ref x), l1] st M Q ↔ jx_Ev d 135 11 [some (.ref x), l1] (.ref x :: st) M Q) ∧
  (∀ (d : Nat) (st : List Value) (M : jx_M) (Q : jx_Po) (l1 : Option Value) (x : Nat), jx_Ev d 135 11 [some (.ref x), l1] st M Q ↔ jx_Ev d 135 12 [some (.ref x), l1] (.ref x :: st) M Q) ∧
  (∀ (d : Nat) (lv : List (Option Value)) (st : List Value) (M : jx_M) (Q : jx_Po), jx_Ev d 135 12 lv (.ref 36 :: st) M Q ↔ jx_Ev d 135 15 lv (.ref 42 :: st) M Q) ∧
  (∀ (d : Nat) (st : List Value) (M : jx_M) (Q : jx_Po) (l0 : Option Value) (x : Int32), jx_Ev d 135 15 [l0, some (.int x)] st M Q ↔ jx_Ev d 135 16 [l0, some (.int x)] (.int x :: st) M Q) ∧
  (∀ (d : Nat) (lv : List (Option Value)) (st : List Value) (M : jx_M) (Q : jx_Po) (x : Int32) (a : Nat) (ha : jx_cl a = 9), jx_Ev d 135 16 lv (.int x :: .ref a :: st) M Q ↔ (vp_in x (jx_sz a) ∧ jx_Ev d 135 17 lv (.int (M a x.toNatClampNeg) :: st) M Q)) ∧
  (∀ (d : Nat) (lv : List (Option Value)) (st : List Value) (M : jx_M) (Q : jx_Po), jx_Ev d 135 17 lv st M Q ↔ jx_Ev d 135 18 lv (.int 2 :: st) M Q) ∧
  (∀ (d : Nat) (lv : List (Option Value)) (st : List Value) (M : jx_M) (Q : jx_Po) (x z : Int32), jx_Ev d 135 18 lv (.int z :: .int x :: st) M Q ↔ (if x = z then jx_Ev d 135 21 lv st M Q else jx_Ev d 135 25 lv st M Q)) ∧
  (∀ (d : Nat) (lv : List (Option Value)) (st : List Value) (M : jx_M) (Q : jx_Po), jx_Ev d 135 21 lv st M Q ↔ jx_Ev d 135 22 lv (.int 5 :: st) M Q) ∧
  (∀ (d : Nat) (lv : List (Option Value)) (st : List Value) (M : jx_M) (Q : jx_Po), jx_Ev d 135 22 lv st M Q ↔ jx_Ev d 135 26 lv st M Q) ∧
  (∀ (d : Nat) (lv : List (Option Value)) (st : List Value) (M : jx_M) (Q : jx_Po), jx_Ev d 135 25 lv st M Q ↔ jx_Ev d 135 26 lv (.int 4 :: st) M Q) ∧
  (∀ (d : Nat) (lv : List (Option Value)) (M : jx_M) (Q : jx_Po) (a0 : Int32), jx_Ev (d + 1) 135 26 lv [.int a0, .ref 36] M Q ↔ jx_V d 133 [.ref 36, .int a0] M (fun M => jx_Ev (d + 1) 135 29 lv [] M Q)) ∧
  (∀ (d : Nat) (st : List Value) (M : jx_M) (Q : jx_Po) (l1 : Option Value) (x : Nat), jx_Ev d 135 29 [some (.ref x), l1] st M Q ↔ jx_Ev d 135 30 [some (.ref x), l1] (.ref x :: st) M Q) ∧
  (∀ (d : Nat) (lv : List (Option Value)) (st : List Value) (M : jx_M) (Q : jx_Po), jx_Ev d 135 30 lv (.ref 36 :: st) M Q ↔ jx_Ev d 135 33 lv (.ref 42 :: st) M Q) ∧
  (∀ (d : Nat) (st : List Value) (M : jx_M) (Q : jx_Po) (l0 : Option Value) (x : Int32), jx_Ev d 135 33 [l0, some (.int x)] st M Q ↔ jx_Ev d 135 34 [l0, some (.int x)] (.int x :: st) M Q) ∧
  (∀ (d : Nat) (lv : List (Option Value)) (st : List Value) (M : jx_M) (Q : jx_Po) (x : Int32) (a : Nat) (ha : jx_cl a = 9), jx_Ev d 135 34 lv (.int x :: .ref a :: st) M Q ↔ (vp_in x (jx_sz a) ∧ jx_Ev d 135 35 lv (.int (M a x.toNatClampNeg) :: st) M Q)) ∧
  (∀ (d : Nat) (lv : List (Option Value)) (st : List Value) (M : jx_M) (Q : jx_Po), jx_Ev d 135 35 lv st M Q ↔ jx_Ev d 135 36 lv (.int 2 :: st) M Q) ∧
  (∀ (d : Nat) (lv : List (Option Value)) (st : List Value) (M : jx_M) (Q : jx_Po) (x z : Int32), jx_Ev d 135 36 lv (.int z :: .int x :: st) M Q ↔ (if x = z then jx_Ev d 135 39 lv st M Q else jx_Ev d 135 44 lv st M Q)) ∧
  (∀ (d : Nat) (lv : List (Option Value)) (st : List Value) (M : jx_M) (Q : jx_Po), jx_Ev d 135 39 lv st M Q ↔ jx_Ev d 135 41 lv (.int 60 :: st) M Q) ∧
  (∀ (d : Nat) (lv : List (Option Value)) (st : List Value) (M : jx_M) (Q : jx_Po), jx_Ev d 135 41 lv st M Q ↔ jx_Ev d 135 45 lv st M Q) ∧
  (∀ (d : Nat) (st : List Value) (M : jx_M) (Q : jx_Po) (l0 : Option Value) (x : Int32), jx_Ev d 135 44 [l0, some (.int x)] st M Q ↔ jx_Ev d 135 45 [l0, some (.int x)] (.int x :: st) M Q) ∧
  (∀ (d : Nat) (lv : List (Option Value)) (M : jx_M) (Q : jx_Po) (x : Int32), jx_Ev d 135 45 lv [.int x] M Q ↔ Q [.int x] M) := by
  refine ⟨?_, ?_, ?_, ?_, ?_, ?_, ?_, ?_, ?_, ?_, ?_, ?_, ?_, ?_, ?_, ?_, ?_, ?_, ?_, ?_, ?_, ?_, ?_, ?_, ?_, ?_, ?_⟩
  · exact fun d st M Q l1 x => jx_ev_st (jx_fok (by decide +kernel : decode (jx_mb 135) 0 = .ok (.aload_n 0, 1))) rfl rfl rfl
  · exact fun d st M Q l0 x => jx_ev_st (jx_fok (by decide +kernel : decode (jx_mb 135) 1 = .ok (.iload_n 1, 1))) rfl rfl rfl
  · exact fun d lv M Q a0 => jx_ev_ci (jx_fok (by decide +kernel : decode (jx_mb 135) 2 = .ok (.invokevirtual 148, 3))) rfl (jx_ccV (As := [.int a0]) (rest := []) rfl rfl rfl rfl rfl rfl) (by decide)
  · exact fun d lv st M Q x => jx_k_b1n (jx_fok (by decide +kernel : decode (jx_mb 135) 5 = .ok (.ifCond .ne 5, 3))) rfl jx_hNe
  · exact fun d lv st M Q => jx_ev_st (jx_fok (by decide +kernel : decode (jx_mb 135) 8 = .ok (.iconst (-1), 1))) rfl rfl rfl
  · exact fun d lv M Q x => jx_k_ri (jx_fok (by decide +kernel : decode (jx_mb 135) 9 = .ok (.ireturn, 1))) rfl
  · exact fun d st M Q l1 x => jx_ev_st (jx_fok (by decide +kernel : decode (jx_mb 135) 10 = .ok (.aload_n 0, 1))) rfl rfl rfl
  · exact fun d st M Q l1 x => jx_ev_st (jx_fok (by decide +kernel : decode (jx_mb 135) 11 = .ok (.aload_n 0, 1))) rfl rfl rfl
  · exact fun d lv st M Q => jx_k_gf (jx_fok (by decide +kernel : decode (jx_mb 135) 12 = .ok (.getfield 25, 3))) rfl rfl rfl
  · exact fun d st M Q l0 x => jx_ev_st (jx_fok (by decide +kernel : decode (jx_mb 135) 15 = .ok (.iload_n 1, 1))) rfl rfl rfl
  · exact fun d lv st M Q x a ha => jx_k_al (jx_fok (by decide +kernel : decode (jx_mb 135) 16 = .ok (.iaload, 1))) ha
  · exact fun d lv st M Q => jx_ev_st (jx_fok (by decide +kernel : decode (jx_mb 135) 17 = .ok (.iconst 2, 1))) rfl rfl rfl
  · exact fun d lv st M Q x z => jx_k_b2n (jx_fok (by decide +kernel : decode (jx_mb 135) 18 = .ok (.if_icmp .ne 7, 3))) rfl jx_hNe
  · exact fun d lv st M Q => jx_ev_st (jx_fok (by decide +kernel : decode (jx_mb 135) 21 = .ok (.iconst 5, 1))) rfl rfl rfl
  · exact fun d lv st M Q => jx_k_goto (jx_fok (by decide +kernel : decode (jx_mb 135) 22 = .ok (.goto 4, 3))) rfl
  · exact fun d lv st M Q => jx_ev_st (jx_fok (by decide +kernel : decode (jx_mb 135) 25 = .ok (.iconst 4, 1))) rfl rfl rfl
  · exact fun d lv M Q a0 => jx_ev_cv (jx_fok (by decide +kernel : decode (jx_mb 135) 26 = .ok (.invokevirtual 194, 3))) rfl (jx_ccV (As := [.int a0]) (rest := []) rfl rfl rfl rfl rfl rfl) rfl
  · exact fun d st M Q l1 x => jx_ev_st (jx_fok (by decide +kernel : decode (jx_mb 135) 29 = .ok (.aload_n 0, 1))) rfl rfl rfl
  · exact fun d lv st M Q => jx_k_gf (jx_fok (by decide +kernel : decode (jx_mb 135) 30 = .ok (.getfield 25, 3))) rfl rfl rfl
  · exact fun d st M Q l0 x => jx_ev_st (jx_fok (by decide +kernel : decode (jx_mb 135) 33 = .ok (.iload_n 1, 1))) rfl rfl rfl
  · exact fun d lv st M Q x a ha => jx_k_al (jx_fok (by decide +kernel : decode (jx_mb 135) 34 = .ok (.iaload, 1))) ha
  · exact fun d lv st M Q => jx_ev_st (jx_fok (by decide +kernel : decode (jx_mb 135) 35 = .ok (.iconst 2, 1))) rfl rfl rfl
  · exact fun d lv st M Q x z => jx_k_b2n (jx_fok (by decide +kernel : decode (jx_mb 135) 36 = .ok (.if_icmp .ne 8, 3))) rfl jx_hNe
  · exact fun d lv st M Q => jx_ev_st (jx_fok (by decide +kernel : decode (jx_mb 135) 39 = .ok (.bipush 60, 2))) rfl rfl rfl
  · exact fun d lv st M Q => jx_k_goto (jx_fok (by decide +kernel : decode (jx_mb 135) 41 = .ok (.goto 4, 3))) rfl
  · exact fun d st M Q l0 x => jx_ev_st (jx_fok (by decide +kernel : decode (jx_mb 135) 44 = .ok (.iload_n 1, 1))) rfl rfl rfl
  · exact fun d lv M Q x => jx_k_ri (jx_fok (by decide +kernel : decode (jx_mb 135) 45 = .ok (.ireturn, 1))) rfl
theorem kX8_cork (d : Nat) (M : jx_M) (q : Int32 → jx_M → Prop) (a0 a1 : Value) : jx_I d 135 [a0, a1] M q ↔ jx_Ev d 135 0 [some a0, some a1] [] M (jx_qI q) := Iff.rfl
set_option maxRecDepth 100000 in
theorem eX8_as :
  (∀ (d : Nat) (st : List Value) (M : jx_M) (Q : jx_Po) (l1 l2 : Option Value) (x : Nat), jx_Ev d 136 0 [some (.ref x), l1, l2] st M Q ↔ jx_Ev d 136 1 [some (.ref x), l1, l2] (.ref x :: st) M Q) ∧
  (∀ (d : Nat) (lv : List (Option Value)) (st : List Value) (M : jx_M) (Q : jx_Po), jx_Ev d 136 1 lv st M Q ↔ jx_Ev d 136 2 lv (.int 0 :: st) M Q) ∧
  (∀ (d : Nat) (lv : List (Option Value)) (st : List Value) (M : jx_M) (Q : jx_Po) (x : Int32), jx_Ev d 136 2 lv (.int x :: .ref 36 :: st) M Q ↔ jx_Ev d 136 5 lv st (jx_up M 36 0 x) Q) ∧
  (∀ (d : Nat) (st : List Value) (M : jx_M) (Q : jx_Po) (l1 l2 : Option Value) (x : Nat), jx_Ev d 136 5 [some (.ref x), l1, l2] st M Q ↔ jx_Ev d 136 6 [some (.ref x), l1, l2] (.ref x :: st) M Q) ∧
  (∀ (d : Nat) (st : List Value) (M : jx_M) (Q : jx_Po) (l0 l2 : Option Value) (x : Int32), jx_Ev d 136 6 [l0, some (.int x), l2] st M Q ↔ jx_Ev d 136 7 [l0, some (.int x), l2] (.int x :: st) M Q) ∧
  (∀ (d : Nat) (lv : List (Option Value)) (M : jx_M) (Q : jx_Po) (a0 : Int32), jx_Ev (d + 1) 136 7 lv [.int a0, .ref 36] M Q ↔ jx_I d 90 [.ref 36, .int a0] M (fun x M => jx_Ev (d + 1) 136 10 lv (.int x :: []) M Q)) ∧
  (∀ (d : Nat) (lv : List (Option Value)) (st : List Value) (M : jx_M) (Q : jx_Po) (x : Int32), jx_Ev d 136 10 lv (.int x :: st) M Q ↔ (if x = 0 then jx_Ev d 136 13 lv st M Q else jx_Ev d 136 15 lv st M Q)) ∧
  (∀ (d : Nat) (lv : List (Option Value)) (st : List Value) (M : jx_M) (Q : jx_Po), jx_Ev d 136 13 lv st M Q ↔ jx_Ev d 136 14 lv (.int (-1) :: st) M Q) ∧
  (∀ (d : Nat) (lv : List (Option Value)) (M : jx_M) (Q : jx_Po) (x : Int32), jx_Ev d 136 14 lv [.int x] M Q ↔ Q [.int x] M) ∧
  (∀ (d : Nat) (st : List Value) (M : jx_M) (Q : jx_Po) (l0 l1 : Option Value) (x : Int32), jx_Ev d 136 15 [l0, l1, some (.int x)] st M Q ↔ jx_Ev d 136 16 [l0, l1, some (.int x)] (.int x :: st) M Q) ∧
  (∀ (d : Nat) (lv : List (Option Value)) (st : List Value) (M : jx_M) (Q : jx_Po), jx_Ev d 136 16 lv st M Q ↔ jx_Ev d 136 17 lv (.int 0 :: st) M Q) ∧
  (∀ (d : Nat) (lv : List (Option Value)) (st : List Value) (M : jx_M) (Q : jx_Po), jx_Ev d 136 17 lv st M Q ↔ jx_Ev d 136 18 lv (.int 2 :: st) M Q) ∧
  (∀ (d : Nat) (lv : List (Option Value)) (M : jx_M) (Q : jx_Po) (a0 : Int32) (a1 : Int32) (a2 : Int32), jx_Ev (d + 1) 136 18 lv [.int a0, .int a1, .int a2] M Q ↔ jx_I d 85 [.int a2, .int a1, .int a0] M (fun x M => jx_Ev (d + 1) 136 21 lv (.int x :: []) M Q)) ∧
  (∀ (d : Nat) (lv : List (Option Value)) (st : List Value) (M : jx_M) (Q : jx_Po) (x : Int32), jx_Ev d 136 21 lv (.int x :: st) M Q ↔ (if x = 0 then jx_Ev d 136 24 lv st M Q else jx_Ev d 136 27 lv st M Q)) ∧
  (∀ (d : Nat) (lv : List (Option Value)) (st : List Value) (M : jx_M) (Q : jx_Po), jx_Ev d 136 24 lv st M Q ↔ jx_Ev d 136 26 lv (.int (-2) :: st) M Q) ∧
  (∀ (d : Nat) (lv : List (Option Value)) (M : jx_M) (Q : jx_Po) (x : Int32), jx_Ev d 136 26 lv [.int x] M Q ↔ Q [.int x] M) ∧
  (∀ (d : Nat) (st : List Value) (M : jx_M) (Q : jx_Po) (l1 l2 : Option Value) (x : Nat), jx_Ev d 136 27 [some (.ref x), l1, l2] st M Q ↔ jx_Ev d 136 28 [some (.ref x), l1, l2] (.ref x :: st) M Q) ∧
  (∀ (d : Nat) (lv : List (Option Value)) (st : List Value) (M : jx_M) (Q : jx_Po), jx_Ev d 136 28 lv (.ref 36 :: st) M Q ↔ jx_Ev d 136 31 lv (.ref 42 :: st) M Q) ∧
  (∀ (d : Nat) (st : List Value) (M : jx_M) (Q : jx_Po) (l0 l2 : Option Value) (x : Int32), jx_Ev d 136 31 [l0, some (.int x), l2] st M Q ↔ jx_Ev d 136 32 [l0, some (.int x), l2] (.int x :: st) M Q) ∧
  (∀ (d : Nat) (lv : List (Option Value)) (st : List Value) (M : jx_M) (Q : jx_Po) (x : Int32) (a : Nat) (ha : jx_cl a = 9), jx_Ev d 136 32 lv (.int x :: .ref a :: st) M Q ↔ (vp_in x (jx_sz a) ∧ jx_Ev d 136 33 lv (.int (M a x.toNatClampNeg) :: st) M Q)) ∧
  (∀ (d : Nat) (st : List Value) (M : jx_M) (Q : jx_Po) (l0 l1 : Option Value) (x : Int32), jx_Ev d 136 33 [l0, l1, some (.int x)] st M Q ↔ jx_Ev d 136 34 [l0, l1, some (.int x)] (.int x :: st) M Q) ∧
  (∀ (d : Nat) (lv : List (Option Value)) (st : List Value) (M : jx_M) (Q : jx_Po) (x z : Int32), jx_Ev d 136 34 lv (.int z :: .int x :: st) M Q ↔ (if x < z then jx_Ev d 136 41 lv st M Q else jx_Ev d 136 37 lv st M Q)) ∧
  (∀ (d : Nat) (lv : List (Option Value)) (st : List Value) (M : jx_M) (Q : jx_Po), jx_Ev d 136 37 lv st M Q ↔ jx_Ev d 136 38 lv (.int 1 :: st) M Q) ∧
  (∀ (d : Nat) (lv : List (Option Value)) (st : List Value) (M : jx_M) (Q : jx_Po), jx_Ev d 136 38 lv st M Q ↔ jx_Ev d 136 46 lv st M Q) ∧
  (∀ (d : Nat) (st : List Value) (M : jx_M) (Q : jx_Po) (l1 l2 : Option Value) (x : Nat), jx_Ev d 136 41 [some (.ref x), l1, l2] st M Q ↔ jx_Ev d 136 42 [some (.ref x), l1, l2] (.ref x :: st) M Q) ∧
  (∀ (d : Nat) (lv : List (Option Value)) (st : List Value) (M : jx_M) (Q : jx_Po), jx_Ev d 136 42 lv st M Q ↔ jx_Ev d 136 43 lv (.int 2 :: st) M Q) ∧
  (∀ (d : Nat) (lv : List (Option Value)) (M : jx_M) (Q : jx_Po) (a0 : Int32), jx_Ev (d + 1) 136 43 lv [.int a0, .ref 36] M Q ↔ jx_I d 83 [.ref 36, .int a0] M (fun x M => jx_Ev (d + 1) 136 46 lv (.int x :: []) M Q)) ∧
  (∀ (d : Nat) (lv : List (Option Value)) (M : jx_M) (Q : jx_Po) (x : Int32), jx_Ev d 136 46 lv [.int x] M Q ↔ Q [.int x] M) := by
  refine ⟨?_, ?_, ?_, ?_, ?_, ?_, ?_, ?_, ?_, ?_, ?_, ?_, ?_, ?_, ?_, ?_, ?_, ?_, ?_, ?_, ?_, ?_, ?_, ?_, ?_, ?_, ?_, ?_⟩
  · exact fun d st M Q l1 l2 x => jx_ev_st (jx_fok (by decide +kernel : decode (jx_mb 136) 0 = .ok (.aload_n 0, 1))) rfl rfl rfl
  · exact fun d lv st M Q => jx_ev_st (jx_fok (by decide +kernel : decode (jx_mb 136) 1 = .ok (.iconst 0, 1))) rfl rfl rfl
  · exact fun d lv st M Q x => jx_k_pf0 (jx_fok (by decide +kernel : decode (jx_mb 136) 2 = .ok (.putfield 67, 3))) rfl rfl rfl
  · exact fun d st M Q l1 l2 x => jx_ev_st (jx_fok (by decide +kernel : decode (jx_mb 136) 5 = .ok (.aload_n 0, 1))) rfl rfl rfl
  · exact fun d st M Q l0 l2 x => jx_ev_st (jx_fok (by decide +kernel : decode (jx_mb 136) 6 = .ok (.iload_n 1, 1))) rfl rfl rfl
  · exact fun d lv M Q a0 => jx_ev_ci (jx_fok (by decide +kernel : decode (jx_mb 136) 7 = .ok (.invokevirtual 148, 3))) rfl (jx_ccV (As := [.int a0]) (rest := []) rfl rfl rfl rfl rfl rfl) (by decide)
  · exact fun d lv st M Q x => jx_k_b1n (jx_fok (by decide +kernel : decode (jx_mb 136) 10 = .ok (.ifCond .ne 5, 3))) rfl jx_hNe
  · exact fun d lv st M Q => jx_ev_st (jx_fok (by decide +kernel : decode (jx_mb 136) 13 = .ok (.iconst (-1), 1))) rfl rfl rfl
  · exact fun d lv M Q x => jx_k_ri (jx_fok (by decide +kernel : decode (jx_mb 136) 14 = .ok (.ireturn, 1))) rfl
  · exact fun d st M Q l0 l1 x => jx_ev_st (jx_fok (by decide +kernel : decode (jx_mb 136) 15 = .ok (.iload_n 2, 1))) rfl rfl rfl
  · exact fun d lv st M Q => jx_ev_st (jx_fok (by decide +kernel : decode (jx_mb 136) 16 = .ok (.iconst 0, 1))) rfl rfl rfl
  · exact fun d lv st M Q => jx_ev_st (jx_fok (by decide +kernel : decode (jx_mb 136) 17 = .ok (.iconst 2, 1))) rfl rfl rfl
  · exact fun d lv M Q a0 a1 a2 => jx_ev_ci (jx_fok (by decide +kernel : decode (jx_mb 136) 18 = .ok (.invokestatic 73, 3))) rfl (jx_ccS (As := [.int a2, .int a1, .int a0]) (rest := []) rfl rfl rfl rfl rfl) (by decide)
  · exact fun d lv st M Q x => jx_k_b1n (jx_fok (by decide +kernel : decode (jx_mb 136) 21 = .ok (.ifCond .ne 6, 3))) rfl jx_hNe
  · exact fun d lv st M Q => jx_ev_st (jx_fok (by decide +kernel : decode (jx_mb 136) 24 = .ok (.bipush (-2), 2))) rfl rfl rfl
  · exact fun d lv M Q x => jx_k_ri (jx_fok (by decide +kernel : decode (jx_mb 136) 26 = .ok (.ireturn, 1))) rfl
  · exact fun d st M Q l1 l2 x => jx_ev_st (jx_fok (by decide +kernel : decode (jx_mb 136) 27 = .ok (.aload_n 0, 1))) rfl rfl rfl
  · exact fun d lv st M Q => jx_k_gf (jx_fok (by decide +kernel : decode (jx_mb 136) 28 = .ok (.getfield 25, 3))) rfl rfl rfl
  · exact fun d st M Q l0 l2 x => jx_ev_st (jx_fok (by decide +kernel : decode (jx_mb 136) 31 = .ok (.iload_n 1, 1))) rfl rfl rfl
  · exact fun d lv st M Q x a ha => jx_k_al (jx_fok (by decide +kernel : decode (jx_mb 136) 32 = .ok (.iaload, 1))) ha
  · exact fun d st M Q l0 l1 x => jx_ev_st (jx_fok (by decide +kernel : decode (jx_mb 136) 33 = .ok (.iload_n 2, 1))) rfl rfl rfl
  · exact fun d lv st M Q x z => jx_k_b2 (jx_fok (by decide +kernel : decode (jx_mb 136) 34 = .ok (.if_icmp .lt 7, 3))) rfl jx_hLt
  · exact fun d lv st M Q => jx_ev_st (jx_fok (by decide +kernel : decode (jx_mb 136) 37 = .ok (.iconst 1, 1))) rfl rfl rfl
  · exact fun d lv st M Q => jx_k_goto (jx_fok (by decide +kernel : decode (jx_mb 136) 38 = .ok (.goto 8, 3))) rfl
  · exact fun d st M Q l1 l2 x => jx_ev_st (jx_fok (by decide +kernel : decode (jx_mb 136) 41 = .ok (.aload_n 0, 1))) rfl rfl rfl
  · exact fun d lv st M Q => jx_ev_st (jx_fok (by decide +kernel : decode (jx_mb 136) 42 = .ok (.iconst 2, 1))) rfl rfl rfl
  · exact fun d lv M Q a0 => jx_ev_ci (jx_fok (by decide +kernel : decode (jx_mb 136) 43 = .ok (.invokevirtual 97, 3))) rfl (jx_ccV (As := [.int a0]) (rest := []) rfl rfl rfl rfl rfl rfl) (by decide)
  · exact fun d lv M Q x => jx_k_ri (jx_fok (by decide +kernel : decode (jx_mb 136) 46 = .ok (.ireturn, 1))) rfl
theorem kX8_as (d : Nat) (M : jx_M) (q : Int32 → jx_M → Prop) (a0 a1 a2 : Value) : jx_I d 136 [a0, a1, a2] M q ↔ jx_Ev d 136 0 [some a0, some a1, some a2] [] M (jx_qI q) := Iff.rfl
set_option maxRecDepth 100000 in
theorem eX8_trace :
  (∀ (d : Nat) (st : List Value) (M : jx_M) (Q : jx_Po) (x : Nat), jx_Ev d 137 0 [some (.ref x)] st M Q ↔ jx_Ev d 137 1 [some (.ref x)] (.ref x :: st) M Q) ∧
  (∀ (d : Nat) (lv : List (Option Value)) (st : List Value) (M : jx_M) (Q : jx_Po), jx_Ev d 137 1 lv (.ref 36 :: st) M Q ↔ jx_Ev d 137 4 lv (.int (M 36 1) :: st) M Q) ∧
  (∀ (d : Nat) (lv : List (Option Value)) (M : jx_M) (Q : jx_Po) (x : Int32), jx_Ev d 137 4 lv [.int x] M Q ↔ Q [.int x] M) := by
  refine ⟨?_, ?_, ?_⟩
  · exact fun d st M Q x => jx_ev_st (jx_fok (by decide +kernel : decode (jx_mb 137) 0 = .ok (.aload_n 0, 1))) rfl rfl rfl
  · exact fun d lv st M Q => jx_k_gf (jx_fok (by decide +kernel : decode (jx_mb 137) 1 = .ok (.getfield 191, 3))) rfl rfl rfl
  · exact fun d lv M Q x => jx_k_ri (jx_fok (by decide +kernel : decode (jx_mb 137) 4 = .ok (.ireturn, 1))) rfl
theorem kX8_trace (d : Nat) (M : jx_M) (q : Int32 → jx_M → Prop) (a0 : Value) : jx_I d 137 [a0] M q ↔ jx_Ev d 137 0 [some a0] [] M (jx_qI q) := Iff.rfl
set_option maxRecDepth 100000 in
theorem eX8_fault :
  (∀ (d : Nat) (st : List Value) (M : jx_M) (Q : jx_Po) (x : Nat), jx_Ev d 138 0 [some (.ref x)] st M Q ↔ jx_Ev d 138 1 [some (.ref x)] (.ref x :: st) M Q) ∧
  (∀ (d : Nat) (lv : List (Option Value)) (st : List Value) (M : jx_M) (Q : jx_Po), jx_Ev d 138 1 lv (.ref 36 :: st) M Q ↔ jx_Ev d 138 4 lv (.int (M 36 0) :: st) M Q) ∧
  (∀ (d : Nat) (lv : List (Option Value)) (M : jx_M) (Q : jx_Po) (x : Int32), jx_Ev d 138 4 lv [.int x] M Q ↔ Q [.int x] M) := by
  refine ⟨?_, ?_, ?_⟩
  · exact fun d st M Q x => jx_ev_st (jx_fok (by decide +kernel : decode (jx_mb 138) 0 = .ok (.aload_n 0, 1))) rfl rfl rfl
  · exact fun d lv st M Q => jx_k_gf (jx_fok (by decide +kernel : decode (jx_mb 138) 1 = .ok (.getfield 67, 3))) rfl rfl rfl
  · exact fun d lv M Q x => jx_k_ri (jx_fok (by decide +kernel : decode (jx_mb 138) 4 = .ok (.ireturn, 1))) rfl
theorem kX8_fault (d : Nat) (M : jx_M) (q : Int32 → jx_M → Prop) (a0 : Value) : jx_I d 138 [a0] M q ↔ jx_Ev d 138 0 [some a0] [] M (jx_qI q) := Iff.rfl
set_option maxRecDepth 100000 in
theorem eX8_many :
  (∀ (d : Nat) (st : List Value) (M : jx_M) (Q : jx_Po) (l0 : Option Value) (x : Int32), jx_Ev d 139 0 [l0, some (.int x)] st M Q ↔ jx_Ev d 139 1 [l0, some (.int x)] (.int x :: st) M Q) ∧
  (∀ (d : Nat) (lv : List (Option Value)) (st : List Value) (M : jx_M) (Q : jx_Po) (x : Int32), jx_Ev d 139 1 lv (.int x :: st) M Q ↔ (if x = 0 then jx_Ev d 139 36 lv st M Q else if x = 1 then jx_Ev d 139 41 lv st M Q else if x = 2 then jx_Ev d 139 46 lv st M Q else if x = 3 then jx_Ev d 139 51 lv st M Q else if x = 4 then jx_Ev d 139 56 lv st M Q else jx_Ev d 139 61 lv st M Q)) ∧
  (∀ (d : Nat) (st : List Value) (M : jx_M) (Q : jx_Po) (l1 : Option Value) (x : Nat), jx_Ev d 139 36 [some (.ref x), l1] st M Q ↔ jx_Ev d 139 37 [some (.ref x), l1] (.ref x :: st) M Q) ∧
  (∀ (d : Nat) (lv : List (Option Value)) (st : List Value) (M : jx_M) (Q : jx_Po), jx_Ev d 139 37 lv (.ref 36 :: st) M Q ↔ jx_Ev d 139 40 lv (.int (M 36 6) :: st) M Q) ∧
  (∀ (d : Nat) (lv : List (Option Value)) (M : jx_M) (Q : jx_Po) (x : Int32), jx_Ev d 139 40 lv [.int x] M Q ↔ Q [.int x] M) ∧
  (∀ (d : Nat) (st : List Value) (M : jx_M) (Q : jx_Po) (l1 : Option Value) (x : Nat), jx_Ev d 139 41 [some (.ref x), l1] st M Q ↔ jx_Ev d 139 42 [some (.ref x), l1] (.ref x :: st) M Q) ∧
  (∀ (d : Nat) (lv : List (Option Value)) (st : List Value) (M : jx_M) (Q : jx_Po), jx_Ev d 139 42 lv (.ref 36 :: st) M Q ↔ jx_Ev d 139 45 lv (.int (M 36 5) :: st) M Q) ∧
  (∀ (d : Nat) (lv : List (Option Value)) (M : jx_M) (Q : jx_Po) (x : Int32), jx_Ev d 139 45 lv [.int x] M Q ↔ Q [.int x] M) ∧
  (∀ (d : Nat) (st : List Value) (M : jx_M) (Q : jx_Po) (l1 : Option Value) (x : Nat), jx_Ev d 139 46 [some (.ref x), l1] st M Q ↔ jx_Ev d 139 47 [some (.ref x), l1] (.ref x :: st) M Q) ∧
  (∀ (d : Nat) (lv : List (Option Value)) (st : List Value) (M : jx_M) (Q : jx_Po), jx_Ev d 139 47 lv (.ref 36 :: st) M Q ↔ jx_Ev d 139 50 lv (.int (M 36 7) :: st) M Q) ∧
  (∀ (d : Nat) (lv : List (Option Value)) (M : jx_M) (Q : jx_Po) (x : Int32), jx_Ev d 139 50 lv [.int x] M Q ↔ Q [.int x] M) ∧
  (∀ (d : Nat) (st : List Value) (M : jx_M) (Q : jx_Po) (l1 : Option Value) (x : Nat), jx_Ev d 139 51 [some (.ref x), l1] st M Q ↔ jx_Ev d 139 52 [some (.ref x), l1] (.ref x :: st) M Q) ∧
  (∀ (d : Nat) (lv : List (Option Value)) (st : List Value) (M : jx_M) (Q : jx_Po), jx_Ev d 139 52 lv (.ref 36 :: st) M Q ↔ jx_Ev d 139 55 lv (.int (M 36 8) :: st) M Q) ∧
  (∀ (d : Nat) (lv : List (Option Value)) (M : jx_M) (Q : jx_Po) (x : Int32), jx_Ev d 139 55 lv [.int x] M Q ↔ Q [.int x] M) ∧
  (∀ (d : Nat) (st : List Value) (M : jx_M) (Q : jx_Po) (l1 : Option Value) (x : Nat), jx_Ev d 139 56 [some (.ref x), l1] st M Q ↔ jx_Ev d 139 57 [some (.ref x), l1] (.ref x :: st) M Q) ∧
  (∀ (d : Nat) (lv : List (Option Value)) (st : List Value) (M : jx_M) (Q : jx_Po), jx_Ev d 139 57 lv (.ref 36 :: st) M Q ↔ jx_Ev d 139 60 lv (.int (M 36 27) :: st) M Q) ∧
  (∀ (d : Nat) (lv : List (Option Value)) (M : jx_M) (Q : jx_Po) (x : Int32), jx_Ev d 139 60 lv [.int x] M Q ↔ Q [.int x] M) ∧
  (∀ (d : Nat) (lv : List (Option Value)) (st : List Value) (M : jx_M) (Q : jx_Po), jx_Ev d 139 61 lv st M Q ↔ jx_Ev d 139 63 lv (.int (-2) :: st) M Q) ∧
  (∀ (d : Nat) (lv : List (Option Value)) (M : jx_M) (Q : jx_Po) (x : Int32), jx_Ev d 139 63 lv [.int x] M Q ↔ Q [.int x] M) := by
  refine ⟨?_, ?_, ?_, ?_, ?_, ?_, ?_, ?_, ?_, ?_, ?_, ?_, ?_, ?_, ?_, ?_, ?_, ?_, ?_⟩
  · exact fun d st M Q l0 x => jx_ev_st (jx_fok (by decide +kernel : decode (jx_mb 139) 0 = .ok (.iload_n 1, 1))) rfl rfl rfl
  · intro d lv st M Q x
    by_cases h0 : x = 0
    · subst h0; rw [if_pos rfl]; exact jx_k_tsi (jx_fok (by decide +kernel : decode (jx_mb 139) 1 = .ok (.tableswitch 60 0 4 #[35, 40, 45, 50, 55], 35))) (by decide) rfl rfl
    rw [if_neg h0]
    by_cases h1 : x = 1
    · subst h1; rw [if_pos rfl]; exact jx_k_tsi (jx_fok (by decide +kernel : decode (jx_mb 139) 1 = .ok (.tableswitch 60 0 4 #[35, 40, 45, 50, 55], 35))) (by decide) rfl rfl
    rw [if_neg h1]
    by_cases h2 : x = 2
    · subst h2; rw [if_pos rfl]; exact jx_k_tsi (jx_fok (by decide +kernel : decode (jx_mb 139) 1 = .ok (.tableswitch 60 0 4 #[35, 40, 45, 50, 55], 35))) (by decide) rfl rfl
    rw [if_neg h2]
    by_cases h3 : x = 3
    · subst h3; rw [if_pos rfl]; exact jx_k_tsi (jx_fok (by decide +kernel : decode (jx_mb 139) 1 = .ok (.tableswitch 60 0 4 #[35, 40, 45, 50, 55], 35))) (by decide) rfl rfl
    rw [if_neg h3]
    by_cases h4 : x = 4
    · subst h4; rw [if_pos rfl]; exact jx_k_tsi (jx_fok (by decide +kernel : decode (jx_mb 139) 1 = .ok (.tableswitch 60 0 4 #[35, 40, 45, 50, 55], 35))) (by decide) rfl rfl
    rw [if_neg h4]
    exact jx_k_tso (jx_fok (by decide +kernel : decode (jx_mb 139) 1 = .ok (.tableswitch 60 0 4 #[35, 40, 45, 50, 55], 35))) (by have e := jx_tsx5 (x := x) h0 h1 h2 h3 h4; omega) rfl
  · exact fun d st M Q l1 x => jx_ev_st (jx_fok (by decide +kernel : decode (jx_mb 139) 36 = .ok (.aload_n 0, 1))) rfl rfl rfl
  · exact fun d lv st M Q => jx_k_gf (jx_fok (by decide +kernel : decode (jx_mb 139) 37 = .ok (.getfield 80, 3))) rfl rfl rfl
  · exact fun d lv M Q x => jx_k_ri (jx_fok (by decide +kernel : decode (jx_mb 139) 40 = .ok (.ireturn, 1))) rfl
  · exact fun d st M Q l1 x => jx_ev_st (jx_fok (by decide +kernel : decode (jx_mb 139) 41 = .ok (.aload_n 0, 1))) rfl rfl rfl
  · exact fun d lv st M Q => jx_k_gf (jx_fok (by decide +kernel : decode (jx_mb 139) 42 = .ok (.getfield 77, 3))) rfl rfl rfl
  · exact fun d lv M Q x => jx_k_ri (jx_fok (by decide +kernel : decode (jx_mb 139) 45 = .ok (.ireturn, 1))) rfl
  · exact fun d st M Q l1 x => jx_ev_st (jx_fok (by decide +kernel : decode (jx_mb 139) 46 = .ok (.aload_n 0, 1))) rfl rfl rfl
  · exact fun d lv st M Q => jx_k_gf (jx_fok (by decide +kernel : decode (jx_mb 139) 47 = .ok (.getfield 110, 3))) rfl rfl rfl
  · exact fun d lv M Q x => jx_k_ri (jx_fok (by decide +kernel : decode (jx_mb 139) 50 = .ok (.ireturn, 1))) rfl
  · exact fun d st M Q l1 x => jx_ev_st (jx_fok (by decide +kernel : decode (jx_mb 139) 51 = .ok (.aload_n 0, 1))) rfl rfl rfl
  · exact fun d lv st M Q => jx_k_gf (jx_fok (by decide +kernel : decode (jx_mb 139) 52 = .ok (.getfield 116, 3))) rfl rfl rfl
  · exact fun d lv M Q x => jx_k_ri (jx_fok (by decide +kernel : decode (jx_mb 139) 55 = .ok (.ireturn, 1))) rfl
  · exact fun d st M Q l1 x => jx_ev_st (jx_fok (by decide +kernel : decode (jx_mb 139) 56 = .ok (.aload_n 0, 1))) rfl rfl rfl
  · exact fun d lv st M Q => jx_k_gf (jx_fok (by decide +kernel : decode (jx_mb 139) 57 = .ok (.getfield 125, 3))) rfl rfl rfl
  · exact fun d lv M Q x => jx_k_ri (jx_fok (by decide +kernel : decode (jx_mb 139) 60 = .ok (.ireturn, 1))) rfl
  · exact fun d lv st M Q => jx_ev_st (jx_fok (by decide +kernel : decode (jx_mb 139) 61 = .ok (.bipush (-2), 2))) rfl rfl rfl
  · exact fun d lv M Q x => jx_k_ri (jx_fok (by decide +kernel : decode (jx_mb 139) 63 = .ok (.ireturn, 1))) rfl
theorem kX8_many (d : Nat) (M : jx_M) (q : Int32 → jx_M → Prop) (a0 a1 : Value) : jx_I d 139 [a0, a1] M q ↔ jx_Ev d 139 0 [some a0, some a1] [] M (jx_qI q) := Iff.rfl
