set_option maxRecDepth 100000 in
theorem eX8_fails :
  (∀ (d : Nat) (st : List Value) (M : jx_M) (Q : jx_Po) (l1 : Option Value) (x : Nat), jx_Ev d 84 0 [some (.ref x), l1] st M Q ↔ jx_Ev d 84 1 [some (.ref x), l1] (.ref x :: st) M Q) ∧
  (∀ (d : Nat) (st : List Value) (M : jx_M) (Q : jx_Po) (l0 : Option Value) (x : Int32), jx_Ev d 84 1 [l0, some (.int x)] st M Q ↔ jx_Ev d 84 2 [l0, some (.int x)] (.int x :: st) M Q) ∧
  (∀ (d : Nat) (lv : List (Option Value)) (st : List Value) (M : jx_M) (Q : jx_Po) (x : Int32), jx_Ev d 84 2 lv (.int x :: .ref 36 :: st) M Q ↔ jx_Ev d 84 5 lv st (jx_up M 36 0 x) Q) ∧
  (∀ (d : Nat) (lv : List (Option Value)) (st : List Value) (M : jx_M) (Q : jx_Po), jx_Ev d 84 5 lv st M Q ↔ jx_Ev d 84 7 lv (.int (-10) :: st) M Q) ∧
  (∀ (d : Nat) (st : List Value) (M : jx_M) (Q : jx_Po) (l0 : Option Value) (x : Int32), jx_Ev d 84 7 [l0, some (.int x)] st M Q ↔ jx_Ev d 84 8 [l0, some (.int x)] (.int x :: st) M Q) ∧
  (∀ (d : Nat) (lv : List (Option Value)) (st : List Value) (M : jx_M) (Q : jx_Po) (x z : Int32), jx_Ev d 84 8 lv (.int z :: .int x :: st) M Q ↔ jx_Ev d 84 9 lv (.int (x - z) :: st) M Q) ∧
  (∀ (d : Nat) (lv : List (Option Value)) (M : jx_M) (Q : jx_Po) (x : Int32), jx_Ev d 84 9 lv [.int x] M Q ↔ Q [.int x] M) := by
  refine ⟨?_, ?_, ?_, ?_, ?_, ?_, ?_⟩
  · exact fun d st M Q l1 x => jx_ev_st (jx_fok (by decide +kernel : decode (jx_mb 84) 0 = .ok (.aload_n 0, 1))) rfl rfl rfl
  · exact fun d st M Q l0 x => jx_ev_st (jx_fok (by decide +kernel : decode (jx_mb 84) 1 = .ok (.iload_n 1, 1))) rfl rfl rfl
  · exact fun d lv st M Q x => jx_k_pf0 (jx_fok (by decide +kernel : decode (jx_mb 84) 2 = .ok (.putfield 67, 3))) rfl rfl rfl
  · exact fun d lv st M Q => jx_ev_st (jx_fok (by decide +kernel : decode (jx_mb 84) 5 = .ok (.bipush (-10), 2))) rfl rfl rfl
  · exact fun d st M Q l0 x => jx_ev_st (jx_fok (by decide +kernel : decode (jx_mb 84) 7 = .ok (.iload_n 1, 1))) rfl rfl rfl
  · exact fun d lv st M Q x z => jx_ev_st (jx_fok (by decide +kernel : decode (jx_mb 84) 8 = .ok (.isub, 1))) rfl rfl rfl
  · exact fun d lv M Q x => jx_k_ri (jx_fok (by decide +kernel : decode (jx_mb 84) 9 = .ok (.ireturn, 1))) rfl
theorem kX8_fails (d : Nat) (M : jx_M) (q : Int32 → jx_M → Prop) (a0 a1 : Value) : jx_I d 84 [a0, a1] M q ↔ jx_Ev d 84 0 [some a0, some a1] [] M (jx_qI q) := Iff.rfl
set_option maxRecDepth 100000 in
theorem eX8_lost :
  (∀ (d : Nat) (st : List Value) (M : jx_M) (Q : jx_Po) (l1 : Option Value) (x : Nat), jx_Ev d 85 0 [some (.ref x), l1] st M Q ↔ jx_Ev d 85 1 [some (.ref x), l1] (.ref x :: st) M Q) ∧
  (∀ (d : Nat) (st : List Value) (M : jx_M) (Q : jx_Po) (l0 : Option Value) (x : Int32), jx_Ev d 85 1 [l0, some (.int x)] st M Q ↔ jx_Ev d 85 2 [l0, some (.int x)] (.int x :: st) M Q) ∧
  (∀ (d : Nat) (lv : List (Option Value)) (st : List Value) (M : jx_M) (Q : jx_Po) (x : Int32), jx_Ev d 85 2 lv (.int x :: .ref 36 :: st) M Q ↔ jx_Ev d 85 5 lv st (jx_up M 36 0 x) Q) ∧
  (∀ (d : Nat) (lv : List (Option Value)) (st : List Value) (M : jx_M) (Q : jx_Po), jx_Ev d 85 5 lv st M Q ↔ jx_Ev d 85 8 lv (.long (-9223372036854775808) :: st) M Q) ∧
  (∀ (d : Nat) (lv : List (Option Value)) (M : jx_M) (Q : jx_Po) (x : Int64), jx_Ev d 85 8 lv [.long x] M Q ↔ Q [.long x] M) := by
  refine ⟨?_, ?_, ?_, ?_, ?_⟩
  · exact fun d st M Q l1 x => jx_ev_st (jx_fok (by decide +kernel : decode (jx_mb 85) 0 = .ok (.aload_n 0, 1))) rfl rfl rfl
  · exact fun d st M Q l0 x => jx_ev_st (jx_fok (by decide +kernel : decode (jx_mb 85) 1 = .ok (.iload_n 1, 1))) rfl rfl rfl
  · exact fun d lv st M Q x => jx_k_pf0 (jx_fok (by decide +kernel : decode (jx_mb 85) 2 = .ok (.putfield 67, 3))) rfl rfl rfl
  · exact fun d lv st M Q => jx_ev_st (jx_fok (by decide +kernel : decode (jx_mb 85) 5 = .ok (.ldc2_w 71, 3))) rfl rfl rfl
  · exact fun d lv M Q x => jx_k_rl (jx_fok (by decide +kernel : decode (jx_mb 85) 8 = .ok (.lreturn, 1))) rfl
theorem kX8_lost (d : Nat) (M : jx_M) (q : Int64 → jx_M → Prop) (a0 a1 : Value) : jx_L d 85 [a0, a1] M q ↔ jx_Ev d 85 0 [some a0, some a1] [] M (jx_qL q) := Iff.rfl
set_option maxRecDepth 100000 in
theorem eX8_within :
  (∀ (d : Nat) (st : List Value) (M : jx_M) (Q : jx_Po) (l1 l2 : Option Value) (x : Int32), jx_Ev d 86 0 [some (.int x), l1, l2] st M Q ↔ jx_Ev d 86 1 [some (.int x), l1, l2] (.int x :: st) M Q) ∧
  (∀ (d : Nat) (st : List Value) (M : jx_M) (Q : jx_Po) (l0 l2 : Option Value) (x : Int32), jx_Ev d 86 1 [l0, some (.int x), l2] st M Q ↔ jx_Ev d 86 2 [l0, some (.int x), l2] (.int x :: st) M Q) ∧
  (∀ (d : Nat) (lv : List (Option Value)) (st : List Value) (M : jx_M) (Q : jx_Po) (x z : Int32), jx_Ev d 86 2 lv (.int z :: .int x :: st) M Q ↔ (if x < z then jx_Ev d 86 14 lv st M Q else jx_Ev d 86 5 lv st M Q)) ∧
  (∀ (d : Nat) (st : List Value) (M : jx_M) (Q : jx_Po) (l1 l2 : Option Value) (x : Int32), jx_Ev d 86 5 [some (.int x), l1, l2] st M Q ↔ jx_Ev d 86 6 [some (.int x), l1, l2] (.int x :: st) M Q) ∧
  (∀ (d : Nat) (st : List Value) (M : jx_M) (Q : jx_Po) (l0 l1 : Option Value) (x : Int32), jx_Ev d 86 6 [l0, l1, some (.int x)] st M Q ↔ jx_Ev d 86 7 [l0, l1, some (.int x)] (.int x :: st) M Q) ∧
  (∀ (d : Nat) (lv : List (Option Value)) (st : List Value) (M : jx_M) (Q : jx_Po) (x z : Int32), jx_Ev d 86 7 lv (.int z :: .int x :: st) M Q ↔ (if z < x then jx_Ev d 86 14 lv st M Q else jx_Ev d 86 10 lv st M Q)) ∧
  (∀ (d : Nat) (lv : List (Option Value)) (st : List Value) (M : jx_M) (Q : jx_Po), jx_Ev d 86 10 lv st M Q ↔ jx_Ev d 86 11 lv (.int 1 :: st) M Q) ∧
  (∀ (d : Nat) (lv : List (Option Value)) (st : List Value) (M : jx_M) (Q : jx_Po), jx_Ev d 86 11 lv st M Q ↔ jx_Ev d 86 15 lv st M Q) ∧
  (∀ (d : Nat) (lv : List (Option Value)) (st : List Value) (M : jx_M) (Q : jx_Po), jx_Ev d 86 14 lv st M Q ↔ jx_Ev d 86 15 lv (.int 0 :: st) M Q) ∧
  (∀ (d : Nat) (lv : List (Option Value)) (M : jx_M) (Q : jx_Po) (x : Int32), jx_Ev d 86 15 lv [.int x] M Q ↔ ((x = 0 ∨ x = 1) ∧ Q [.int x] M)) := by
  refine ⟨?_, ?_, ?_, ?_, ?_, ?_, ?_, ?_, ?_, ?_⟩
  · exact fun d st M Q l1 l2 x => jx_ev_st (jx_fok (by decide +kernel : decode (jx_mb 86) 0 = .ok (.iload_n 0, 1))) rfl rfl rfl
  · exact fun d st M Q l0 l2 x => jx_ev_st (jx_fok (by decide +kernel : decode (jx_mb 86) 1 = .ok (.iload_n 1, 1))) rfl rfl rfl
  · exact fun d lv st M Q x z => jx_k_b2 (jx_fok (by decide +kernel : decode (jx_mb 86) 2 = .ok (.if_icmp .lt 12, 3))) rfl jx_hLt
  · exact fun d st M Q l1 l2 x => jx_ev_st (jx_fok (by decide +kernel : decode (jx_mb 86) 5 = .ok (.iload_n 0, 1))) rfl rfl rfl
  · exact fun d st M Q l0 l1 x => jx_ev_st (jx_fok (by decide +kernel : decode (jx_mb 86) 6 = .ok (.iload_n 2, 1))) rfl rfl rfl
  · exact fun d lv st M Q x z => jx_k_b2 (jx_fok (by decide +kernel : decode (jx_mb 86) 7 = .ok (.if_icmp .gt 7, 3))) rfl jx_hGt
  · exact fun d lv st M Q => jx_ev_st (jx_fok (by decide +kernel : decode (jx_mb 86) 10 = .ok (.iconst 1, 1))) rfl rfl rfl
  · exact fun d lv st M Q => jx_k_goto (jx_fok (by decide +kernel : decode (jx_mb 86) 11 = .ok (.goto 4, 3))) rfl
  · exact fun d lv st M Q => jx_ev_st (jx_fok (by decide +kernel : decode (jx_mb 86) 14 = .ok (.iconst 0, 1))) rfl rfl rfl
  · exact fun d lv M Q x => jx_k_rz (jx_fok (by decide +kernel : decode (jx_mb 86) 15 = .ok (.ireturn, 1))) rfl
theorem kX8_within (d : Nat) (M : jx_M) (q : Int32 → jx_M → Prop) (a0 a1 a2 : Value) : jx_I d 86 [a0, a1, a2] M q ↔ jx_Ev d 86 0 [some a0, some a1, some a2] [] M (jx_qI q) := Iff.rfl
set_option maxRecDepth 100000 in
theorem eX8_isSheet :
  (∀ (d : Nat) (st : List Value) (M : jx_M) (Q : jx_Po) (x : Int32), jx_Ev d 87 0 [some (.int x)] st M Q ↔ jx_Ev d 87 1 [some (.int x)] (.int x :: st) M Q) ∧
  (∀ (d : Nat) (lv : List (Option Value)) (st : List Value) (M : jx_M) (Q : jx_Po), jx_Ev d 87 1 lv st M Q ↔ jx_Ev d 87 2 lv (.int 0 :: st) M Q) ∧
  (∀ (d : Nat) (lv : List (Option Value)) (st : List Value) (M : jx_M) (Q : jx_Po), jx_Ev d 87 2 lv st M Q ↔ jx_Ev d 87 3 lv (.int 3 :: st) M Q) ∧
  (∀ (d : Nat) (lv : List (Option Value)) (M : jx_M) (Q : jx_Po) (a0 : Int32) (a1 : Int32) (a2 : Int32), jx_Ev (d + 1) 87 3 lv [.int a0, .int a1, .int a2] M Q ↔ jx_I d 86 [.int a2, .int a1, .int a0] M (fun x M => jx_Ev (d + 1) 87 6 lv (.int x :: []) M Q)) ∧
  (∀ (d : Nat) (lv : List (Option Value)) (M : jx_M) (Q : jx_Po) (x : Int32), jx_Ev d 87 6 lv [.int x] M Q ↔ ((x = 0 ∨ x = 1) ∧ Q [.int x] M)) := by
  refine ⟨?_, ?_, ?_, ?_, ?_⟩
  · exact fun d st M Q x => jx_ev_st (jx_fok (by decide +kernel : decode (jx_mb 87) 0 = .ok (.iload_n 0, 1))) rfl rfl rfl
  · exact fun d lv st M Q => jx_ev_st (jx_fok (by decide +kernel : decode (jx_mb 87) 1 = .ok (.iconst 0, 1))) rfl rfl rfl
  · exact fun d lv st M Q => jx_ev_st (jx_fok (by decide +kernel : decode (jx_mb 87) 2 = .ok (.iconst 3, 1))) rfl rfl rfl
  · exact fun d lv M Q a0 a1 a2 => jx_ev_ci (jx_fok (by decide +kernel : decode (jx_mb 87) 3 = .ok (.invokestatic 73, 3))) rfl (jx_ccS (As := [.int a2, .int a1, .int a0]) (rest := []) rfl rfl rfl rfl rfl) (by decide)
  · exact fun d lv M Q x => jx_k_rz (jx_fok (by decide +kernel : decode (jx_mb 87) 6 = .ok (.ireturn, 1))) rfl
theorem kX8_isSheet (d : Nat) (M : jx_M) (q : Int32 → jx_M → Prop) (a0 : Value) : jx_I d 87 [a0] M q ↔ jx_Ev d 87 0 [some a0] [] M (jx_qI q) := Iff.rfl
set_option maxRecDepth 100000 in
theorem eX8_isSort :
  (∀ (d : Nat) (st : List Value) (M : jx_M) (Q : jx_Po) (x : Int32), jx_Ev d 88 0 [some (.int x)] st M Q ↔ jx_Ev d 88 1 [some (.int x)] (.int x :: st) M Q) ∧
  (∀ (d : Nat) (lv : List (Option Value)) (st : List Value) (M : jx_M) (Q : jx_Po), jx_Ev d 88 1 lv st M Q ↔ jx_Ev d 88 2 lv (.int 0 :: st) M Q) ∧
  (∀ (d : Nat) (lv : List (Option Value)) (st : List Value) (M : jx_M) (Q : jx_Po), jx_Ev d 88 2 lv st M Q ↔ jx_Ev d 88 3 lv (.int 2 :: st) M Q) ∧
  (∀ (d : Nat) (lv : List (Option Value)) (M : jx_M) (Q : jx_Po) (a0 : Int32) (a1 : Int32) (a2 : Int32), jx_Ev (d + 1) 88 3 lv [.int a0, .int a1, .int a2] M Q ↔ jx_I d 86 [.int a2, .int a1, .int a0] M (fun x M => jx_Ev (d + 1) 88 6 lv (.int x :: []) M Q)) ∧
  (∀ (d : Nat) (lv : List (Option Value)) (M : jx_M) (Q : jx_Po) (x : Int32), jx_Ev d 88 6 lv [.int x] M Q ↔ ((x = 0 ∨ x = 1) ∧ Q [.int x] M)) := by
  refine ⟨?_, ?_, ?_, ?_, ?_⟩
  · exact fun d st M Q x => jx_ev_st (jx_fok (by decide +kernel : decode (jx_mb 88) 0 = .ok (.iload_n 0, 1))) rfl rfl rfl
  · exact fun d lv st M Q => jx_ev_st (jx_fok (by decide +kernel : decode (jx_mb 88) 1 = .ok (.iconst 0, 1))) rfl rfl rfl
  · exact fun d lv st M Q => jx_ev_st (jx_fok (by decide +kernel : decode (jx_mb 88) 2 = .ok (.iconst 2, 1))) rfl rfl rfl
  · exact fun d lv M Q a0 a1 a2 => jx_ev_ci (jx_fok (by decide +kernel : decode (jx_mb 88) 3 = .ok (.invokestatic 73, 3))) rfl (jx_ccS (As := [.int a2, .int a1, .int a0]) (rest := []) rfl rfl rfl rfl rfl) (by decide)
  · exact fun d lv M Q x => jx_k_rz (jx_fok (by decide +kernel : decode (jx_mb 88) 6 = .ok (.ireturn, 1))) rfl
theorem kX8_isSort (d : Nat) (M : jx_M) (q : Int32 → jx_M → Prop) (a0 : Value) : jx_I d 88 [a0] M q ↔ jx_Ev d 88 0 [some a0] [] M (jx_qI q) := Iff.rfl
set_option maxRecDepth 100000 in
theorem eX8_against :
  (∀ (d : Nat) (st : List Value) (M : jx_M) (Q : jx_Po) (l1 l2 l3 l4 : Option Value) (x : Nat), jx_Ev d 89 0 [some (.ref x), l1, l2, l3, l4] st M Q ↔ jx_Ev d 89 1 [some (.ref x), l1, l2, l3, l4] (.ref x :: st) M Q) ∧
  (∀ (d : Nat) (lv : List (Option Value)) (st : List Value) (M : jx_M) (Q : jx_Po), jx_Ev d 89 1 lv (.ref 36 :: st) M Q ↔ jx_Ev d 89 4 lv (.ref 37 :: st) M Q) ∧
  (∀ (d : Nat) (st : List Value) (M : jx_M) (Q : jx_Po) (l0 l2 l3 l4 : Option Value) (x : Int32), jx_Ev d 89 4 [l0, some (.int x), l2, l3, l4] st M Q ↔ jx_Ev d 89 5 [l0, some (.int x), l2, l3, l4] (.int x :: st) M Q) ∧
  (∀ (d : Nat) (lv : List (Option Value)) (st : List Value) (M : jx_M) (Q : jx_Po) (x : Int32) (a : Nat) (ha : jx_cl a = 9), jx_Ev d 89 5 lv (.int x :: .ref a :: st) M Q ↔ (vp_in x (jx_sz a) ∧ jx_Ev d 89 6 lv (.int (M a x.toNatClampNeg) :: st) M Q)) ∧
  (∀ (d : Nat) (lv : List (Option Value)) (st : List Value) (M : jx_M) (Q : jx_Po), jx_Ev d 89 6 lv st M Q ↔ jx_Ev d 89 8 lv (.int (-9) :: st) M Q) ∧
  (∀ (d : Nat) (lv : List (Option Value)) (st : List Value) (M : jx_M) (Q : jx_Po) (x z : Int32), jx_Ev d 89 8 lv (.int z :: .int x :: st) M Q ↔ (if x = z then jx_Ev d 89 23 lv st M Q else jx_Ev d 89 11 lv st M Q)) ∧
  (∀ (d : Nat) (st : List Value) (M : jx_M) (Q : jx_Po) (l1 l2 l3 l4 : Option Value) (x : Nat), jx_Ev d 89 11 [some (.ref x), l1, l2, l3, l4] st M Q ↔ jx_Ev d 89 12 [some (.ref x), l1, l2, l3, l4] (.ref x :: st) M Q) ∧
  (∀ (d : Nat) (lv : List (Option Value)) (st : List Value) (M : jx_M) (Q : jx_Po), jx_Ev d 89 12 lv (.ref 36 :: st) M Q ↔ jx_Ev d 89 15 lv (.ref 37 :: st) M Q) ∧
  (∀ (d : Nat) (st : List Value) (M : jx_M) (Q : jx_Po) (l0 l2 l3 l4 : Option Value) (x : Int32), jx_Ev d 89 15 [l0, some (.int x), l2, l3, l4] st M Q ↔ jx_Ev d 89 16 [l0, some (.int x), l2, l3, l4] (.int x :: st) M Q) ∧
  (∀ (d : Nat) (lv : List (Option Value)) (st : List Value) (M : jx_M) (Q : jx_Po) (x : Int32) (a : Nat) (ha : jx_cl a = 9), jx_Ev d 89 16 lv (.int x :: .ref a :: st) M Q ↔ (vp_in x (jx_sz a) ∧ jx_Ev d 89 17 lv (.int (M a x.toNatClampNeg) :: st) M Q)) ∧
  (∀ (d : Nat) (st : List Value) (M : jx_M) (Q : jx_Po) (l0 l1 l3 l4 : Option Value) (x : Int32), jx_Ev d 89 17 [l0, l1, some (.int x), l3, l4] st M Q ↔ jx_Ev d 89 18 [l0, l1, some (.int x), l3, l4] (.int x :: st) M Q) ∧
  (∀ (d : Nat) (lv : List (Option Value)) (st : List Value) (M : jx_M) (Q : jx_Po) (x z : Int32), jx_Ev d 89 18 lv (.int z :: .int x :: st) M Q ↔ (if x = z then jx_Ev d 89 23 lv st M Q else jx_Ev d 89 21 lv st M Q)) ∧
  (∀ (d : Nat) (lv : List (Option Value)) (st : List Value) (M : jx_M) (Q : jx_Po), jx_Ev d 89 21 lv st M Q ↔ jx_Ev d 89 22 lv (.int 2 :: st) M Q) ∧
  (∀ (d : Nat) (lv : List (Option Value)) (M : jx_M) (Q : jx_Po) (x : Int32), jx_Ev d 89 22 lv [.int x] M Q ↔ Q [.int x] M) ∧
  (∀ (d : Nat) (st : List Value) (M : jx_M) (Q : jx_Po) (l1 l2 l3 l4 : Option Value) (x : Nat), jx_Ev d 89 23 [some (.ref x), l1, l2, l3, l4] st M Q ↔ jx_Ev d 89 24 [some (.ref x), l1, l2, l3, l4] (.ref x :: st) M Q) ∧
  (∀ (d : Nat) (lv : List (Option Value)) (st : List Value) (M : jx_M) (Q : jx_Po), jx_Ev d 89 24 lv (.ref 36 :: st) M Q ↔ jx_Ev d 89 27 lv (.ref 37 :: st) M Q) ∧
  (∀ (d : Nat) (st : List Value) (M : jx_M) (Q : jx_Po) (l0 l2 l3 l4 : Option Value) (x : Int32), jx_Ev d 89 27 [l0, some (.int x), l2, l3, l4] st M Q ↔ jx_Ev d 89 28 [l0, some (.int x), l2, l3, l4] (.int x :: st) M Q) ∧
  (∀ (d : Nat) (lv : List (Option Value)) (st : List Value) (M : jx_M) (Q : jx_Po) (x : Int32) (a : Nat) (ha : jx_cl a = 9), jx_Ev d 89 28 lv (.int x :: .ref a :: st) M Q ↔ (vp_in x (jx_sz a) ∧ jx_Ev d 89 29 lv (.int (M a x.toNatClampNeg) :: st) M Q)) ∧
  (∀ (d : Nat) (lv : List (Option Value)) (st : List Value) (M : jx_M) (Q : jx_Po), jx_Ev d 89 29 lv st M Q ↔ jx_Ev d 89 31 lv (.int (-9) :: st) M Q) ∧
  (∀ (d : Nat) (lv : List (Option Value)) (st : List Value) (M : jx_M) (Q : jx_Po) (x z : Int32), jx_Ev d 89 31 lv (.int z :: .int x :: st) M Q ↔ (if x = z then jx_Ev d 89 34 lv st M Q else jx_Ev d 89 36 lv st M Q)) ∧
  (∀ (d : Nat) (lv : List (Option Value)) (st : List Value) (M : jx_M) (Q : jx_Po), jx_Ev d 89 34 lv st M Q ↔ jx_Ev d 89 35 lv (.int 1 :: st) M Q) ∧
  (∀ (d : Nat) (lv : List (Option Value)) (M : jx_M) (Q : jx_Po) (x : Int32), jx_Ev d 89 35 lv [.int x] M Q ↔ Q [.int x] M) ∧
  (∀ (d : Nat) (st : List Value) (M : jx_M) (Q : jx_Po) (l0 l1 l2 l3 : Option Value) (x : Int32), jx_Ev d 89 36 [l0, l1, l2, l3, some (.int x)] st M Q ↔ jx_Ev d 89 38 [l0, l1, l2, l3, some (.int x)] (.int x :: st) M Q) ∧
  (∀ (d : Nat) (lv : List (Option Value)) (st : List Value) (M : jx_M) (Q : jx_Po) (x : Int32), jx_Ev d 89 38 lv (.int x :: st) M Q ↔ (if 0 ≤ x then jx_Ev d 89 43 lv st M Q else jx_Ev d 89 41 lv st M Q)) ∧
  (∀ (d : Nat) (lv : List (Option Value)) (st : List Value) (M : jx_M) (Q : jx_Po), jx_Ev d 89 41 lv st M Q ↔ jx_Ev d 89 42 lv (.int 4 :: st) M Q) ∧
  (∀ (d : Nat) (lv : List (Option Value)) (M : jx_M) (Q : jx_Po) (x : Int32), jx_Ev d 89 42 lv [.int x] M Q ↔ Q [.int x] M) ∧
  (∀ (d : Nat) (st : List Value) (M : jx_M) (Q : jx_Po) (l0 l1 l2 l4 : Option Value) (x : Int32), jx_Ev d 89 43 [l0, l1, l2, some (.int x), l4] st M Q ↔ jx_Ev d 89 44 [l0, l1, l2, some (.int x), l4] (.int x :: st) M Q) ∧
  (∀ (d : Nat) (lv : List (Option Value)) (st : List Value) (M : jx_M) (Q : jx_Po) (x : Int32), jx_Ev d 89 44 lv (.int x :: st) M Q ↔ (if x < 0 then jx_Ev d 89 70 lv st M Q else jx_Ev d 89 47 lv st M Q)) ∧
  (∀ (d : Nat) (st : List Value) (M : jx_M) (Q : jx_Po) (l0 l1 l2 l4 : Option Value) (x : Int32), jx_Ev d 89 47 [l0, l1, l2, some (.int x), l4] st M Q ↔ jx_Ev d 89 48 [l0, l1, l2, some (.int x), l4] (.int x :: st) M Q) ∧
  (∀ (d : Nat) (st : List Value) (M : jx_M) (Q : jx_Po) (l1 l2 l3 l4 : Option Value) (x : Nat), jx_Ev d 89 48 [some (.ref x), l1, l2, l3, l4] st M Q ↔ jx_Ev d 89 49 [some (.ref x), l1, l2, l3, l4] (.ref x :: st) M Q) ∧
  (∀ (d : Nat) (lv : List (Option Value)) (st : List Value) (M : jx_M) (Q : jx_Po), jx_Ev d 89 49 lv (.ref 36 :: st) M Q ↔ jx_Ev d 89 52 lv (.ref 38 :: st) M Q) ∧
  (∀ (d : Nat) (st : List Value) (M : jx_M) (Q : jx_Po) (l0 l2 l3 l4 : Option Value) (x : Int32), jx_Ev d 89 52 [l0, some (.int x), l2, l3, l4] st M Q ↔ jx_Ev d 89 53 [l0, some (.int x), l2, l3, l4] (.int x :: st) M Q) ∧
  (∀ (d : Nat) (lv : List (Option Value)) (st : List Value) (M : jx_M) (Q : jx_Po) (x : Int32) (a : Nat) (ha : jx_cl a = 9), jx_Ev d 89 53 lv (.int x :: .ref a :: st) M Q ↔ (vp_in x (jx_sz a) ∧ jx_Ev d 89 54 lv (.int (M a x.toNatClampNeg) :: st) M Q)) ∧
  (∀ (d : Nat) (lv : List (Option Value)) (st : List Value) (M : jx_M) (Q : jx_Po) (x z : Int32), jx_Ev d 89 54 lv (.int z :: .int x :: st) M Q ↔ (if z < x then jx_Ev d 89 70 lv st M Q else jx_Ev d 89 57 lv st M Q)) ∧
  (∀ (d : Nat) (st : List Value) (M : jx_M) (Q : jx_Po) (l0 l1 l2 l3 : Option Value) (x : Int32), jx_Ev d 89 57 [l0, l1, l2, l3, some (.int x)] st M Q ↔ jx_Ev d 89 59 [l0, l1, l2, l3, some (.int x)] (.int x :: st) M Q) ∧
  (∀ (d : Nat) (st : List Value) (M : jx_M) (Q : jx_Po) (l1 l2 l3 l4 : Option Value) (x : Nat), jx_Ev d 89 59 [some (.ref x), l1, l2, l3, l4] st M Q ↔ jx_Ev d 89 60 [some (.ref x), l1, l2, l3, l4] (.ref x :: st) M Q) ∧
  (∀ (d : Nat) (lv : List (Option Value)) (st : List Value) (M : jx_M) (Q : jx_Po), jx_Ev d 89 60 lv (.ref 36 :: st) M Q ↔ jx_Ev d 89 63 lv (.ref 38 :: st) M Q) ∧
  (∀ (d : Nat) (st : List Value) (M : jx_M) (Q : jx_Po) (l0 l2 l3 l4 : Option Value) (x : Int32), jx_Ev d 89 63 [l0, some (.int x), l2, l3, l4] st M Q ↔ jx_Ev d 89 64 [l0, some (.int x), l2, l3, l4] (.int x :: st) M Q) ∧
  (∀ (d : Nat) (lv : List (Option Value)) (st : List Value) (M : jx_M) (Q : jx_Po) (x : Int32) (a : Nat) (ha : jx_cl a = 9), jx_Ev d 89 64 lv (.int x :: .ref a :: st) M Q ↔ (vp_in x (jx_sz a) ∧ jx_Ev d 89 65 lv (.int (M a x.toNatClampNeg) :: st) M Q)) ∧
  (∀ (d : Nat) (st : List Value) (M : jx_M) (Q : jx_Po) (l0 l1 l2 l4 : Option Value) (x : Int32), jx_Ev d 89 65 [l0, l1, l2, some (.int x), l4] st M Q ↔ jx_Ev d 89 66 [l0, l1, l2, some (.int x), l4] (.int x :: st) M Q) ∧
  (∀ (d : Nat) (lv : List (Option Value)) (st : List Value) (M : jx_M) (Q : jx_Po) (x z : Int32), jx_Ev d 89 66 lv (.int z :: .int x :: st) M Q ↔ jx_Ev d 89 67 lv (.int (x - z) :: st) M Q) ∧
  (∀ (d : Nat) (lv : List (Option Value)) (st : List Value) (M : jx_M) (Q : jx_Po) (x z : Int32), jx_Ev d 89 67 lv (.int z :: .int x :: st) M Q ↔ (if x ≤ z then jx_Ev d 89 74 lv st M Q else jx_Ev d 89 70 lv st M Q)) ∧
  (∀ (d : Nat) (lv : List (Option Value)) (st : List Value) (M : jx_M) (Q : jx_Po), jx_Ev d 89 70 lv st M Q ↔ jx_Ev d 89 71 lv (.int 3 :: st) M Q) ∧
  (∀ (d : Nat) (lv : List (Option Value)) (st : List Value) (M : jx_M) (Q : jx_Po), jx_Ev d 89 71 lv st M Q ↔ jx_Ev d 89 75 lv st M Q) ∧
  (∀ (d : Nat) (lv : List (Option Value)) (st : List Value) (M : jx_M) (Q : jx_Po), jx_Ev d 89 74 lv st M Q ↔ jx_Ev d 89 75 lv (.int 0 :: st) M Q) ∧
  (∀ (d : Nat) (lv : List (Option Value)) (M : jx_M) (Q : jx_Po) (x : Int32), jx_Ev d 89 75 lv [.int x] M Q ↔ Q [.int x] M) := by
  refine ⟨?_, ?_, ?_, ?_, ?_, ?_, ?_, ?_, ?_, ?_, ?_, ?_, ?_, ?_, ?_, ?_, ?_, ?_, ?_, ?_, ?_, ?_, ?_, ?_, ?_, ?_, ?_, ?_, ?_, ?_, ?_, ?_, ?_, ?_, ?_, ?_, ?_, ?_, ?_, ?_, ?_, ?_, ?_, ?_, ?_, ?_⟩
  · exact fun d st M Q l1 l2 l3 l4 x => jx_ev_st (jx_fok (by decide +kernel : decode (jx_mb 89) 0 = .ok (.aload_n 0, 1))) rfl rfl rfl
  · exact fun d lv st M Q => jx_k_gf (jx_fok (by decide +kernel : decode (jx_mb 89) 1 = .ok (.getfield 9, 3))) rfl rfl rfl
  · exact fun d st M Q l0 l2 l3 l4 x => jx_ev_st (jx_fok (by decide +kernel : decode (jx_mb 89) 4 = .ok (.iload_n 1, 1))) rfl rfl rfl
  · exact fun d lv st M Q x a ha => jx_k_al (jx_fok (by decide +kernel : decode (jx_mb 89) 5 = .ok (.iaload, 1))) ha
  · exact fun d lv st M Q => jx_ev_st (jx_fok (by decide +kernel : decode (jx_mb 89) 6 = .ok (.bipush (-9), 2))) rfl rfl rfl
  · exact fun d lv st M Q x z => jx_k_b2 (jx_fok (by decide +kernel : decode (jx_mb 89) 8 = .ok (.if_icmp .eq 15, 3))) rfl jx_hEq
  · exact fun d st M Q l1 l2 l3 l4 x => jx_ev_st (jx_fok (by decide +kernel : decode (jx_mb 89) 11 = .ok (.aload_n 0, 1))) rfl rfl rfl
  · exact fun d lv st M Q => jx_k_gf (jx_fok (by decide +kernel : decode (jx_mb 89) 12 = .ok (.getfield 9, 3))) rfl rfl rfl
  · exact fun d st M Q l0 l2 l3 l4 x => jx_ev_st (jx_fok (by decide +kernel : decode (jx_mb 89) 15 = .ok (.iload_n 1, 1))) rfl rfl rfl
  · exact fun d lv st M Q x a ha => jx_k_al (jx_fok (by decide +kernel : decode (jx_mb 89) 16 = .ok (.iaload, 1))) ha
  · exact fun d st M Q l0 l1 l3 l4 x => jx_ev_st (jx_fok (by decide +kernel : decode (jx_mb 89) 17 = .ok (.iload_n 2, 1))) rfl rfl rfl
  · exact fun d lv st M Q x z => jx_k_b2 (jx_fok (by decide +kernel : decode (jx_mb 89) 18 = .ok (.if_icmp .eq 5, 3))) rfl jx_hEq
  · exact fun d lv st M Q => jx_ev_st (jx_fok (by decide +kernel : decode (jx_mb 89) 21 = .ok (.iconst 2, 1))) rfl rfl rfl
  · exact fun d lv M Q x => jx_k_ri (jx_fok (by decide +kernel : decode (jx_mb 89) 22 = .ok (.ireturn, 1))) rfl
  · exact fun d st M Q l1 l2 l3 l4 x => jx_ev_st (jx_fok (by decide +kernel : decode (jx_mb 89) 23 = .ok (.aload_n 0, 1))) rfl rfl rfl
  · exact fun d lv st M Q => jx_k_gf (jx_fok (by decide +kernel : decode (jx_mb 89) 24 = .ok (.getfield 9, 3))) rfl rfl rfl
  · exact fun d st M Q l0 l2 l3 l4 x => jx_ev_st (jx_fok (by decide +kernel : decode (jx_mb 89) 27 = .ok (.iload_n 1, 1))) rfl rfl rfl
  · exact fun d lv st M Q x a ha => jx_k_al (jx_fok (by decide +kernel : decode (jx_mb 89) 28 = .ok (.iaload, 1))) ha
  · exact fun d lv st M Q => jx_ev_st (jx_fok (by decide +kernel : decode (jx_mb 89) 29 = .ok (.bipush (-9), 2))) rfl rfl rfl
  · exact fun d lv st M Q x z => jx_k_b2n (jx_fok (by decide +kernel : decode (jx_mb 89) 31 = .ok (.if_icmp .ne 5, 3))) rfl jx_hNe
  · exact fun d lv st M Q => jx_ev_st (jx_fok (by decide +kernel : decode (jx_mb 89) 34 = .ok (.iconst 1, 1))) rfl rfl rfl
  · exact fun d lv M Q x => jx_k_ri (jx_fok (by decide +kernel : decode (jx_mb 89) 35 = .ok (.ireturn, 1))) rfl
  · exact fun d st M Q l0 l1 l2 l3 x => jx_ev_st (jx_fok (by decide +kernel : decode (jx_mb 89) 36 = .ok (.iload 4, 2))) rfl rfl rfl
  · exact fun d lv st M Q x => jx_k_b1 (jx_fok (by decide +kernel : decode (jx_mb 89) 38 = .ok (.ifCond .ge 5, 3))) rfl jx_hGe
  · exact fun d lv st M Q => jx_ev_st (jx_fok (by decide +kernel : decode (jx_mb 89) 41 = .ok (.iconst 4, 1))) rfl rfl rfl
  · exact fun d lv M Q x => jx_k_ri (jx_fok (by decide +kernel : decode (jx_mb 89) 42 = .ok (.ireturn, 1))) rfl
  · exact fun d st M Q l0 l1 l2 l4 x => jx_ev_st (jx_fok (by decide +kernel : decode (jx_mb 89) 43 = .ok (.iload_n 3, 1))) rfl rfl rfl
  · exact fun d lv st M Q x => jx_k_b1 (jx_fok (by decide +kernel : decode (jx_mb 89) 44 = .ok (.ifCond .lt 26, 3))) rfl jx_hLt
  · exact fun d st M Q l0 l1 l2 l4 x => jx_ev_st (jx_fok (by decide +kernel : decode (jx_mb 89) 47 = .ok (.iload_n 3, 1))) rfl rfl rfl
  · exact fun d st M Q l1 l2 l3 l4 x => jx_ev_st (jx_fok (by decide +kernel : decode (jx_mb 89) 48 = .ok (.aload_n 0, 1))) rfl rfl rfl
  · exact fun d lv st M Q => jx_k_gf (jx_fok (by decide +kernel : decode (jx_mb 89) 49 = .ok (.getfield 13, 3))) rfl rfl rfl
  · exact fun d st M Q l0 l2 l3 l4 x => jx_ev_st (jx_fok (by decide +kernel : decode (jx_mb 89) 52 = .ok (.iload_n 1, 1))) rfl rfl rfl
  · exact fun d lv st M Q x a ha => jx_k_al (jx_fok (by decide +kernel : decode (jx_mb 89) 53 = .ok (.iaload, 1))) ha
  · exact fun d lv st M Q x z => jx_k_b2 (jx_fok (by decide +kernel : decode (jx_mb 89) 54 = .ok (.if_icmp .gt 16, 3))) rfl jx_hGt
  · exact fun d st M Q l0 l1 l2 l3 x => jx_ev_st (jx_fok (by decide +kernel : decode (jx_mb 89) 57 = .ok (.iload 4, 2))) rfl rfl rfl
  · exact fun d st M Q l1 l2 l3 l4 x => jx_ev_st (jx_fok (by decide +kernel : decode (jx_mb 89) 59 = .ok (.aload_n 0, 1))) rfl rfl rfl
  · exact fun d lv st M Q => jx_k_gf (jx_fok (by decide +kernel : decode (jx_mb 89) 60 = .ok (.getfield 13, 3))) rfl rfl rfl
  · exact fun d st M Q l0 l2 l3 l4 x => jx_ev_st (jx_fok (by decide +kernel : decode (jx_mb 89) 63 = .ok (.iload_n 1, 1))) rfl rfl rfl
  · exact fun d lv st M Q x a ha => jx_k_al (jx_fok (by decide +kernel : decode (jx_mb 89) 64 = .ok (.iaload, 1))) ha
  · exact fun d st M Q l0 l1 l2 l4 x => jx_ev_st (jx_fok (by decide +kernel : decode (jx_mb 89) 65 = .ok (.iload_n 3, 1))) rfl rfl rfl
  · exact fun d lv st M Q x z => jx_ev_st (jx_fok (by decide +kernel : decode (jx_mb 89) 66 = .ok (.isub, 1))) rfl rfl rfl
  · exact fun d lv st M Q x z => jx_k_b2 (jx_fok (by decide +kernel : decode (jx_mb 89) 67 = .ok (.if_icmp .le 7, 3))) rfl jx_hLe
  · exact fun d lv st M Q => jx_ev_st (jx_fok (by decide +kernel : decode (jx_mb 89) 70 = .ok (.iconst 3, 1))) rfl rfl rfl
  · exact fun d lv st M Q => jx_k_goto (jx_fok (by decide +kernel : decode (jx_mb 89) 71 = .ok (.goto 4, 3))) rfl
  · exact fun d lv st M Q => jx_ev_st (jx_fok (by decide +kernel : decode (jx_mb 89) 74 = .ok (.iconst 0, 1))) rfl rfl rfl
  · exact fun d lv M Q x => jx_k_ri (jx_fok (by decide +kernel : decode (jx_mb 89) 75 = .ok (.ireturn, 1))) rfl
theorem kX8_against (d : Nat) (M : jx_M) (q : Int32 → jx_M → Prop) (a0 a1 a2 a3 a4 : Value) : jx_I d 89 [a0, a1, a2, a3, a4] M q ↔ jx_Ev d 89 0 [some a0, some a1, some a2, some a3, some a4] [] M (jx_qI q) := Iff.rfl
set_option maxRecDepth 100000 in
theorem eX8_isPerson :
  (∀ (d : Nat) (st : List Value) (M : jx_M) (Q : jx_Po) (l0 : Option Value) (x : Int32), jx_Ev d 90 0 [l0, some (.int x)] st M Q ↔ jx_Ev d 90 1 [l0, some (.int x)] (.int x :: st) M Q) ∧
  (∀ (d : Nat) (lv : List (Option Value)) (st : List Value) (M : jx_M) (Q : jx_Po) (x : Int32), jx_Ev d 90 1 lv (.int x :: st) M Q ↔ (if x < 0 then jx_Ev d 90 16 lv st M Q else jx_Ev d 90 4 lv st M Q)) ∧
  (∀ (d : Nat) (st : List Value) (M : jx_M) (Q : jx_Po) (l0 : Option Value) (x : Int32), jx_Ev d 90 4 [l0, some (.int x)] st M Q ↔ jx_Ev d 90 5 [l0, some (.int x)] (.int x :: st) M Q) ∧
  (∀ (d : Nat) (st : List Value) (M : jx_M) (Q : jx_Po) (l1 : Option Value) (x : Nat), jx_Ev d 90 5 [some (.ref x), l1] st M Q ↔ jx_Ev d 90 6 [some (.ref x), l1] (.ref x :: st) M Q) ∧
  (∀ (d : Nat) (lv : List (Option Value)) (st : List Value) (M : jx_M) (Q : jx_Po), jx_Ev d 90 6 lv (.ref 36 :: st) M Q ↔ jx_Ev d 90 9 lv (.int (M 36 5) :: st) M Q) ∧
  (∀ (d : Nat) (lv : List (Option Value)) (st : List Value) (M : jx_M) (Q : jx_Po) (x z : Int32), jx_Ev d 90 9 lv (.int z :: .int x :: st) M Q ↔ (if z ≤ x then jx_Ev d 90 16 lv st M Q else jx_Ev d 90 12 lv st M Q)) ∧
  (∀ (d : Nat) (lv : List (Option Value)) (st : List Value) (M : jx_M) (Q : jx_Po), jx_Ev d 90 12 lv st M Q ↔ jx_Ev d 90 13 lv (.int 1 :: st) M Q) ∧
  (∀ (d : Nat) (lv : List (Option Value)) (st : List Value) (M : jx_M) (Q : jx_Po), jx_Ev d 90 13 lv st M Q ↔ jx_Ev d 90 17 lv st M Q) ∧
  (∀ (d : Nat) (lv : List (Option Value)) (st : List Value) (M : jx_M) (Q : jx_Po), jx_Ev d 90 16 lv st M Q ↔ jx_Ev d 90 17 lv (.int 0 :: st) M Q) ∧
  (∀ (d : Nat) (lv : List (Option Value)) (M : jx_M) (Q : jx_Po) (x : Int32), jx_Ev d 90 17 lv [.int x] M Q ↔ ((x = 0 ∨ x = 1) ∧ Q [.int x] M)) := by
  refine ⟨?_, ?_, ?_, ?_, ?_, ?_, ?_, ?_, ?_, ?_⟩
  · exact fun d st M Q l0 x => jx_ev_st (jx_fok (by decide +kernel : decode (jx_mb 90) 0 = .ok (.iload_n 1, 1))) rfl rfl rfl
  · exact fun d lv st M Q x => jx_k_b1 (jx_fok (by decide +kernel : decode (jx_mb 90) 1 = .ok (.ifCond .lt 15, 3))) rfl jx_hLt
  · exact fun d st M Q l0 x => jx_ev_st (jx_fok (by decide +kernel : decode (jx_mb 90) 4 = .ok (.iload_n 1, 1))) rfl rfl rfl
  · exact fun d st M Q l1 x => jx_ev_st (jx_fok (by decide +kernel : decode (jx_mb 90) 5 = .ok (.aload_n 0, 1))) rfl rfl rfl
  · exact fun d lv st M Q => jx_k_gf (jx_fok (by decide +kernel : decode (jx_mb 90) 6 = .ok (.getfield 77, 3))) rfl rfl rfl
  · exact fun d lv st M Q x z => jx_k_b2 (jx_fok (by decide +kernel : decode (jx_mb 90) 9 = .ok (.if_icmp .ge 7, 3))) rfl jx_hGe
  · exact fun d lv st M Q => jx_ev_st (jx_fok (by decide +kernel : decode (jx_mb 90) 12 = .ok (.iconst 1, 1))) rfl rfl rfl
  · exact fun d lv st M Q => jx_k_goto (jx_fok (by decide +kernel : decode (jx_mb 90) 13 = .ok (.goto 4, 3))) rfl
  · exact fun d lv st M Q => jx_ev_st (jx_fok (by decide +kernel : decode (jx_mb 90) 16 = .ok (.iconst 0, 1))) rfl rfl rfl
  · exact fun d lv M Q x => jx_k_rz (jx_fok (by decide +kernel : decode (jx_mb 90) 17 = .ok (.ireturn, 1))) rfl
theorem kX8_isPerson (d : Nat) (M : jx_M) (q : Int32 → jx_M → Prop) (a0 a1 : Value) : jx_I d 90 [a0, a1] M q ↔ jx_Ev d 90 0 [some a0, some a1] [] M (jx_qI q) := Iff.rfl
set_option maxRecDepth 100000 in
theorem eX8_isClap :
  (∀ (d : Nat) (st : List Value) (M : jx_M) (Q : jx_Po) (l0 : Option Value) (x : Int32), jx_Ev d 91 0 [l0, some (.int x)] st M Q ↔ jx_Ev d 91 1 [l0, some (.int x)] (.int x :: st) M Q) ∧
  (∀ (d : Nat) (lv : List (Option Value)) (st : List Value) (M : jx_M) (Q : jx_Po) (x : Int32), jx_Ev d 91 1 lv (.int x :: st) M Q ↔ (if x < 0 then jx_Ev d 91 16 lv st M Q else jx_Ev d 91 4 lv st M Q)) ∧
  (∀ (d : Nat) (st : List Value) (M : jx_M) (Q : jx_Po) (l0 : Option Value) (x : Int32), jx_Ev d 91 4 [l0, some (.int x)] st M Q ↔ jx_Ev d 91 5 [l0, some (.int x)] (.int x :: st) M Q) ∧
  (∀ (d : Nat) (st : List Value) (M : jx_M) (Q : jx_Po) (l1 : Option Value) (x : Nat), jx_Ev d 91 5 [some (.ref x), l1] st M Q ↔ jx_Ev d 91 6 [some (.ref x), l1] (.ref x :: st) M Q) ∧
  (∀ (d : Nat) (lv : List (Option Value)) (st : List Value) (M : jx_M) (Q : jx_Po), jx_Ev d 91 6 lv (.ref 36 :: st) M Q ↔ jx_Ev d 91 9 lv (.int (M 36 6) :: st) M Q) ∧
  (∀ (d : Nat) (lv : List (Option Value)) (st : List Value) (M : jx_M) (Q : jx_Po) (x z : Int32), jx_Ev d 91 9 lv (.int z :: .int x :: st) M Q ↔ (if z ≤ x then jx_Ev d 91 16 lv st M Q else jx_Ev d 91 12 lv st M Q)) ∧
  (∀ (d : Nat) (lv : List (Option Value)) (st : List Value) (M : jx_M) (Q : jx_Po), jx_Ev d 91 12 lv st M Q ↔ jx_Ev d 91 13 lv (.int 1 :: st) M Q) ∧
  (∀ (d : Nat) (lv : List (Option Value)) (st : List Value) (M : jx_M) (Q : jx_Po), jx_Ev d 91 13 lv st M Q ↔ jx_Ev d 91 17 lv st M Q) ∧
  (∀ (d : Nat) (lv : List (Option Value)) (st : List Value) (M : jx_M) (Q : jx_Po), jx_Ev d 91 16 lv st M Q ↔ jx_Ev d 91 17 lv (.int 0 :: st) M Q) ∧
  (∀ (d : Nat) (lv : List (Option Value)) (M : jx_M) (Q : jx_Po) (x : Int32), jx_Ev d 91 17 lv [.int x] M Q ↔ ((x = 0 ∨ x = 1) ∧ Q [.int x] M)) := by
  refine ⟨?_, ?_, ?_, ?_, ?_, ?_, ?_, ?_, ?_, ?_⟩
  · exact fun d st M Q l0 x => jx_ev_st (jx_fok (by decide +kernel : decode (jx_mb 91) 0 = .ok (.iload_n 1, 1))) rfl rfl rfl
  · exact fun d lv st M Q x => jx_k_b1 (jx_fok (by decide +kernel : decode (jx_mb 91) 1 = .ok (.ifCond .lt 15, 3))) rfl jx_hLt
  · exact fun d st M Q l0 x => jx_ev_st (jx_fok (by decide +kernel : decode (jx_mb 91) 4 = .ok (.iload_n 1, 1))) rfl rfl rfl
  · exact fun d st M Q l1 x => jx_ev_st (jx_fok (by decide +kernel : decode (jx_mb 91) 5 = .ok (.aload_n 0, 1))) rfl rfl rfl
  · exact fun d lv st M Q => jx_k_gf (jx_fok (by decide +kernel : decode (jx_mb 91) 6 = .ok (.getfield 80, 3))) rfl rfl rfl
  · exact fun d lv st M Q x z => jx_k_b2 (jx_fok (by decide +kernel : decode (jx_mb 91) 9 = .ok (.if_icmp .ge 7, 3))) rfl jx_hGe
  · exact fun d lv st M Q => jx_ev_st (jx_fok (by decide +kernel : decode (jx_mb 91) 12 = .ok (.iconst 1, 1))) rfl rfl rfl
  · exact fun d lv st M Q => jx_k_goto (jx_fok (by decide +kernel : decode (jx_mb 91) 13 = .ok (.goto 4, 3))) rfl
  · exact fun d lv st M Q => jx_ev_st (jx_fok (by decide +kernel : decode (jx_mb 91) 16 = .ok (.iconst 0, 1))) rfl rfl rfl
  · exact fun d lv M Q x => jx_k_rz (jx_fok (by decide +kernel : decode (jx_mb 91) 17 = .ok (.ireturn, 1))) rfl
theorem kX8_isClap (d : Nat) (M : jx_M) (q : Int32 → jx_M → Prop) (a0 a1 : Value) : jx_I d 91 [a0, a1] M q ↔ jx_Ev d 91 0 [some a0, some a1] [] M (jx_qI q) := Iff.rfl
set_option maxRecDepth 100000 in
theorem eX8_digit :
  (∀ (d : Nat) (st : List Value) (M : jx_M) (Q : jx_Po) (l1 l2 l3 : Option Value) (x : Nat), jx_Ev d 92 0 [some (.ref x), l1, l2, l3] st M Q ↔ jx_Ev d 92 1 [some (.ref x), l1, l2, l3] (.ref x :: st) M Q) ∧
  (∀ (d : Nat) (lv : List (Option Value)) (st : List Value) (M : jx_M) (Q : jx_Po), jx_Ev d 92 1 lv (.ref 36 :: st) M Q ↔ jx_Ev d 92 4 lv (.int (M 36 14) :: st) M Q) ∧
  (∀ (d : Nat) (st : List Value) (M : jx_M) (Q : jx_Po) (l0 l2 l3 : Option Value) (x : Int32), jx_Ev d 92 4 [l0, some (.int x), l2, l3] st M Q ↔ jx_Ev d 92 5 [l0, some (.int x), l2, l3] (.int x :: st) M Q) ∧
  (∀ (d : Nat) (lv : List (Option Value)) (st : List Value) (M : jx_M) (Q : jx_Po) (x z : Int32), jx_Ev d 92 5 lv (.int z :: .int x :: st) M Q ↔ (if z ≤ x then jx_Ev d 92 31 lv st M Q else jx_Ev d 92 8 lv st M Q)) ∧
  (∀ (d : Nat) (st : List Value) (M : jx_M) (Q : jx_Po) (l1 l2 l3 : Option Value) (x : Nat), jx_Ev d 92 8 [some (.ref x), l1, l2, l3] st M Q ↔ jx_Ev d 92 9 [some (.ref x), l1, l2, l3] (.ref x :: st) M Q) ∧
  (∀ (d : Nat) (lv : List (Option Value)) (st : List Value) (M : jx_M) (Q : jx_Po), jx_Ev d 92 9 lv (.ref 36 :: st) M Q ↔ jx_Ev d 92 12 lv (.ref 39 :: st) M Q) ∧
  (∀ (d : Nat) (st : List Value) (M : jx_M) (Q : jx_Po) (l1 l2 l3 : Option Value) (x : Nat), jx_Ev d 92 12 [some (.ref x), l1, l2, l3] st M Q ↔ jx_Ev d 92 13 [some (.ref x), l1, l2, l3] (.ref x :: st) M Q) ∧
  (∀ (d : Nat) (lv : List (Option Value)) (st : List Value) (M : jx_M) (Q : jx_Po), jx_Ev d 92 13 lv (.ref 36 :: st) M Q ↔ jx_Ev d 92 16 lv (.int (M 36 14) :: st) M Q) ∧
  (∀ (d : Nat) (lv : List (Option Value)) (st : List Value) (M : jx_M) (Q : jx_Po) (x : Int32) (a : Nat) (ha : jx_cl a = 9), jx_Ev d 92 16 lv (.int x :: .ref a :: st) M Q ↔ (vp_in x (jx_sz a) ∧ jx_Ev d 92 17 lv (.int (M a x.toNatClampNeg) :: st) M Q)) ∧
  (∀ (d : Nat) (lv : List (Option Value)) (st : List Value) (M : jx_M) (Q : jx_Po), jx_Ev d 92 17 lv st M Q ↔ jx_Ev d 92 19 lv (.int 48 :: st) M Q) ∧
  (∀ (d : Nat) (st : List Value) (M : jx_M) (Q : jx_Po) (l0 l1 l3 : Option Value) (x : Int32), jx_Ev d 92 19 [l0, l1, some (.int x), l3] st M Q ↔ jx_Ev d 92 20 [l0, l1, some (.int x), l3] (.int x :: st) M Q) ∧
  (∀ (d : Nat) (lv : List (Option Value)) (st : List Value) (M : jx_M) (Q : jx_Po) (x z : Int32), jx_Ev d 92 20 lv (.int z :: .int x :: st) M Q ↔ jx_Ev d 92 21 lv (.int (x + z) :: st) M Q) ∧
  (∀ (d : Nat) (lv : List (Option Value)) (st : List Value) (M : jx_M) (Q : jx_Po), jx_Ev d 92 21 lv st M Q ↔ jx_Ev d 92 23 lv (.int 48 :: st) M Q) ∧
  (∀ (d : Nat) (st : List Value) (M : jx_M) (Q : jx_Po) (l0 l1 l2 : Option Value) (x : Int32), jx_Ev d 92 23 [l0, l1, l2, some (.int x)] st M Q ↔ jx_Ev d 92 24 [l0, l1, l2, some (.int x)] (.int x :: st) M Q) ∧
  (∀ (d : Nat) (lv : List (Option Value)) (st : List Value) (M : jx_M) (Q : jx_Po) (x z : Int32), jx_Ev d 92 24 lv (.int z :: .int x :: st) M Q ↔ jx_Ev d 92 25 lv (.int (x + z) :: st) M Q) ∧
  (∀ (d : Nat) (lv : List (Option Value)) (M : jx_M) (Q : jx_Po) (a0 : Int32) (a1 : Int32) (a2 : Int32), jx_Ev (d + 1) 92 25 lv [.int a0, .int a1, .int a2] M Q ↔ jx_I d 86 [.int a2, .int a1, .int a0] M (fun x M => jx_Ev (d + 1) 92 28 lv (.int x :: []) M Q)) ∧
  (∀ (d : Nat) (lv : List (Option Value)) (st : List Value) (M : jx_M) (Q : jx_Po) (x : Int32), jx_Ev d 92 28 lv (.int x :: st) M Q ↔ (if x = 0 then jx_Ev d 92 31 lv st M Q else jx_Ev d 92 34 lv st M Q)) ∧
  (∀ (d : Nat) (lv : List (Option Value)) (st : List Value) (M : jx_M) (Q : jx_Po), jx_Ev d 92 31 lv st M Q ↔ jx_Ev d 92 33 lv (.int (-9) :: st) M Q) ∧
  (∀ (d : Nat) (lv : List (Option Value)) (M : jx_M) (Q : jx_Po) (x : Int32), jx_Ev d 92 33 lv [.int x] M Q ↔ Q [.int x] M) ∧
  (∀ (d : Nat) (st : List Value) (M : jx_M) (Q : jx_Po) (l1 l2 l3 : Option Value) (x : Nat), jx_Ev d 92 34 [some (.ref x), l1, l2, l3] st M Q ↔ jx_Ev d 92 35 [some (.ref x), l1, l2, l3] (.ref x :: st) M Q) ∧
  (∀ (d : Nat) (lv : List (Option Value)) (st : List Value) (M : jx_M) (Q : jx_Po) (x : Nat), jx_Ev d 92 35 lv (.ref x :: st) M Q ↔ jx_Ev d 92 36 lv (.ref x :: .ref x :: st) M Q) ∧
  (∀ (d : Nat) (lv : List (Option Value)) (st : List Value) (M : jx_M) (Q : jx_Po), jx_Ev d 92 36 lv (.ref 36 :: st) M Q ↔ jx_Ev d 92 39 lv (.int (M 36 14) :: st) M Q) ∧
  (∀ (d : Nat) (lv : List (Option Value)) (st : List Value) (M : jx_M) (Q : jx_Po), jx_Ev d 92 39 lv st M Q ↔ jx_Ev d 92 40 lv (.int 1 :: st) M Q) ∧
  (∀ (d : Nat) (lv : List (Option Value)) (st : List Value) (M : jx_M) (Q : jx_Po) (x z : Int32), jx_Ev d 92 40 lv (.int z :: .int x :: st) M Q ↔ jx_Ev d 92 41 lv (.int (x + z) :: st) M Q) ∧
  (∀ (d : Nat) (lv : List (Option Value)) (st : List Value) (M : jx_M) (Q : jx_Po) (x : Int32), jx_Ev d 92 41 lv (.int x :: .ref 36 :: st) M Q ↔ jx_Ev d 92 44 lv st (jx_up M 36 14 x) Q) ∧
  (∀ (d : Nat) (st : List Value) (M : jx_M) (Q : jx_Po) (l1 l2 l3 : Option Value) (x : Nat), jx_Ev d 92 44 [some (.ref x), l1, l2, l3] st M Q ↔ jx_Ev d 92 45 [some (.ref x), l1, l2, l3] (.ref x :: st) M Q) ∧
  (∀ (d : Nat) (lv : List (Option Value)) (st : List Value) (M : jx_M) (Q : jx_Po), jx_Ev d 92 45 lv (.ref 36 :: st) M Q ↔ jx_Ev d 92 48 lv (.ref 39 :: st) M Q) ∧
  (∀ (d : Nat) (st : List Value) (M : jx_M) (Q : jx_Po) (l1 l2 l3 : Option Value) (x : Nat), jx_Ev d 92 48 [some (.ref x), l1, l2, l3] st M Q ↔ jx_Ev d 92 49 [some (.ref x), l1, l2, l3] (.ref x :: st) M Q) ∧
  (∀ (d : Nat) (lv : List (Option Value)) (st : List Value) (M : jx_M) (Q : jx_Po), jx_Ev d 92 49 lv (.ref 36 :: st) M Q ↔ jx_Ev d 92 52 lv (.int (M 36 14) :: st) M Q) ∧
  (∀ (d : Nat) (lv : List (Option Value)) (st : List Value) (M : jx_M) (Q : jx_Po), jx_Ev d 92 52 lv st M Q ↔ jx_Ev d 92 53 lv (.int 1 :: st) M Q) ∧
  (∀ (d : Nat) (lv : List (Option Value)) (st : List Value) (M : jx_M) (Q : jx_Po) (x z : Int32), jx_Ev d 92 53 lv (.int z :: .int x :: st) M Q ↔ jx_Ev d 92 54 lv (.int (x - z) :: st) M Q) ∧
  (∀ (d : Nat) (lv : List (Option Value)) (st : List Value) (M : jx_M) (Q : jx_Po) (x : Int32) (a : Nat) (ha : jx_cl a = 9), jx_Ev d 92 54 lv (.int x :: .ref a :: st) M Q ↔ (vp_in x (jx_sz a) ∧ jx_Ev d 92 55 lv (.int (M a x.toNatClampNeg) :: st) M Q)) ∧
  (∀ (d : Nat) (lv : List (Option Value)) (st : List Value) (M : jx_M) (Q : jx_Po), jx_Ev d 92 55 lv st M Q ↔ jx_Ev d 92 57 lv (.int 48 :: st) M Q) ∧
  (∀ (d : Nat) (lv : List (Option Value)) (st : List Value) (M : jx_M) (Q : jx_Po) (x z : Int32), jx_Ev d 92 57 lv (.int z :: .int x :: st) M Q ↔ jx_Ev d 92 58 lv (.int (x - z) :: st) M Q) ∧
  (∀ (d : Nat) (lv : List (Option Value)) (M : jx_M) (Q : jx_Po) (x : Int32), jx_Ev d 92 58 lv [.int x] M Q ↔ Q [.int x] M) := by
  refine ⟨?_, ?_, ?_, ?_, ?_, ?_, ?_, ?_, ?_, ?_, ?_, ?_, ?_, ?_, ?_, ?_, ?_, ?_, ?_, ?_, ?_, ?_, ?_, ?_, ?_, ?_, ?_, ?_, ?_, ?_, ?_, ?_, ?_, ?_, ?_⟩
  · exact fun d st M Q l1 l2 l3 x => jx_ev_st (jx_fok (by decide +kernel : decode (jx_mb 92) 0 = .ok (.aload_n 0, 1))) rfl rfl rfl
  · exact fun d lv st M Q => jx_k_gf (jx_fok (by decide +kernel : decode (jx_mb 92) 1 = .ok (.getfield 83, 3))) rfl rfl rfl
  · exact fun d st M Q l0 l2 l3 x => jx_ev_st (jx_fok (by decide +kernel : decode (jx_mb 92) 4 = .ok (.iload_n 1, 1))) rfl rfl rfl
  · exact fun d lv st M Q x z => jx_k_b2 (jx_fok (by decide +kernel : decode (jx_mb 92) 5 = .ok (.if_icmp .ge 26, 3))) rfl jx_hGe
  · exact fun d st M Q l1 l2 l3 x => jx_ev_st (jx_fok (by decide +kernel : decode (jx_mb 92) 8 = .ok (.aload_n 0, 1))) rfl rfl rfl
  · exact fun d lv st M Q => jx_k_gf (jx_fok (by decide +kernel : decode (jx_mb 92) 9 = .ok (.getfield 16, 3))) rfl rfl rfl
  · exact fun d st M Q l1 l2 l3 x => jx_ev_st (jx_fok (by decide +kernel : decode (jx_mb 92) 12 = .ok (.aload_n 0, 1))) rfl rfl rfl
  · exact fun d lv st M Q => jx_k_gf (jx_fok (by decide +kernel : decode (jx_mb 92) 13 = .ok (.getfield 83, 3))) rfl rfl rfl
  · exact fun d lv st M Q x a ha => jx_k_al (jx_fok (by decide +kernel : decode (jx_mb 92) 16 = .ok (.iaload, 1))) ha
  · exact fun d lv st M Q => jx_ev_st (jx_fok (by decide +kernel : decode (jx_mb 92) 17 = .ok (.bipush 48, 2))) rfl rfl rfl
  · exact fun d st M Q l0 l1 l3 x => jx_ev_st (jx_fok (by decide +kernel : decode (jx_mb 92) 19 = .ok (.iload_n 2, 1))) rfl rfl rfl
  · exact fun d lv st M Q x z => jx_ev_st (jx_fok (by decide +kernel : decode (jx_mb 92) 20 = .ok (.iadd, 1))) rfl rfl rfl
  · exact fun d lv st M Q => jx_ev_st (jx_fok (by decide +kernel : decode (jx_mb 92) 21 = .ok (.bipush 48, 2))) rfl rfl rfl
  · exact fun d st M Q l0 l1 l2 x => jx_ev_st (jx_fok (by decide +kernel : decode (jx_mb 92) 23 = .ok (.iload_n 3, 1))) rfl rfl rfl
  · exact fun d lv st M Q x z => jx_ev_st (jx_fok (by decide +kernel : decode (jx_mb 92) 24 = .ok (.iadd, 1))) rfl rfl rfl
  · exact fun d lv M Q a0 a1 a2 => jx_ev_ci (jx_fok (by decide +kernel : decode (jx_mb 92) 25 = .ok (.invokestatic 73, 3))) rfl (jx_ccS (As := [.int a2, .int a1, .int a0]) (rest := []) rfl rfl rfl rfl rfl) (by decide)
  · exact fun d lv st M Q x => jx_k_b1n (jx_fok (by decide +kernel : decode (jx_mb 92) 28 = .ok (.ifCond .ne 6, 3))) rfl jx_hNe
  · exact fun d lv st M Q => jx_ev_st (jx_fok (by decide +kernel : decode (jx_mb 92) 31 = .ok (.bipush (-9), 2))) rfl rfl rfl
  · exact fun d lv M Q x => jx_k_ri (jx_fok (by decide +kernel : decode (jx_mb 92) 33 = .ok (.ireturn, 1))) rfl
  · exact fun d st M Q l1 l2 l3 x => jx_ev_st (jx_fok (by decide +kernel : decode (jx_mb 92) 34 = .ok (.aload_n 0, 1))) rfl rfl rfl
  · exact fun d lv st M Q x => jx_ev_st (jx_fok (by decide +kernel : decode (jx_mb 92) 35 = .ok (.dup, 1))) rfl rfl rfl
  · exact fun d lv st M Q => jx_k_gf (jx_fok (by decide +kernel : decode (jx_mb 92) 36 = .ok (.getfield 83, 3))) rfl rfl rfl
  · exact fun d lv st M Q => jx_ev_st (jx_fok (by decide +kernel : decode (jx_mb 92) 39 = .ok (.iconst 1, 1))) rfl rfl rfl
  · exact fun d lv st M Q x z => jx_ev_st (jx_fok (by decide +kernel : decode (jx_mb 92) 40 = .ok (.iadd, 1))) rfl rfl rfl
  · exact fun d lv st M Q x => jx_k_pf0 (jx_fok (by decide +kernel : decode (jx_mb 92) 41 = .ok (.putfield 83, 3))) rfl rfl rfl
  · exact fun d st M Q l1 l2 l3 x => jx_ev_st (jx_fok (by decide +kernel : decode (jx_mb 92) 44 = .ok (.aload_n 0, 1))) rfl rfl rfl
  · exact fun d lv st M Q => jx_k_gf (jx_fok (by decide +kernel : decode (jx_mb 92) 45 = .ok (.getfield 16, 3))) rfl rfl rfl
  · exact fun d st M Q l1 l2 l3 x => jx_ev_st (jx_fok (by decide +kernel : decode (jx_mb 92) 48 = .ok (.aload_n 0, 1))) rfl rfl rfl
  · exact fun d lv st M Q => jx_k_gf (jx_fok (by decide +kernel : decode (jx_mb 92) 49 = .ok (.getfield 83, 3))) rfl rfl rfl
  · exact fun d lv st M Q => jx_ev_st (jx_fok (by decide +kernel : decode (jx_mb 92) 52 = .ok (.iconst 1, 1))) rfl rfl rfl
  · exact fun d lv st M Q x z => jx_ev_st (jx_fok (by decide +kernel : decode (jx_mb 92) 53 = .ok (.isub, 1))) rfl rfl rfl
  · exact fun d lv st M Q x a ha => jx_k_al (jx_fok (by decide +kernel : decode (jx_mb 92) 54 = .ok (.iaload, 1))) ha
  · exact fun d lv st M Q => jx_ev_st (jx_fok (by decide +kernel : decode (jx_mb 92) 55 = .ok (.bipush 48, 2))) rfl rfl rfl
  · exact fun d lv st M Q x z => jx_ev_st (jx_fok (by decide +kernel : decode (jx_mb 92) 57 = .ok (.isub, 1))) rfl rfl rfl
  · exact fun d lv M Q x => jx_k_ri (jx_fok (by decide +kernel : decode (jx_mb 92) 58 = .ok (.ireturn, 1))) rfl
theorem kX8_digit (d : Nat) (M : jx_M) (q : Int32 → jx_M → Prop) (a0 a1 a2 a3 : Value) : jx_I d 92 [a0, a1, a2, a3] M q ↔ jx_Ev d 92 0 [some a0, some a1, some a2, some a3] [] M (jx_qI q) := Iff.rfl
set_option maxRecDepth 100000 in
theorem eX8_isSign :
  (∀ (d : Nat) (st : List Value) (M : jx_M) (Q : jx_Po) (l1 l2 : Option Value) (x : Nat), jx_Ev d 93 0 [some (.ref x), l1, l2] st M Q ↔ jx_Ev d 93 1 [some (.ref x), l1, l2] (.ref x :: st) M Q) ∧
  (∀ (d : Nat) (lv : List (Option Value)) (st : List Value) (M : jx_M) (Q : jx_Po), jx_Ev d 93 1 lv (.ref 36 :: st) M Q ↔ jx_Ev d 93 4 lv (.int (M 36 14) :: st) M Q) ∧
  (∀ (d : Nat) (st : List Value) (M : jx_M) (Q : jx_Po) (l0 l2 : Option Value) (x : Int32), jx_Ev d 93 4 [l0, some (.int x), l2] st M Q ↔ jx_Ev d 93 5 [l0, some (.int x), l2] (.int x :: st) M Q) ∧
  (∀ (d : Nat) (lv : List (Option Value)) (st : List Value) (M : jx_M) (Q : jx_Po) (x z : Int32), jx_Ev d 93 5 lv (.int z :: .int x :: st) M Q ↔ (if z ≤ x then jx_Ev d 93 21 lv st M Q else jx_Ev d 93 8 lv st M Q)) ∧
  (∀ (d : Nat) (st : List Value) (M : jx_M) (Q : jx_Po) (l1 l2 : Option Value) (x : Nat), jx_Ev d 93 8 [some (.ref x), l1, l2] st M Q ↔ jx_Ev d 93 9 [some (.ref x), l1, l2] (.ref x :: st) M Q) ∧
  (∀ (d : Nat) (lv : List (Option Value)) (st : List Value) (M : jx_M) (Q : jx_Po), jx_Ev d 93 9 lv (.ref 36 :: st) M Q ↔ jx_Ev d 93 12 lv (.ref 39 :: st) M Q) ∧
  (∀ (d : Nat) (st : List Value) (M : jx_M) (Q : jx_Po) (l1 l2 : Option Value) (x : Nat), jx_Ev d 93 12 [some (.ref x), l1, l2] st M Q ↔ jx_Ev d 93 13 [some (.ref x), l1, l2] (.ref x :: st) M Q) ∧
  (∀ (d : Nat) (lv : List (Option Value)) (st : List Value) (M : jx_M) (Q : jx_Po), jx_Ev d 93 13 lv (.ref 36 :: st) M Q ↔ jx_Ev d 93 16 lv (.int (M 36 14) :: st) M Q) ∧
  (∀ (d : Nat) (lv : List (Option Value)) (st : List Value) (M : jx_M) (Q : jx_Po) (x : Int32) (a : Nat) (ha : jx_cl a = 9), jx_Ev d 93 16 lv (.int x :: .ref a :: st) M Q ↔ (vp_in x (jx_sz a) ∧ jx_Ev d 93 17 lv (.int (M a x.toNatClampNeg) :: st) M Q)) ∧
  (∀ (d : Nat) (st : List Value) (M : jx_M) (Q : jx_Po) (l0 l1 : Option Value) (x : Int32), jx_Ev d 93 17 [l0, l1, some (.int x)] st M Q ↔ jx_Ev d 93 18 [l0, l1, some (.int x)] (.int x :: st) M Q) ∧
  (∀ (d : Nat) (lv : List (Option Value)) (st : List Value) (M : jx_M) (Q : jx_Po) (x z : Int32), jx_Ev d 93 18 lv (.int z :: .int x :: st) M Q ↔ (if x = z then jx_Ev d 93 23 lv st M Q else jx_Ev d 93 21 lv st M Q)) ∧
  (∀ (d : Nat) (lv : List (Option Value)) (st : List Value) (M : jx_M) (Q : jx_Po), jx_Ev d 93 21 lv st M Q ↔ jx_Ev d 93 22 lv (.int 0 :: st) M Q) ∧
  (∀ (d : Nat) (lv : List (Option Value)) (M : jx_M) (Q : jx_Po) (x : Int32), jx_Ev d 93 22 lv [.int x] M Q ↔ ((x = 0 ∨ x = 1) ∧ Q [.int x] M)) ∧
  (∀ (d : Nat) (st : List Value) (M : jx_M) (Q : jx_Po) (l1 l2 : Option Value) (x : Nat), jx_Ev d 93 23 [some (.ref x), l1, l2] st M Q ↔ jx_Ev d 93 24 [some (.ref x), l1, l2] (.ref x :: st) M Q) ∧
  (∀ (d : Nat) (lv : List (Option Value)) (st : List Value) (M : jx_M) (Q : jx_Po) (x : Nat), jx_Ev d 93 24 lv (.ref x :: st) M Q ↔ jx_Ev d 93 25 lv (.ref x :: .ref x :: st) M Q) ∧
  (∀ (d : Nat) (lv : List (Option Value)) (st : List Value) (M : jx_M) (Q : jx_Po), jx_Ev d 93 25 lv (.ref 36 :: st) M Q ↔ jx_Ev d 93 28 lv (.int (M 36 14) :: st) M Q) ∧
  (∀ (d : Nat) (lv : List (Option Value)) (st : List Value) (M : jx_M) (Q : jx_Po), jx_Ev d 93 28 lv st M Q ↔ jx_Ev d 93 29 lv (.int 1 :: st) M Q) ∧
  (∀ (d : Nat) (lv : List (Option Value)) (st : List Value) (M : jx_M) (Q : jx_Po) (x z : Int32), jx_Ev d 93 29 lv (.int z :: .int x :: st) M Q ↔ jx_Ev d 93 30 lv (.int (x + z) :: st) M Q) ∧
  (∀ (d : Nat) (lv : List (Option Value)) (st : List Value) (M : jx_M) (Q : jx_Po) (x : Int32), jx_Ev d 93 30 lv (.int x :: .ref 36 :: st) M Q ↔ jx_Ev d 93 33 lv st (jx_up M 36 14 x) Q) ∧
  (∀ (d : Nat) (lv : List (Option Value)) (st : List Value) (M : jx_M) (Q : jx_Po), jx_Ev d 93 33 lv st M Q ↔ jx_Ev d 93 34 lv (.int 1 :: st) M Q) ∧
  (∀ (d : Nat) (lv : List (Option Value)) (M : jx_M) (Q : jx_Po) (x : Int32), jx_Ev d 93 34 lv [.int x] M Q ↔ ((x = 0 ∨ x = 1) ∧ Q [.int x] M)) := by
  refine ⟨?_, ?_, ?_, ?_, ?_, ?_, ?_, ?_, ?_, ?_, ?_, ?_, ?_, ?_, ?_, ?_, ?_, ?_, ?_, ?_, ?_⟩
  · exact fun d st M Q l1 l2 x => jx_ev_st (jx_fok (by decide +kernel : decode (jx_mb 93) 0 = .ok (.aload_n 0, 1))) rfl rfl rfl
  · exact fun d lv st M Q => jx_k_gf (jx_fok (by decide +kernel : decode (jx_mb 93) 1 = .ok (.getfield 83, 3))) rfl rfl rfl
  · exact fun d st M Q l0 l2 x => jx_ev_st (jx_fok (by decide +kernel : decode (jx_mb 93) 4 = .ok (.iload_n 1, 1))) rfl rfl rfl
  · exact fun d lv st M Q x z => jx_k_b2 (jx_fok (by decide +kernel : decode (jx_mb 93) 5 = .ok (.if_icmp .ge 16, 3))) rfl jx_hGe
  · exact fun d st M Q l1 l2 x => jx_ev_st (jx_fok (by decide +kernel : decode (jx_mb 93) 8 = .ok (.aload_n 0, 1))) rfl rfl rfl
  · exact fun d lv st M Q => jx_k_gf (jx_fok (by decide +kernel : decode (jx_mb 93) 9 = .ok (.getfield 16, 3))) rfl rfl rfl
  · exact fun d st M Q l1 l2 x => jx_ev_st (jx_fok (by decide +kernel : decode (jx_mb 93) 12 = .ok (.aload_n 0, 1))) rfl rfl rfl
  · exact fun d lv st M Q => jx_k_gf (jx_fok (by decide +kernel : decode (jx_mb 93) 13 = .ok (.getfield 83, 3))) rfl rfl rfl
  · exact fun d lv st M Q x a ha => jx_k_al (jx_fok (by decide +kernel : decode (jx_mb 93) 16 = .ok (.iaload, 1))) ha
  · exact fun d st M Q l0 l1 x => jx_ev_st (jx_fok (by decide +kernel : decode (jx_mb 93) 17 = .ok (.iload_n 2, 1))) rfl rfl rfl
  · exact fun d lv st M Q x z => jx_k_b2 (jx_fok (by decide +kernel : decode (jx_mb 93) 18 = .ok (.if_icmp .eq 5, 3))) rfl jx_hEq
  · exact fun d lv st M Q => jx_ev_st (jx_fok (by decide +kernel : decode (jx_mb 93) 21 = .ok (.iconst 0, 1))) rfl rfl rfl
  · exact fun d lv M Q x => jx_k_rz (jx_fok (by decide +kernel : decode (jx_mb 93) 22 = .ok (.ireturn, 1))) rfl
  · exact fun d st M Q l1 l2 x => jx_ev_st (jx_fok (by decide +kernel : decode (jx_mb 93) 23 = .ok (.aload_n 0, 1))) rfl rfl rfl
  · exact fun d lv st M Q x => jx_ev_st (jx_fok (by decide +kernel : decode (jx_mb 93) 24 = .ok (.dup, 1))) rfl rfl rfl
  · exact fun d lv st M Q => jx_k_gf (jx_fok (by decide +kernel : decode (jx_mb 93) 25 = .ok (.getfield 83, 3))) rfl rfl rfl
  · exact fun d lv st M Q => jx_ev_st (jx_fok (by decide +kernel : decode (jx_mb 93) 28 = .ok (.iconst 1, 1))) rfl rfl rfl
  · exact fun d lv st M Q x z => jx_ev_st (jx_fok (by decide +kernel : decode (jx_mb 93) 29 = .ok (.iadd, 1))) rfl rfl rfl
  · exact fun d lv st M Q x => jx_k_pf0 (jx_fok (by decide +kernel : decode (jx_mb 93) 30 = .ok (.putfield 83, 3))) rfl rfl rfl
  · exact fun d lv st M Q => jx_ev_st (jx_fok (by decide +kernel : decode (jx_mb 93) 33 = .ok (.iconst 1, 1))) rfl rfl rfl
  · exact fun d lv M Q x => jx_k_rz (jx_fok (by decide +kernel : decode (jx_mb 93) 34 = .ok (.ireturn, 1))) rfl
theorem kX8_isSign (d : Nat) (M : jx_M) (q : Int32 → jx_M → Prop) (a0 a1 a2 : Value) : jx_I d 93 [a0, a1, a2] M q ↔ jx_Ev d 93 0 [some a0, some a1, some a2] [] M (jx_qI q) := Iff.rfl
set_option maxRecDepth 100000 in
theorem eX8_office :
  (∀ (d : Nat) (st : List Value) (M : jx_M) (Q : jx_Po) (l1 l2 l3 l4 l5 l6 : Option Value) (x : Nat), jx_Ev d 94 0 [some (.ref x), l1, l2, l3, l4, l5, l6] st M Q ↔ jx_Ev d 94 1 [some (.ref x), l1, l2, l3, l4, l5, l6] (.ref x :: st) M Q) ∧
  (∀ (d : Nat) (lv : List (Option Value)) (st : List Value) (M : jx_M) (Q : jx_Po), jx_Ev d 94 1 lv st M Q ↔ jx_Ev d 94 2 lv (.int 0 :: st) M Q) ∧
  (∀ (d : Nat) (lv : List (Option Value)) (st : List Value) (M : jx_M) (Q : jx_Po) (x : Int32), jx_Ev d 94 2 lv (.int x :: .ref 36 :: st) M Q ↔ jx_Ev d 94 5 lv st (jx_up M 36 0 x) Q) ∧
  (∀ (d : Nat) (st : List Value) (M : jx_M) (Q : jx_Po) (l0 l2 l3 l4 l5 l6 : Option Value) (x : Int32), jx_Ev d 94 5 [l0, some (.int x), l2, l3, l4, l5, l6] st M Q ↔ jx_Ev d 94 6 [l0, some (.int x), l2, l3, l4, l5, l6] (.int x :: st) M Q) ∧
  (∀ (d : Nat) (lv : List (Option Value)) (M : jx_M) (Q : jx_Po) (a0 : Int32), jx_Ev (d + 1) 94 6 lv [.int a0] M Q ↔ jx_I d 87 [.int a0] M (fun x M => jx_Ev (d + 1) 94 9 lv (.int x :: []) M Q)) ∧
  (∀ (d : Nat) (lv : List (Option Value)) (st : List Value) (M : jx_M) (Q : jx_Po) (x : Int32), jx_Ev d 94 9 lv (.int x :: st) M Q ↔ (if x = 0 then jx_Ev d 94 12 lv st M Q else jx_Ev d 94 14 lv st M Q)) ∧
  (∀ (d : Nat) (lv : List (Option Value)) (st : List Value) (M : jx_M) (Q : jx_Po), jx_Ev d 94 12 lv st M Q ↔ jx_Ev d 94 13 lv (.int (-1) :: st) M Q) ∧
  (∀ (d : Nat) (lv : List (Option Value)) (M : jx_M) (Q : jx_Po) (x : Int32), jx_Ev d 94 13 lv [.int x] M Q ↔ Q [.int x] M) ∧
  (∀ (d : Nat) (st : List Value) (M : jx_M) (Q : jx_Po) (l0 l1 l3 l4 l5 l6 : Option Value) (x : Int32), jx_Ev d 94 14 [l0, l1, some (.int x), l3, l4, l5, l6] st M Q ↔ jx_Ev d 94 15 [l0, l1, some (.int x), l3, l4, l5, l6] (.int x :: st) M Q) ∧
  (∀ (d : Nat) (lv : List (Option Value)) (M : jx_M) (Q : jx_Po) (a0 : Int32), jx_Ev (d + 1) 94 15 lv [.int a0] M Q ↔ jx_I d 88 [.int a0] M (fun x M => jx_Ev (d + 1) 94 18 lv (.int x :: []) M Q)) ∧
  (∀ (d : Nat) (lv : List (Option Value)) (st : List Value) (M : jx_M) (Q : jx_Po) (x : Int32), jx_Ev d 94 18 lv (.int x :: st) M Q ↔ (if x = 0 then jx_Ev d 94 21 lv st M Q else jx_Ev d 94 24 lv st M Q)) ∧
  (∀ (d : Nat) (lv : List (Option Value)) (st : List Value) (M : jx_M) (Q : jx_Po), jx_Ev d 94 21 lv st M Q ↔ jx_Ev d 94 23 lv (.int (-2) :: st) M Q) ∧
  (∀ (d : Nat) (lv : List (Option Value)) (M : jx_M) (Q : jx_Po) (x : Int32), jx_Ev d 94 23 lv [.int x] M Q ↔ Q [.int x] M) ∧
  (∀ (d : Nat) (st : List Value) (M : jx_M) (Q : jx_Po) (l1 l2 l3 l4 l5 l6 : Option Value) (x : Nat), jx_Ev d 94 24 [some (.ref x), l1, l2, l3, l4, l5, l6] st M Q ↔ jx_Ev d 94 25 [some (.ref x), l1, l2, l3, l4, l5, l6] (.ref x :: st) M Q) ∧
  (∀ (d : Nat) (st : List Value) (M : jx_M) (Q : jx_Po) (l0 l2 l3 l4 l5 l6 : Option Value) (x : Int32), jx_Ev d 94 25 [l0, some (.int x), l2, l3, l4, l5, l6] st M Q ↔ jx_Ev d 94 26 [l0, some (.int x), l2, l3, l4, l5, l6] (.int x :: st) M Q) ∧
  (∀ (d : Nat) (st : List Value) (M : jx_M) (Q : jx_Po) (l0 l1 l3 l4 l5 l6 : Option Value) (x : Int32), jx_Ev d 94 26 [l0, l1, some (.int x), l3, l4, l5, l6] st M Q ↔ jx_Ev d 94 27 [l0, l1, some (.int x), l3, l4, l5, l6] (.int x :: st) M Q) ∧
  (∀ (d : Nat) (st : List Value) (M : jx_M) (Q : jx_Po) (l0 l1 l2 l4 l5 l6 : Option Value) (x : Int32), jx_Ev d 94 27 [l0, l1, l2, some (.int x), l4, l5, l6] st M Q ↔ jx_Ev d 94 28 [l0, l1, l2, some (.int x), l4, l5, l6] (.int x :: st) M Q) ∧
  (∀ (d : Nat) (st : List Value) (M : jx_M) (Q : jx_Po) (l0 l1 l2 l3 l5 l6 : Option Value) (x : Int32), jx_Ev d 94 28 [l0, l1, l2, l3, some (.int x), l5, l6] st M Q ↔ jx_Ev d 94 30 [l0, l1, l2, l3, some (.int x), l5, l6] (.int x :: st) M Q) ∧
  (∀ (d : Nat) (lv : List (Option Value)) (M : jx_M) (Q : jx_Po) (a0 : Int32) (a1 : Int32) (a2 : Int32) (a3 : Int32), jx_Ev (d + 1) 94 30 lv [.int a0, .int a1, .int a2, .int a3, .ref 36] M Q ↔ jx_I d 89 [.ref 36, .int a3, .int a2, .int a1, .int a0] M (fun x M => jx_Ev (d + 1) 94 33 lv (.int x :: []) M Q)) ∧
  (∀ (d : Nat) (st : List Value) (M : jx_M) (Q : jx_Po) (l0 l1 l2 l3 l4 l5 l6 : Option Value) (x : Int32), jx_Ev d 94 33 [l0, l1, l2, l3, l4, l5, l6] (.int x :: st) M Q ↔ jx_Ev d 94 35 [l0, l1, l2, l3, l4, some (.int x), l6] st M Q) ∧
  (∀ (d : Nat) (st : List Value) (M : jx_M) (Q : jx_Po) (l0 l1 l2 l3 l4 l6 : Option Value) (x : Int32), jx_Ev d 94 35 [l0, l1, l2, l3, l4, some (.int x), l6] st M Q ↔ jx_Ev d 94 37 [l0, l1, l2, l3, l4, some (.int x), l6] (.int x :: st) M Q) ∧
  (∀ (d : Nat) (lv : List (Option Value)) (st : List Value) (M : jx_M) (Q : jx_Po) (x : Int32), jx_Ev d 94 37 lv (.int x :: st) M Q ↔ (if x = 0 then jx_Ev d 94 47 lv st M Q else jx_Ev d 94 40 lv st M Q)) ∧
  (∀ (d : Nat) (st : List Value) (M : jx_M) (Q : jx_Po) (l1 l2 l3 l4 l5 l6 : Option Value) (x : Nat), jx_Ev d 94 40 [some (.ref x), l1, l2, l3, l4, l5, l6] st M Q ↔ jx_Ev d 94 41 [some (.ref x), l1, l2, l3, l4, l5, l6] (.ref x :: st) M Q) ∧
  (∀ (d : Nat) (st : List Value) (M : jx_M) (Q : jx_Po) (l0 l1 l2 l3 l4 l6 : Option Value) (x : Int32), jx_Ev d 94 41 [l0, l1, l2, l3, l4, some (.int x), l6] st M Q ↔ jx_Ev d 94 43 [l0, l1, l2, l3, l4, some (.int x), l6] (.int x :: st) M Q) ∧
  (∀ (d : Nat) (lv : List (Option Value)) (M : jx_M) (Q : jx_Po) (a0 : Int32), jx_Ev (d + 1) 94 43 lv [.int a0, .ref 36] M Q ↔ jx_I d 84 [.ref 36, .int a0] M (fun x M => jx_Ev (d + 1) 94 46 lv (.int x :: []) M Q)) ∧
  (∀ (d : Nat) (lv : List (Option Value)) (M : jx_M) (Q : jx_Po) (x : Int32), jx_Ev d 94 46 lv [.int x] M Q ↔ Q [.int x] M) ∧
  (∀ (d : Nat) (lv : List (Option Value)) (st : List Value) (M : jx_M) (Q : jx_Po), jx_Ev d 94 47 lv st M Q ↔ jx_Ev d 94 49 lv (.int 60 :: st) M Q) ∧
  (∀ (d : Nat) (st : List Value) (M : jx_M) (Q : jx_Po) (l0 l2 l3 l4 l5 l6 : Option Value) (x : Int32), jx_Ev d 94 49 [l0, some (.int x), l2, l3, l4, l5, l6] st M Q ↔ jx_Ev d 94 50 [l0, some (.int x), l2, l3, l4, l5, l6] (.int x :: st) M Q) ∧
  (∀ (d : Nat) (lv : List (Option Value)) (st : List Value) (M : jx_M) (Q : jx_Po) (x z : Int32), jx_Ev d 94 50 lv (.int z :: .int x :: st) M Q ↔ jx_Ev d 94 51 lv (.int (x * z) :: st) M Q) ∧
  (∀ (d : Nat) (st : List Value) (M : jx_M) (Q : jx_Po) (l0 l1 l2 l4 l5 l6 : Option Value) (x : Int32), jx_Ev d 94 51 [l0, l1, l2, some (.int x), l4, l5, l6] st M Q ↔ jx_Ev d 94 52 [l0, l1, l2, some (.int x), l4, l5, l6] (.int x :: st) M Q) ∧
  (∀ (d : Nat) (lv : List (Option Value)) (st : List Value) (M : jx_M) (Q : jx_Po) (x z : Int32), jx_Ev d 94 52 lv (.int z :: .int x :: st) M Q ↔ jx_Ev d 94 53 lv (.int (x + z) :: st) M Q) ∧
  (∀ (d : Nat) (st : List Value) (M : jx_M) (Q : jx_Po) (l0 l1 l2 l3 l4 l5 l6 : Option Value) (x : Int32), jx_Ev d 94 53 [l0, l1, l2, l3, l4, l5, l6] (.int x :: st) M Q ↔ jx_Ev d 94 55 [l0, l1, l2, l3, l4, l5, some (.int x)] st M Q) ∧
  (∀ (d : Nat) (st : List Value) (M : jx_M) (Q : jx_Po) (l1 l2 l3 l4 l5 l6 : Option Value) (x : Nat), jx_Ev d 94 55 [some (.ref x), l1, l2, l3, l4, l5, l6] st M Q ↔ jx_Ev d 94 56 [some (.ref x), l1, l2, l3, l4, l5, l6] (.ref x :: st) M Q) ∧
  (∀ (d : Nat) (st : List Value) (M : jx_M) (Q : jx_Po) (l0 l1 l2 l3 l4 l5 : Option Value) (x : Int32), jx_Ev d 94 56 [l0, l1, l2, l3, l4, l5, some (.int x)] st M Q ↔ jx_Ev d 94 58 [l0, l1, l2, l3, l4, l5, some (.int x)] (.int x :: st) M Q) ∧
  (∀ (d : Nat) (lv : List (Option Value)) (st : List Value) (M : jx_M) (Q : jx_Po) (x : Int32), jx_Ev d 94 58 lv (.int x :: .ref 36 :: st) M Q ↔ jx_Ev d 94 61 lv st (jx_up M 36 14 x) Q) ∧
  (∀ (d : Nat) (st : List Value) (M : jx_M) (Q : jx_Po) (l1 l2 l3 l4 l5 l6 : Option Value) (x : Nat), jx_Ev d 94 61 [some (.ref x), l1, l2, l3, l4, l5, l6] st M Q ↔ jx_Ev d 94 62 [some (.ref x), l1, l2, l3, l4, l5, l6] (.ref x :: st) M Q) ∧
  (∀ (d : Nat) (st : List Value) (M : jx_M) (Q : jx_Po) (l0 l1 l2 l3 l4 l5 : Option Value) (x : Int32), jx_Ev d 94 62 [l0, l1, l2, l3, l4, l5, some (.int x)] st M Q ↔ jx_Ev d 94 64 [l0, l1, l2, l3, l4, l5, some (.int x)] (.int x :: st) M Q) ∧
  (∀ (d : Nat) (st : List Value) (M : jx_M) (Q : jx_Po) (l0 l1 l2 l3 l5 l6 : Option Value) (x : Int32), jx_Ev d 94 64 [l0, l1, l2, l3, some (.int x), l5, l6] st M Q ↔ jx_Ev d 94 66 [l0, l1, l2, l3, some (.int x), l5, l6] (.int x :: st) M Q) ∧
  (∀ (d : Nat) (lv : List (Option Value)) (st : List Value) (M : jx_M) (Q : jx_Po) (x z : Int32), jx_Ev d 94 66 lv (.int z :: .int x :: st) M Q ↔ jx_Ev d 94 67 lv (.int (x + z) :: st) M Q) ∧
  (∀ (d : Nat) (lv : List (Option Value)) (M : jx_M) (Q : jx_Po) (a0 : Int32), jx_Ev (d + 1) 94 67 lv [.int a0, .ref 36] M Q ↔ jx_I d 96 [.ref 36, .int a0] M (fun x M => jx_Ev (d + 1) 94 70 lv (.int x :: []) M Q)) ∧
  (∀ (d : Nat) (lv : List (Option Value)) (st : List Value) (M : jx_M) (Q : jx_Po) (x : Int32), jx_Ev d 94 70 lv (.int x :: st) M Q ↔ (if x = 0 then jx_Ev d 94 73 lv st M Q else jx_Ev d 94 84 lv st M Q)) ∧
  (∀ (d : Nat) (lv : List (Option Value)) (st : List Value) (M : jx_M) (Q : jx_Po), jx_Ev d 94 73 lv st M Q ↔ jx_Ev d 94 75 lv (.int (-100) :: st) M Q) ∧
  (∀ (d : Nat) (st : List Value) (M : jx_M) (Q : jx_Po) (l1 l2 l3 l4 l5 l6 : Option Value) (x : Nat), jx_Ev d 94 75 [some (.ref x), l1, l2, l3, l4, l5, l6] st M Q ↔ jx_Ev d 94 76 [some (.ref x), l1, l2, l3, l4, l5, l6] (.ref x :: st) M Q) ∧
  (∀ (d : Nat) (lv : List (Option Value)) (st : List Value) (M : jx_M) (Q : jx_Po), jx_Ev d 94 76 lv (.ref 36 :: st) M Q ↔ jx_Ev d 94 79 lv (.int (M 36 14) :: st) M Q) ∧
  (∀ (d : Nat) (st : List Value) (M : jx_M) (Q : jx_Po) (l0 l1 l2 l3 l4 l5 : Option Value) (x : Int32), jx_Ev d 94 79 [l0, l1, l2, l3, l4, l5, some (.int x)] st M Q ↔ jx_Ev d 94 81 [l0, l1, l2, l3, l4, l5, some (.int x)] (.int x :: st) M Q) ∧
  (∀ (d : Nat) (lv : List (Option Value)) (st : List Value) (M : jx_M) (Q : jx_Po) (x z : Int32), jx_Ev d 94 81 lv (.int z :: .int x :: st) M Q ↔ jx_Ev d 94 82 lv (.int (x - z) :: st) M Q) ∧
  (∀ (d : Nat) (lv : List (Option Value)) (st : List Value) (M : jx_M) (Q : jx_Po) (x z : Int32), jx_Ev d 94 82 lv (.int z :: .int x :: st) M Q ↔ jx_Ev d 94 83 lv (.int (x - z) :: st) M Q) ∧
  (∀ (d : Nat) (lv : List (Option Value)) (M : jx_M) (Q : jx_Po) (x : Int32), jx_Ev d 94 83 lv [.int x] M Q ↔ Q [.int x] M) ∧
  (∀ (d : Nat) (st : List Value) (M : jx_M) (Q : jx_Po) (l1 l2 l3 l4 l5 l6 : Option Value) (x : Nat), jx_Ev d 94 84 [some (.ref x), l1, l2, l3, l4, l5, l6] st M Q ↔ jx_Ev d 94 85 [some (.ref x), l1, l2, l3, l4, l5, l6] (.ref x :: st) M Q) ∧
  (∀ (d : Nat) (lv : List (Option Value)) (M : jx_M) (Q : jx_Po), jx_Ev (d + 1) 94 85 lv [.ref 36] M Q ↔ jx_V d 95 [.ref 36] M (fun M => jx_Ev (d + 1) 94 88 lv [] M Q)) ∧
  (∀ (d : Nat) (st : List Value) (M : jx_M) (Q : jx_Po) (l1 l2 l3 l4 l5 l6 : Option Value) (x : Nat), jx_Ev d 94 88 [some (.ref x), l1, l2, l3, l4, l5, l6] st M Q ↔ jx_Ev d 94 89 [some (.ref x), l1, l2, l3, l4, l5, l6] (.ref x :: st) M Q) ∧
  (∀ (d : Nat) (lv : List (Option Value)) (st : List Value) (M : jx_M) (Q : jx_Po), jx_Ev d 94 89 lv (.ref 36 :: st) M Q ↔ jx_Ev d 94 92 lv (.int (M 36 6) :: st) M Q) ∧
  (∀ (d : Nat) (lv : List (Option Value)) (M : jx_M) (Q : jx_Po) (x : Int32), jx_Ev d 94 92 lv [.int x] M Q ↔ Q [.int x] M) := by
  refine ⟨?_, ?_, ?_, ?_, ?_, ?_, ?_, ?_, ?_, ?_, ?_, ?_, ?_, ?_, ?_, ?_, ?_, ?_, ?_, ?_, ?_, ?_, ?_, ?_, ?_, ?_, ?_, ?_, ?_, ?_, ?_, ?_, ?_, ?_, ?_, ?_, ?_, ?_, ?_, ?_, ?_, ?_, ?_, ?_, ?_, ?_, ?_, ?_, ?_, ?_, ?_, ?_, ?_⟩
  · exact fun d st M Q l1 l2 l3 l4 l5 l6 x => jx_ev_st (jx_fok (by decide +kernel : decode (jx_mb 94) 0 = .ok (.aload_n 0, 1))) rfl rfl rfl
  · exact fun d lv st M Q => jx_ev_st (jx_fok (by decide +kernel : decode (jx_mb 94) 1 = .ok (.iconst 0, 1))) rfl rfl rfl
  · exact fun d lv st M Q x => jx_k_pf0 (jx_fok (by decide +kernel : decode (jx_mb 94) 2 = .ok (.putfield 67, 3))) rfl rfl rfl
  · exact fun d st M Q l0 l2 l3 l4 l5 l6 x => jx_ev_st (jx_fok (by decide +kernel : decode (jx_mb 94) 5 = .ok (.iload_n 1, 1))) rfl rfl rfl
  · exact fun d lv M Q a0 => jx_ev_ci (jx_fok (by decide +kernel : decode (jx_mb 94) 6 = .ok (.invokestatic 86, 3))) rfl (jx_ccS (As := [.int a0]) (rest := []) rfl rfl rfl rfl rfl) (by decide)
  · exact fun d lv st M Q x => jx_k_b1n (jx_fok (by decide +kernel : decode (jx_mb 94) 9 = .ok (.ifCond .ne 5, 3))) rfl jx_hNe
  · exact fun d lv st M Q => jx_ev_st (jx_fok (by decide +kernel : decode (jx_mb 94) 12 = .ok (.iconst (-1), 1))) rfl rfl rfl
  · exact fun d lv M Q x => jx_k_ri (jx_fok (by decide +kernel : decode (jx_mb 94) 13 = .ok (.ireturn, 1))) rfl
  · exact fun d st M Q l0 l1 l3 l4 l5 l6 x => jx_ev_st (jx_fok (by decide +kernel : decode (jx_mb 94) 14 = .ok (.iload_n 2, 1))) rfl rfl rfl
  · exact fun d lv M Q a0 => jx_ev_ci (jx_fok (by decide +kernel : decode (jx_mb 94) 15 = .ok (.invokestatic 90, 3))) rfl (jx_ccS (As := [.int a0]) (rest := []) rfl rfl rfl rfl rfl) (by decide)
  · exact fun d lv st M Q x => jx_k_b1n (jx_fok (by decide +kernel : decode (jx_mb 94) 18 = .ok (.ifCond .ne 6, 3))) rfl jx_hNe
  · exact fun d lv st M Q => jx_ev_st (jx_fok (by decide +kernel : decode (jx_mb 94) 21 = .ok (.bipush (-2), 2))) rfl rfl rfl
  · exact fun d lv M Q x => jx_k_ri (jx_fok (by decide +kernel : decode (jx_mb 94) 23 = .ok (.ireturn, 1))) rfl
  · exact fun d st M Q l1 l2 l3 l4 l5 l6 x => jx_ev_st (jx_fok (by decide +kernel : decode (jx_mb 94) 24 = .ok (.aload_n 0, 1))) rfl rfl rfl
  · exact fun d st M Q l0 l2 l3 l4 l5 l6 x => jx_ev_st (jx_fok (by decide +kernel : decode (jx_mb 94) 25 = .ok (.iload_n 1, 1))) rfl rfl rfl
  · exact fun d st M Q l0 l1 l3 l4 l5 l6 x => jx_ev_st (jx_fok (by decide +kernel : decode (jx_mb 94) 26 = .ok (.iload_n 2, 1))) rfl rfl rfl
  · exact fun d st M Q l0 l1 l2 l4 l5 l6 x => jx_ev_st (jx_fok (by decide +kernel : decode (jx_mb 94) 27 = .ok (.iload_n 3, 1))) rfl rfl rfl
  · exact fun d st M Q l0 l1 l2 l3 l5 l6 x => jx_ev_st (jx_fok (by decide +kernel : decode (jx_mb 94) 28 = .ok (.iload 4, 2))) rfl rfl rfl
  · exact fun d lv M Q a0 a1 a2 a3 => jx_ev_ci (jx_fok (by decide +kernel : decode (jx_mb 94) 30 = .ok (.invokevirtual 93, 3))) rfl (jx_ccV (As := [.int a3, .int a2, .int a1, .int a0]) (rest := []) rfl rfl rfl rfl rfl rfl) (by decide)
  · exact fun d st M Q l0 l1 l2 l3 l4 l5 l6 x => jx_ev_st (jx_fok (by decide +kernel : decode (jx_mb 94) 33 = .ok (.istore 5, 2))) rfl rfl rfl
  · exact fun d st M Q l0 l1 l2 l3 l4 l6 x => jx_ev_st (jx_fok (by decide +kernel : decode (jx_mb 94) 35 = .ok (.iload 5, 2))) rfl rfl rfl
  · exact fun d lv st M Q x => jx_k_b1 (jx_fok (by decide +kernel : decode (jx_mb 94) 37 = .ok (.ifCond .eq 10, 3))) rfl jx_hEq
  · exact fun d st M Q l1 l2 l3 l4 l5 l6 x => jx_ev_st (jx_fok (by decide +kernel : decode (jx_mb 94) 40 = .ok (.aload_n 0, 1))) rfl rfl rfl
  · exact fun d st M Q l0 l1 l2 l3 l4 l6 x => jx_ev_st (jx_fok (by decide +kernel : decode (jx_mb 94) 41 = .ok (.iload 5, 2))) rfl rfl rfl
  · exact fun d lv M Q a0 => jx_ev_ci (jx_fok (by decide +kernel : decode (jx_mb 94) 43 = .ok (.invokevirtual 97, 3))) rfl (jx_ccV (As := [.int a0]) (rest := []) rfl rfl rfl rfl rfl rfl) (by decide)
  · exact fun d lv M Q x => jx_k_ri (jx_fok (by decide +kernel : decode (jx_mb 94) 46 = .ok (.ireturn, 1))) rfl
  · exact fun d lv st M Q => jx_ev_st (jx_fok (by decide +kernel : decode (jx_mb 94) 47 = .ok (.bipush 60, 2))) rfl rfl rfl
  · exact fun d st M Q l0 l2 l3 l4 l5 l6 x => jx_ev_st (jx_fok (by decide +kernel : decode (jx_mb 94) 49 = .ok (.iload_n 1, 1))) rfl rfl rfl
  · exact fun d lv st M Q x z => jx_ev_st (jx_fok (by decide +kernel : decode (jx_mb 94) 50 = .ok (.imul, 1))) rfl rfl rfl
  · exact fun d st M Q l0 l1 l2 l4 l5 l6 x => jx_ev_st (jx_fok (by decide +kernel : decode (jx_mb 94) 51 = .ok (.iload_n 3, 1))) rfl rfl rfl
  · exact fun d lv st M Q x z => jx_ev_st (jx_fok (by decide +kernel : decode (jx_mb 94) 52 = .ok (.iadd, 1))) rfl rfl rfl
  · exact fun d st M Q l0 l1 l2 l3 l4 l5 l6 x => jx_ev_st (jx_fok (by decide +kernel : decode (jx_mb 94) 53 = .ok (.istore 6, 2))) rfl rfl rfl
  · exact fun d st M Q l1 l2 l3 l4 l5 l6 x => jx_ev_st (jx_fok (by decide +kernel : decode (jx_mb 94) 55 = .ok (.aload_n 0, 1))) rfl rfl rfl
  · exact fun d st M Q l0 l1 l2 l3 l4 l5 x => jx_ev_st (jx_fok (by decide +kernel : decode (jx_mb 94) 56 = .ok (.iload 6, 2))) rfl rfl rfl
  · exact fun d lv st M Q x => jx_k_pf0 (jx_fok (by decide +kernel : decode (jx_mb 94) 58 = .ok (.putfield 83, 3))) rfl rfl rfl
  · exact fun d st M Q l1 l2 l3 l4 l5 l6 x => jx_ev_st (jx_fok (by decide +kernel : decode (jx_mb 94) 61 = .ok (.aload_n 0, 1))) rfl rfl rfl
  · exact fun d st M Q l0 l1 l2 l3 l4 l5 x => jx_ev_st (jx_fok (by decide +kernel : decode (jx_mb 94) 62 = .ok (.iload 6, 2))) rfl rfl rfl
  · exact fun d st M Q l0 l1 l2 l3 l5 l6 x => jx_ev_st (jx_fok (by decide +kernel : decode (jx_mb 94) 64 = .ok (.iload 4, 2))) rfl rfl rfl
  · exact fun d lv st M Q x z => jx_ev_st (jx_fok (by decide +kernel : decode (jx_mb 94) 66 = .ok (.iadd, 1))) rfl rfl rfl
  · exact fun d lv M Q a0 => jx_ev_ci (jx_fok (by decide +kernel : decode (jx_mb 94) 67 = .ok (.invokevirtual 101, 3))) rfl (jx_ccV (As := [.int a0]) (rest := []) rfl rfl rfl rfl rfl rfl) (by decide)
  · exact fun d lv st M Q x => jx_k_b1n (jx_fok (by decide +kernel : decode (jx_mb 94) 70 = .ok (.ifCond .ne 14, 3))) rfl jx_hNe
  · exact fun d lv st M Q => jx_ev_st (jx_fok (by decide +kernel : decode (jx_mb 94) 73 = .ok (.bipush (-100), 2))) rfl rfl rfl
  · exact fun d st M Q l1 l2 l3 l4 l5 l6 x => jx_ev_st (jx_fok (by decide +kernel : decode (jx_mb 94) 75 = .ok (.aload_n 0, 1))) rfl rfl rfl
  · exact fun d lv st M Q => jx_k_gf (jx_fok (by decide +kernel : decode (jx_mb 94) 76 = .ok (.getfield 83, 3))) rfl rfl rfl
  · exact fun d st M Q l0 l1 l2 l3 l4 l5 x => jx_ev_st (jx_fok (by decide +kernel : decode (jx_mb 94) 79 = .ok (.iload 6, 2))) rfl rfl rfl
  · exact fun d lv st M Q x z => jx_ev_st (jx_fok (by decide +kernel : decode (jx_mb 94) 81 = .ok (.isub, 1))) rfl rfl rfl
  · exact fun d lv st M Q x z => jx_ev_st (jx_fok (by decide +kernel : decode (jx_mb 94) 82 = .ok (.isub, 1))) rfl rfl rfl
  · exact fun d lv M Q x => jx_k_ri (jx_fok (by decide +kernel : decode (jx_mb 94) 83 = .ok (.ireturn, 1))) rfl
  · exact fun d st M Q l1 l2 l3 l4 l5 l6 x => jx_ev_st (jx_fok (by decide +kernel : decode (jx_mb 94) 84 = .ok (.aload_n 0, 1))) rfl rfl rfl
  · exact fun d lv M Q => jx_ev_cv (jx_fok (by decide +kernel : decode (jx_mb 94) 85 = .ok (.invokevirtual 104, 3))) rfl (jx_ccV (As := []) (rest := []) rfl rfl rfl rfl rfl rfl) rfl
  · exact fun d st M Q l1 l2 l3 l4 l5 l6 x => jx_ev_st (jx_fok (by decide +kernel : decode (jx_mb 94) 88 = .ok (.aload_n 0, 1))) rfl rfl rfl
  · exact fun d lv st M Q => jx_k_gf (jx_fok (by decide +kernel : decode (jx_mb 94) 89 = .ok (.getfield 80, 3))) rfl rfl rfl
  · exact fun d lv M Q x => jx_k_ri (jx_fok (by decide +kernel : decode (jx_mb 94) 92 = .ok (.ireturn, 1))) rfl
theorem kX8_office (d : Nat) (M : jx_M) (q : Int32 → jx_M → Prop) (a0 a1 a2 a3 a4 : Value) : jx_I d 94 [a0, a1, a2, a3, a4] M q ↔ jx_Ev d 94 0 [some a0, some a1, some a2, some a3, some a4, none, none] [] M (jx_qI q) := Iff.rfl
set_option maxRecDepth 100000 in
theorem eX8_takeOffice :
  (∀ (d : Nat) (st : List Value) (M : jx_M) (Q : jx_Po) (l1 : Option Value) (x : Nat), jx_Ev d 95 0 [some (.ref x), l1] st M Q ↔ jx_Ev d 95 1 [some (.ref x), l1] (.ref x :: st) M Q) ∧
  (∀ (d : Nat) (st : List Value) (M : jx_M) (Q : jx_Po) (l1 : Option Value) (x : Nat), jx_Ev d 95 1 [some (.ref x), l1] st M Q ↔ jx_Ev d 95 2 [some (.ref x), l1] (.ref x :: st) M Q) ∧
  (∀ (d : Nat) (lv : List (Option Value)) (st : List Value) (M : jx_M) (Q : jx_Po), jx_Ev d 95 2 lv (.ref 36 :: st) M Q ↔ jx_Ev d 95 5 lv (.int (M 36 15) :: st) M Q) ∧
  (∀ (d : Nat) (lv : List (Option Value)) (st : List Value) (M : jx_M) (Q : jx_Po) (x : Int32), jx_Ev d 95 5 lv (.int x :: .ref 36 :: st) M Q ↔ jx_Ev d 95 8 lv st (jx_up M 36 7 x) Q) ∧
  (∀ (d : Nat) (st : List Value) (M : jx_M) (Q : jx_Po) (l1 : Option Value) (x : Nat), jx_Ev d 95 8 [some (.ref x), l1] st M Q ↔ jx_Ev d 95 9 [some (.ref x), l1] (.ref x :: st) M Q) ∧
  (∀ (d : Nat) (st : List Value) (M : jx_M) (Q : jx_Po) (l1 : Option Value) (x : Nat), jx_Ev d 95 9 [some (.ref x), l1] st M Q ↔ jx_Ev d 95 10 [some (.ref x), l1] (.ref x :: st) M Q) ∧
  (∀ (d : Nat) (lv : List (Option Value)) (st : List Value) (M : jx_M) (Q : jx_Po), jx_Ev d 95 10 lv (.ref 36 :: st) M Q ↔ jx_Ev d 95 13 lv (.int (M 36 16) :: st) M Q) ∧
  (∀ (d : Nat) (lv : List (Option Value)) (st : List Value) (M : jx_M) (Q : jx_Po) (x : Int32), jx_Ev d 95 13 lv (.int x :: .ref 36 :: st) M Q ↔ jx_Ev d 95 16 lv st (jx_up M 36 8 x) Q) ∧
  (∀ (d : Nat) (st : List Value) (M : jx_M) (Q : jx_Po) (l1 : Option Value) (x : Nat), jx_Ev d 95 16 [some (.ref x), l1] st M Q ↔ jx_Ev d 95 17 [some (.ref x), l1] (.ref x :: st) M Q) ∧
  (∀ (d : Nat) (st : List Value) (M : jx_M) (Q : jx_Po) (l1 : Option Value) (x : Nat), jx_Ev d 95 17 [some (.ref x), l1] st M Q ↔ jx_Ev d 95 18 [some (.ref x), l1] (.ref x :: st) M Q) ∧
  (∀ (d : Nat) (lv : List (Option Value)) (st : List Value) (M : jx_M) (Q : jx_Po), jx_Ev d 95 18 lv (.ref 36 :: st) M Q ↔ jx_Ev d 95 21 lv (.int (M 36 17) :: st) M Q) ∧
  (∀ (d : Nat) (lv : List (Option Value)) (st : List Value) (M : jx_M) (Q : jx_Po) (x : Int32), jx_Ev d 95 21 lv (.int x :: .ref 36 :: st) M Q ↔ jx_Ev d 95 24 lv st (jx_up M 36 5 x) Q) ∧
  (∀ (d : Nat) (lv : List (Option Value)) (st : List Value) (M : jx_M) (Q : jx_Po), jx_Ev d 95 24 lv st M Q ↔ jx_Ev d 95 25 lv (.int 0 :: st) M Q) ∧
  (∀ (d : Nat) (st : List Value) (M : jx_M) (Q : jx_Po) (l0 l1 : Option Value) (x : Int32), jx_Ev d 95 25 [l0, l1] (.int x :: st) M Q ↔ jx_Ev d 95 26 [l0, some (.int x)] st M Q) ∧
  (∀ (d : Nat) (st : List Value) (M : jx_M) (Q : jx_Po) (l1 : Option Value) (x : Nat), jx_Ev d 95 27 [some (.ref x), l1] st M Q ↔ jx_Ev d 95 28 [some (.ref x), l1] (.ref x :: st) M Q) ∧
  (∀ (d : Nat) (lv : List (Option Value)) (st : List Value) (M : jx_M) (Q : jx_Po), jx_Ev d 95 28 lv (.ref 36 :: st) M Q ↔ jx_Ev d 95 31 lv (.int (M 36 5) :: st) M Q) ∧
  (∀ (d : Nat) (lv : List (Option Value)) (st : List Value) (M : jx_M) (Q : jx_Po) (x z : Int32), jx_Ev d 95 31 lv (.int z :: .int x :: st) M Q ↔ (if z ≤ x then jx_Ev d 95 64 lv st M Q else jx_Ev d 95 34 lv st M Q)) ∧
  (∀ (d : Nat) (st : List Value) (M : jx_M) (Q : jx_Po) (l1 : Option Value) (x : Nat), jx_Ev d 95 34 [some (.ref x), l1] st M Q ↔ jx_Ev d 95 35 [some (.ref x), l1] (.ref x :: st) M Q) ∧
  (∀ (d : Nat) (lv : List (Option Value)) (st : List Value) (M : jx_M) (Q : jx_Po), jx_Ev d 95 35 lv (.ref 36 :: st) M Q ↔ jx_Ev d 95 38 lv (.ref 40 :: st) M Q) ∧
  (∀ (d : Nat) (st : List Value) (M : jx_M) (Q : jx_Po) (l0 : Option Value) (x : Int32), jx_Ev d 95 38 [l0, some (.int x)] st M Q ↔ jx_Ev d 95 39 [l0, some (.int x)] (.int x :: st) M Q) ∧
  (∀ (d : Nat) (st : List Value) (M : jx_M) (Q : jx_Po) (l1 : Option Value) (x : Nat), jx_Ev d 95 39 [some (.ref x), l1] st M Q ↔ jx_Ev d 95 40 [some (.ref x), l1] (.ref x :: st) M Q) ∧
  (∀ (d : Nat) (lv : List (Option Value)) (st : List Value) (M : jx_M) (Q : jx_Po), jx_Ev d 95 40 lv (.ref 36 :: st) M Q ↔ jx_Ev d 95 43 lv (.ref 45 :: st) M Q) ∧
  (∀ (d : Nat) (st : List Value) (M : jx_M) (Q : jx_Po) (l0 : Option Value) (x : Int32), jx_Ev d 95 43 [l0, some (.int x)] st M Q ↔ jx_Ev d 95 44 [l0, some (.int x)] (.int x :: st) M Q) ∧
  (∀ (d : Nat) (lv : List (Option Value)) (st : List Value) (M : jx_M) (Q : jx_Po) (x : Int32) (a : Nat) (ha : jx_cl a = 9), jx_Ev d 95 44 lv (.int x :: .ref a :: st) M Q ↔ (vp_in x (jx_sz a) ∧ jx_Ev d 95 45 lv (.int (M a x.toNatClampNeg) :: st) M Q)) ∧
  (∀ (d : Nat) (lv : List (Option Value)) (st : List Value) (M : jx_M) (Q : jx_Po) (x z : Int32) (a : Nat) (ha : jx_cl a = 9), jx_Ev d 95 45 lv (.int z :: .int x :: .ref a :: st) M Q ↔ (vp_in x (jx_sz a) ∧ jx_Ev d 95 46 lv st (jx_up M a x.toNatClampNeg z) Q)) ∧
  (∀ (d : Nat) (st : List Value) (M : jx_M) (Q : jx_Po) (l1 : Option Value) (x : Nat), jx_Ev d 95 46 [some (.ref x), l1] st M Q ↔ jx_Ev d 95 47 [some (.ref x), l1] (.ref x :: st) M Q) ∧
  (∀ (d : Nat) (lv : List (Option Value)) (st : List Value) (M : jx_M) (Q : jx_Po), jx_Ev d 95 47 lv (.ref 36 :: st) M Q ↔ jx_Ev d 95 50 lv (.ref 41 :: st) M Q) ∧
  (∀ (d : Nat) (st : List Value) (M : jx_M) (Q : jx_Po) (l0 : Option Value) (x : Int32), jx_Ev d 95 50 [l0, some (.int x)] st M Q ↔ jx_Ev d 95 51 [l0, some (.int x)] (.int x :: st) M Q) ∧
  (∀ (d : Nat) (st : List Value) (M : jx_M) (Q : jx_Po) (l1 : Option Value) (x : Nat), jx_Ev d 95 51 [some (.ref x), l1] st M Q ↔ jx_Ev d 95 52 [some (.ref x), l1] (.ref x :: st) M Q) ∧
  (∀ (d : Nat) (lv : List (Option Value)) (st : List Value) (M : jx_M) (Q : jx_Po), jx_Ev d 95 52 lv (.ref 36 :: st) M Q ↔ jx_Ev d 95 55 lv (.ref 46 :: st) M Q) ∧
  (∀ (d : Nat) (st : List Value) (M : jx_M) (Q : jx_Po) (l0 : Option Value) (x : Int32), jx_Ev d 95 55 [l0, some (.int x)] st M Q ↔ jx_Ev d 95 56 [l0, some (.int x)] (.int x :: st) M Q) ∧
  (∀ (d : Nat) (lv : List (Option Value)) (st : List Value) (M : jx_M) (Q : jx_Po) (x : Int32) (a : Nat) (ha : jx_cl a = 9), jx_Ev d 95 56 lv (.int x :: .ref a :: st) M Q ↔ (vp_in x (jx_sz a) ∧ jx_Ev d 95 57 lv (.int (M a x.toNatClampNeg) :: st) M Q)) ∧
  (∀ (d : Nat) (lv : List (Option Value)) (st : List Value) (M : jx_M) (Q : jx_Po) (x z : Int32) (a : Nat) (ha : jx_cl a = 9), jx_Ev d 95 57 lv (.int z :: .int x :: .ref a :: st) M Q ↔ (vp_in x (jx_sz a) ∧ jx_Ev d 95 58 lv st (jx_up M a x.toNatClampNeg z) Q)) ∧
  (∀ (d : Nat) (st : List Value) (M : jx_M) (Q : jx_Po) (l0 : Option Value) (x : Int32), jx_Ev d 95 58 [l0, some (.int x)] st M Q ↔ jx_Ev d 95 61 [l0, some (.int (x + 1))] st M Q) ∧
  (∀ (d : Nat) (lv : List (Option Value)) (st : List Value) (M : jx_M) (Q : jx_Po), jx_Ev d 95 61 lv st M Q ↔ jx_Ev d 95 26 lv st M Q) ∧
  (∀ (d : Nat) (st : List Value) (M : jx_M) (Q : jx_Po) (l1 : Option Value) (x : Nat), jx_Ev d 95 64 [some (.ref x), l1] st M Q ↔ jx_Ev d 95 65 [some (.ref x), l1] (.ref x :: st) M Q) ∧
  (∀ (d : Nat) (st : List Value) (M : jx_M) (Q : jx_Po) (l1 : Option Value) (x : Nat), jx_Ev d 95 65 [some (.ref x), l1] st M Q ↔ jx_Ev d 95 66 [some (.ref x), l1] (.ref x :: st) M Q) ∧
  (∀ (d : Nat) (lv : List (Option Value)) (st : List Value) (M : jx_M) (Q : jx_Po), jx_Ev d 95 66 lv (.ref 36 :: st) M Q ↔ jx_Ev d 95 69 lv (.int (M 36 18) :: st) M Q) ∧
  (∀ (d : Nat) (lv : List (Option Value)) (st : List Value) (M : jx_M) (Q : jx_Po) (x : Int32), jx_Ev d 95 69 lv (.int x :: .ref 36 :: st) M Q ↔ jx_Ev d 95 72 lv st (jx_up M 36 6 x) Q) ∧
  (∀ (d : Nat) (lv : List (Option Value)) (st : List Value) (M : jx_M) (Q : jx_Po), jx_Ev d 95 72 lv st M Q ↔ jx_Ev d 95 73 lv (.int 0 :: st) M Q) ∧
  (∀ (d : Nat) (st : List Value) (M : jx_M) (Q : jx_Po) (l0 l1 : Option Value) (x : Int32), jx_Ev d 95 73 [l0, l1] (.int x :: st) M Q ↔ jx_Ev d 95 74 [l0, some (.int x)] st M Q) ∧
  (∀ (d : Nat) (st : List Value) (M : jx_M) (Q : jx_Po) (l1 : Option Value) (x : Nat), jx_Ev d 95 75 [some (.ref x), l1] st M Q ↔ jx_Ev d 95 76 [some (.ref x), l1] (.ref x :: st) M Q) ∧
  (∀ (d : Nat) (lv : List (Option Value)) (st : List Value) (M : jx_M) (Q : jx_Po), jx_Ev d 95 76 lv (.ref 36 :: st) M Q ↔ jx_Ev d 95 79 lv (.int (M 36 6) :: st) M Q) ∧
  (∀ (d : Nat) (lv : List (Option Value)) (st : List Value) (M : jx_M) (Q : jx_Po) (x z : Int32), jx_Ev d 95 79 lv (.int z :: .int x :: st) M Q ↔ (if z ≤ x then jx_Ev d 95 124 lv st M Q else jx_Ev d 95 82 lv st M Q)) ∧
  (∀ (d : Nat) (st : List Value) (M : jx_M) (Q : jx_Po) (l1 : Option Value) (x : Nat), jx_Ev d 95 82 [some (.ref x), l1] st M Q ↔ jx_Ev d 95 83 [some (.ref x), l1] (.ref x :: st) M Q) ∧
  (∀ (d : Nat) (lv : List (Option Value)) (st : List Value) (M : jx_M) (Q : jx_Po), jx_Ev d 95 83 lv (.ref 36 :: st) M Q ↔ jx_Ev d 95 86 lv (.ref 42 :: st) M Q) ∧
  (∀ (d : Nat) (st : List Value) (M : jx_M) (Q : jx_Po) (l0 : Option Value) (x : Int32), jx_Ev d 95 86 [l0, some (.int x)] st M Q ↔ jx_Ev d 95 87 [l0, some (.int x)] (.int x :: st) M Q) ∧
  (∀ (d : Nat) (st : List Value) (M : jx_M) (Q : jx_Po) (l1 : Option Value) (x : Nat), jx_Ev d 95 87 [some (.ref x), l1] st M Q ↔ jx_Ev d 95 88 [some (.ref x), l1] (.ref x :: st) M Q) ∧
  (∀ (d : Nat) (lv : List (Option Value)) (st : List Value) (M : jx_M) (Q : jx_Po), jx_Ev d 95 88 lv (.ref 36 :: st) M Q ↔ jx_Ev d 95 91 lv (.ref 47 :: st) M Q) ∧
  (∀ (d : Nat) (st : List Value) (M : jx_M) (Q : jx_Po) (l0 : Option Value) (x : Int32), jx_Ev d 95 91 [l0, some (.int x)] st M Q ↔ jx_Ev d 95 92 [l0, some (.int x)] (.int x :: st) M Q) ∧
  (∀ (d : Nat) (lv : List (Option Value)) (st : List Value) (M : jx_M) (Q : jx_Po) (x : Int32) (a : Nat) (ha : jx_cl a = 9), jx_Ev d 95 92 lv (.int x :: .ref a :: st) M Q ↔ (vp_in x (jx_sz a) ∧ jx_Ev d 95 93 lv (.int (M a x.toNatClampNeg) :: st) M Q)) ∧
  (∀ (d : Nat) (lv : List (Option Value)) (st : List Value) (M : jx_M) (Q : jx_Po) (x z : Int32) (a : Nat) (ha : jx_cl a = 9), jx_Ev d 95 93 lv (.int z :: .int x :: .ref a :: st) M Q ↔ (vp_in x (jx_sz a) ∧ jx_Ev d 95 94 lv st (jx_up M a x.toNatClampNeg z) Q)) ∧
  (∀ (d : Nat) (st : List Value) (M : jx_M) (Q : jx_Po) (l1 : Option Value) (x : Nat), jx_Ev d 95 94 [some (.ref x), l1] st M Q ↔ jx_Ev d 95 95 [some (.ref x), l1] (.ref x :: st) M Q) ∧
  (∀ (d : Nat) (lv : List (Option Value)) (st : List Value) (M : jx_M) (Q : jx_Po), jx_Ev d 95 95 lv (.ref 36 :: st) M Q ↔ jx_Ev d 95 98 lv (.ref 43 :: st) M Q) ∧
  (∀ (d : Nat) (st : List Value) (M : jx_M) (Q : jx_Po) (l0 : Option Value) (x : Int32), jx_Ev d 95 98 [l0, some (.int x)] st M Q ↔ jx_Ev d 95 99 [l0, some (.int x)] (.int x :: st) M Q) ∧
  (∀ (d : Nat) (st : List Value) (M : jx_M) (Q : jx_Po) (l1 : Option Value) (x : Nat), jx_Ev d 95 99 [some (.ref x), l1] st M Q ↔ jx_Ev d 95 100 [some (.ref x), l1] (.ref x :: st) M Q) ∧
  (∀ (d : Nat) (lv : List (Option Value)) (st : List Value) (M : jx_M) (Q : jx_Po), jx_Ev d 95 100 lv (.ref 36 :: st) M Q ↔ jx_Ev d 95 103 lv (.ref 48 :: st) M Q) ∧
  (∀ (d : Nat) (st : List Value) (M : jx_M) (Q : jx_Po) (l0 : Option Value) (x : Int32), jx_Ev d 95 103 [l0, some (.int x)] st M Q ↔ jx_Ev d 95 104 [l0, some (.int x)] (.int x :: st) M Q) ∧
  (∀ (d : Nat) (lv : List (Option Value)) (st : List Value) (M : jx_M) (Q : jx_Po) (x : Int32) (a : Nat) (ha : jx_cl a = 9), jx_Ev d 95 104 lv (.int x :: .ref a :: st) M Q ↔ (vp_in x (jx_sz a) ∧ jx_Ev d 95 105 lv (.int (M a x.toNatClampNeg) :: st) M Q)) ∧
  (∀ (d : Nat) (lv : List (Option Value)) (st : List Value) (M : jx_M) (Q : jx_Po) (x z : Int32) (a : Nat) (ha : jx_cl a = 9), jx_Ev d 95 105 lv (.int z :: .int x :: .ref a :: st) M Q ↔ (vp_in x (jx_sz a) ∧ jx_Ev d 95 106 lv st (jx_up M a x.toNatClampNeg z) Q)) ∧
  (∀ (d : Nat) (st : List Value) (M : jx_M) (Q : jx_Po) (l1 : Option Value) (x : Nat), jx_Ev d 95 106 [some (.ref x), l1] st M Q ↔ jx_Ev d 95 107 [some (.ref x), l1] (.ref x :: st) M Q) ∧
  (∀ (d : Nat) (lv : List (Option Value)) (st : List Value) (M : jx_M) (Q : jx_Po), jx_Ev d 95 107 lv (.ref 36 :: st) M Q ↔ jx_Ev d 95 110 lv (.ref 44 :: st) M Q) ∧
  (∀ (d : Nat) (st : List Value) (M : jx_M) (Q : jx_Po) (l0 : Option Value) (x : Int32), jx_Ev d 95 110 [l0, some (.int x)] st M Q ↔ jx_Ev d 95 111 [l0, some (.int x)] (.int x :: st) M Q) ∧
  (∀ (d : Nat) (st : List Value) (M : jx_M) (Q : jx_Po) (l1 : Option Value) (x : Nat), jx_Ev d 95 111 [some (.ref x), l1] st M Q ↔ jx_Ev d 95 112 [some (.ref x), l1] (.ref x :: st) M Q) ∧
  (∀ (d : Nat) (lv : List (Option Value)) (st : List Value) (M : jx_M) (Q : jx_Po), jx_Ev d 95 112 lv (.ref 36 :: st) M Q ↔ jx_Ev d 95 115 lv (.ref 49 :: st) M Q) ∧
  (∀ (d : Nat) (st : List Value) (M : jx_M) (Q : jx_Po) (l0 : Option Value) (x : Int32), jx_Ev d 95 115 [l0, some (.int x)] st M Q ↔ jx_Ev d 95 116 [l0, some (.int x)] (.int x :: st) M Q) ∧
  (∀ (d : Nat) (lv : List (Option Value)) (st : List Value) (M : jx_M) (Q : jx_Po) (x : Int32) (a : Nat) (ha : jx_cl a = 9), jx_Ev d 95 116 lv (.int x :: .ref a :: st) M Q ↔ (vp_in x (jx_sz a) ∧ jx_Ev d 95 117 lv (.int (M a x.toNatClampNeg) :: st) M Q)) ∧
  (∀ (d : Nat) (lv : List (Option Value)) (st : List Value) (M : jx_M) (Q : jx_Po) (x z : Int32) (a : Nat) (ha : jx_cl a = 9), jx_Ev d 95 117 lv (.int z :: .int x :: .ref a :: st) M Q ↔ (vp_in x (jx_sz a) ∧ jx_Ev d 95 118 lv st (jx_up M a x.toNatClampNeg z) Q)) ∧
  (∀ (d : Nat) (st : List Value) (M : jx_M) (Q : jx_Po) (l0 : Option Value) (x : Int32), jx_Ev d 95 118 [l0, some (.int x)] st M Q ↔ jx_Ev d 95 121 [l0, some (.int (x + 1))] st M Q) ∧
  (∀ (d : Nat) (lv : List (Option Value)) (st : List Value) (M : jx_M) (Q : jx_Po), jx_Ev d 95 121 lv st M Q ↔ jx_Ev d 95 74 lv st M Q) ∧
  (∀ (d : Nat) (st : List Value) (M : jx_M) (Q : jx_Po) (l1 : Option Value) (x : Nat), jx_Ev d 95 124 [some (.ref x), l1] st M Q ↔ jx_Ev d 95 125 [some (.ref x), l1] (.ref x :: st) M Q) ∧
  (∀ (d : Nat) (lv : List (Option Value)) (st : List Value) (M : jx_M) (Q : jx_Po), jx_Ev d 95 125 lv st M Q ↔ jx_Ev d 95 126 lv (.int 0 :: st) M Q) ∧
  (∀ (d : Nat) (lv : List (Option Value)) (st : List Value) (M : jx_M) (Q : jx_Po) (x : Int32), jx_Ev d 95 126 lv (.int x :: .ref 36 :: st) M Q ↔ jx_Ev d 95 129 lv st (jx_up M 36 27 x) Q) ∧
  (∀ (d : Nat) (lv : List (Option Value)) (M : jx_M) (Q : jx_Po), jx_Ev d 95 129 lv [] M Q ↔ Q [] M) := by
  refine ⟨?_, ?_, ?_, ?_, ?_, ?_, ?_, ?_, ?_, ?_, ?_, ?_, ?_, ?_, ?_, ?_, ?_, ?_, ?_, ?_, ?_, ?_, ?_, ?_, ?_, ?_, ?_, ?_, ?_, ?_, ?_, ?_, ?_, ?_, ?_, ?_, ?_, ?_, ?_, ?_, ?_, ?_, ?_, ?_, ?_, ?_, ?_, ?_, ?_, ?_, ?_, ?_, ?_, ?_, ?_, ?_, ?_, ?_, ?_, ?_, ?_, ?_, ?_, ?_, ?_, ?_, ?_, ?_, ?_, ?_, ?_, ?_, ?_, ?_⟩
  · exact fun d st M Q l1 x => jx_ev_st (jx_fok (by decide +kernel : decode (jx_mb 95) 0 = .ok (.aload_n 0, 1))) rfl rfl rfl
  · exact fun d st M Q l1 x => jx_ev_st (jx_fok (by decide +kernel : decode (jx_mb 95) 1 = .ok (.aload_n 0, 1))) rfl rfl rfl
  · exact fun d lv st M Q => jx_k_gf (jx_fok (by decide +kernel : decode (jx_mb 95) 2 = .ok (.getfield 107, 3))) rfl rfl rfl
  · exact fun d lv st M Q x => jx_k_pf0 (jx_fok (by decide +kernel : decode (jx_mb 95) 5 = .ok (.putfield 110, 3))) rfl rfl rfl
  · exact fun d st M Q l1 x => jx_ev_st (jx_fok (by decide +kernel : decode (jx_mb 95) 8 = .ok (.aload_n 0, 1))) rfl rfl rfl
  · exact fun d st M Q l1 x => jx_ev_st (jx_fok (by decide +kernel : decode (jx_mb 95) 9 = .ok (.aload_n 0, 1))) rfl rfl rfl
  · exact fun d lv st M Q => jx_k_gf (jx_fok (by decide +kernel : decode (jx_mb 95) 10 = .ok (.getfield 113, 3))) rfl rfl rfl
  · exact fun d lv st M Q x => jx_k_pf0 (jx_fok (by decide +kernel : decode (jx_mb 95) 13 = .ok (.putfield 116, 3))) rfl rfl rfl
  · exact fun d st M Q l1 x => jx_ev_st (jx_fok (by decide +kernel : decode (jx_mb 95) 16 = .ok (.aload_n 0, 1))) rfl rfl rfl
  · exact fun d st M Q l1 x => jx_ev_st (jx_fok (by decide +kernel : decode (jx_mb 95) 17 = .ok (.aload_n 0, 1))) rfl rfl rfl
  · exact fun d lv st M Q => jx_k_gf (jx_fok (by decide +kernel : decode (jx_mb 95) 18 = .ok (.getfield 119, 3))) rfl rfl rfl
  · exact fun d lv st M Q x => jx_k_pf0 (jx_fok (by decide +kernel : decode (jx_mb 95) 21 = .ok (.putfield 77, 3))) rfl rfl rfl
  · exact fun d lv st M Q => jx_ev_st (jx_fok (by decide +kernel : decode (jx_mb 95) 24 = .ok (.iconst 0, 1))) rfl rfl rfl
  · exact fun d st M Q l0 l1 x => jx_ev_st (jx_fok (by decide +kernel : decode (jx_mb 95) 25 = .ok (.istore_n 1, 1))) rfl rfl rfl
  · exact fun d st M Q l1 x => jx_ev_st (jx_fok (by decide +kernel : decode (jx_mb 95) 27 = .ok (.aload_n 0, 1))) rfl rfl rfl
  · exact fun d lv st M Q => jx_k_gf (jx_fok (by decide +kernel : decode (jx_mb 95) 28 = .ok (.getfield 77, 3))) rfl rfl rfl
  · exact fun d lv st M Q x z => jx_k_b2 (jx_fok (by decide +kernel : decode (jx_mb 95) 31 = .ok (.if_icmp .ge 33, 3))) rfl jx_hGe
  · exact fun d st M Q l1 x => jx_ev_st (jx_fok (by decide +kernel : decode (jx_mb 95) 34 = .ok (.aload_n 0, 1))) rfl rfl rfl
  · exact fun d lv st M Q => jx_k_gf (jx_fok (by decide +kernel : decode (jx_mb 95) 35 = .ok (.getfield 19, 3))) rfl rfl rfl
  · exact fun d st M Q l0 x => jx_ev_st (jx_fok (by decide +kernel : decode (jx_mb 95) 38 = .ok (.iload_n 1, 1))) rfl rfl rfl
  · exact fun d st M Q l1 x => jx_ev_st (jx_fok (by decide +kernel : decode (jx_mb 95) 39 = .ok (.aload_n 0, 1))) rfl rfl rfl
  · exact fun d lv st M Q => jx_k_gf (jx_fok (by decide +kernel : decode (jx_mb 95) 40 = .ok (.getfield 34, 3))) rfl rfl rfl
  · exact fun d st M Q l0 x => jx_ev_st (jx_fok (by decide +kernel : decode (jx_mb 95) 43 = .ok (.iload_n 1, 1))) rfl rfl rfl
  · exact fun d lv st M Q x a ha => jx_k_al (jx_fok (by decide +kernel : decode (jx_mb 95) 44 = .ok (.iaload, 1))) ha
  · exact fun d lv st M Q x z a ha => jx_k_as (jx_fok (by decide +kernel : decode (jx_mb 95) 45 = .ok (.iastore, 1))) ha
  · exact fun d st M Q l1 x => jx_ev_st (jx_fok (by decide +kernel : decode (jx_mb 95) 46 = .ok (.aload_n 0, 1))) rfl rfl rfl
  · exact fun d lv st M Q => jx_k_gf (jx_fok (by decide +kernel : decode (jx_mb 95) 47 = .ok (.getfield 22, 3))) rfl rfl rfl
  · exact fun d st M Q l0 x => jx_ev_st (jx_fok (by decide +kernel : decode (jx_mb 95) 50 = .ok (.iload_n 1, 1))) rfl rfl rfl
  · exact fun d st M Q l1 x => jx_ev_st (jx_fok (by decide +kernel : decode (jx_mb 95) 51 = .ok (.aload_n 0, 1))) rfl rfl rfl
  · exact fun d lv st M Q => jx_k_gf (jx_fok (by decide +kernel : decode (jx_mb 95) 52 = .ok (.getfield 37, 3))) rfl rfl rfl
  · exact fun d st M Q l0 x => jx_ev_st (jx_fok (by decide +kernel : decode (jx_mb 95) 55 = .ok (.iload_n 1, 1))) rfl rfl rfl
  · exact fun d lv st M Q x a ha => jx_k_al (jx_fok (by decide +kernel : decode (jx_mb 95) 56 = .ok (.iaload, 1))) ha
  · exact fun d lv st M Q x z a ha => jx_k_as (jx_fok (by decide +kernel : decode (jx_mb 95) 57 = .ok (.iastore, 1))) ha
  · exact fun d st M Q l0 x => jx_ev_st (jx_fok (by decide +kernel : decode (jx_mb 95) 58 = .ok (.iinc 1 1, 3))) rfl rfl rfl
  · exact fun d lv st M Q => jx_k_goto (jx_fok (by decide +kernel : decode (jx_mb 95) 61 = .ok (.goto (-35), 3))) rfl
  · exact fun d st M Q l1 x => jx_ev_st (jx_fok (by decide +kernel : decode (jx_mb 95) 64 = .ok (.aload_n 0, 1))) rfl rfl rfl
  · exact fun d st M Q l1 x => jx_ev_st (jx_fok (by decide +kernel : decode (jx_mb 95) 65 = .ok (.aload_n 0, 1))) rfl rfl rfl
  · exact fun d lv st M Q => jx_k_gf (jx_fok (by decide +kernel : decode (jx_mb 95) 66 = .ok (.getfield 122, 3))) rfl rfl rfl
  · exact fun d lv st M Q x => jx_k_pf0 (jx_fok (by decide +kernel : decode (jx_mb 95) 69 = .ok (.putfield 80, 3))) rfl rfl rfl
  · exact fun d lv st M Q => jx_ev_st (jx_fok (by decide +kernel : decode (jx_mb 95) 72 = .ok (.iconst 0, 1))) rfl rfl rfl
  · exact fun d st M Q l0 l1 x => jx_ev_st (jx_fok (by decide +kernel : decode (jx_mb 95) 73 = .ok (.istore_n 1, 1))) rfl rfl rfl
  · exact fun d st M Q l1 x => jx_ev_st (jx_fok (by decide +kernel : decode (jx_mb 95) 75 = .ok (.aload_n 0, 1))) rfl rfl rfl
  · exact fun d lv st M Q => jx_k_gf (jx_fok (by decide +kernel : decode (jx_mb 95) 76 = .ok (.getfield 80, 3))) rfl rfl rfl
  · exact fun d lv st M Q x z => jx_k_b2 (jx_fok (by decide +kernel : decode (jx_mb 95) 79 = .ok (.if_icmp .ge 45, 3))) rfl jx_hGe
  · exact fun d st M Q l1 x => jx_ev_st (jx_fok (by decide +kernel : decode (jx_mb 95) 82 = .ok (.aload_n 0, 1))) rfl rfl rfl
  · exact fun d lv st M Q => jx_k_gf (jx_fok (by decide +kernel : decode (jx_mb 95) 83 = .ok (.getfield 25, 3))) rfl rfl rfl
  · exact fun d st M Q l0 x => jx_ev_st (jx_fok (by decide +kernel : decode (jx_mb 95) 86 = .ok (.iload_n 1, 1))) rfl rfl rfl
  · exact fun d st M Q l1 x => jx_ev_st (jx_fok (by decide +kernel : decode (jx_mb 95) 87 = .ok (.aload_n 0, 1))) rfl rfl rfl
  · exact fun d lv st M Q => jx_k_gf (jx_fok (by decide +kernel : decode (jx_mb 95) 88 = .ok (.getfield 40, 3))) rfl rfl rfl
  · exact fun d st M Q l0 x => jx_ev_st (jx_fok (by decide +kernel : decode (jx_mb 95) 91 = .ok (.iload_n 1, 1))) rfl rfl rfl
  · exact fun d lv st M Q x a ha => jx_k_al (jx_fok (by decide +kernel : decode (jx_mb 95) 92 = .ok (.iaload, 1))) ha
  · exact fun d lv st M Q x z a ha => jx_k_as (jx_fok (by decide +kernel : decode (jx_mb 95) 93 = .ok (.iastore, 1))) ha
  · exact fun d st M Q l1 x => jx_ev_st (jx_fok (by decide +kernel : decode (jx_mb 95) 94 = .ok (.aload_n 0, 1))) rfl rfl rfl
  · exact fun d lv st M Q => jx_k_gf (jx_fok (by decide +kernel : decode (jx_mb 95) 95 = .ok (.getfield 28, 3))) rfl rfl rfl
  · exact fun d st M Q l0 x => jx_ev_st (jx_fok (by decide +kernel : decode (jx_mb 95) 98 = .ok (.iload_n 1, 1))) rfl rfl rfl
  · exact fun d st M Q l1 x => jx_ev_st (jx_fok (by decide +kernel : decode (jx_mb 95) 99 = .ok (.aload_n 0, 1))) rfl rfl rfl
  · exact fun d lv st M Q => jx_k_gf (jx_fok (by decide +kernel : decode (jx_mb 95) 100 = .ok (.getfield 43, 3))) rfl rfl rfl
  · exact fun d st M Q l0 x => jx_ev_st (jx_fok (by decide +kernel : decode (jx_mb 95) 103 = .ok (.iload_n 1, 1))) rfl rfl rfl
  · exact fun d lv st M Q x a ha => jx_k_al (jx_fok (by decide +kernel : decode (jx_mb 95) 104 = .ok (.iaload, 1))) ha
  · exact fun d lv st M Q x z a ha => jx_k_as (jx_fok (by decide +kernel : decode (jx_mb 95) 105 = .ok (.iastore, 1))) ha
  · exact fun d st M Q l1 x => jx_ev_st (jx_fok (by decide +kernel : decode (jx_mb 95) 106 = .ok (.aload_n 0, 1))) rfl rfl rfl
  · exact fun d lv st M Q => jx_k_gf (jx_fok (by decide +kernel : decode (jx_mb 95) 107 = .ok (.getfield 31, 3))) rfl rfl rfl
  · exact fun d st M Q l0 x => jx_ev_st (jx_fok (by decide +kernel : decode (jx_mb 95) 110 = .ok (.iload_n 1, 1))) rfl rfl rfl
  · exact fun d st M Q l1 x => jx_ev_st (jx_fok (by decide +kernel : decode (jx_mb 95) 111 = .ok (.aload_n 0, 1))) rfl rfl rfl
  · exact fun d lv st M Q => jx_k_gf (jx_fok (by decide +kernel : decode (jx_mb 95) 112 = .ok (.getfield 46, 3))) rfl rfl rfl
  · exact fun d st M Q l0 x => jx_ev_st (jx_fok (by decide +kernel : decode (jx_mb 95) 115 = .ok (.iload_n 1, 1))) rfl rfl rfl
  · exact fun d lv st M Q x a ha => jx_k_al (jx_fok (by decide +kernel : decode (jx_mb 95) 116 = .ok (.iaload, 1))) ha
  · exact fun d lv st M Q x z a ha => jx_k_as (jx_fok (by decide +kernel : decode (jx_mb 95) 117 = .ok (.iastore, 1))) ha
  · exact fun d st M Q l0 x => jx_ev_st (jx_fok (by decide +kernel : decode (jx_mb 95) 118 = .ok (.iinc 1 1, 3))) rfl rfl rfl
  · exact fun d lv st M Q => jx_k_goto (jx_fok (by decide +kernel : decode (jx_mb 95) 121 = .ok (.goto (-47), 3))) rfl
  · exact fun d st M Q l1 x => jx_ev_st (jx_fok (by decide +kernel : decode (jx_mb 95) 124 = .ok (.aload_n 0, 1))) rfl rfl rfl
  · exact fun d lv st M Q => jx_ev_st (jx_fok (by decide +kernel : decode (jx_mb 95) 125 = .ok (.iconst 0, 1))) rfl rfl rfl
  · exact fun d lv st M Q x => jx_k_pf0 (jx_fok (by decide +kernel : decode (jx_mb 95) 126 = .ok (.putfield 125, 3))) rfl rfl rfl
  · exact fun d lv M Q => jx_k_rv (jx_fok (by decide +kernel : decode (jx_mb 95) 129 = .ok (.return_, 1))) rfl
theorem eX8_takeOffice_26 (d : Nat) (st : List Value) (M : jx_M) (Q : jx_Po) (l0 : Option Value) (x : Int32) : jx_Ev d 95 26 [l0, some (.int x)] st M Q ↔ jx_Ev d 95 27 [l0, some (.int x)] (.int x :: st) M Q := jx_ev_st (jx_fok (by decide +kernel : decode (jx_mb 95) 26 = .ok (.iload_n 1, 1))) rfl rfl rfl
theorem eX8_takeOffice_74 (d : Nat) (st : List Value) (M : jx_M) (Q : jx_Po) (l0 : Option Value) (x : Int32) : jx_Ev d 95 74 [l0, some (.int x)] st M Q ↔ jx_Ev d 95 75 [l0, some (.int x)] (.int x :: st) M Q := jx_ev_st (jx_fok (by decide +kernel : decode (jx_mb 95) 74 = .ok (.iload_n 1, 1))) rfl rfl rfl
theorem kX8_takeOffice (d : Nat) (M : jx_M) (q : jx_M → Prop) (a0 : Value) : jx_V d 95 [a0] M q ↔ jx_Ev d 95 0 [some a0, none] [] M (jx_qV q) := Iff.rfl
set_option maxRecDepth 100000 in
theorem eX8_readOffice :
  (∀ (d : Nat) (st : List Value) (M : jx_M) (Q : jx_Po) (l1 : Option Value) (x : Nat), jx_Ev d 96 0 [some (.ref x), l1] st M Q ↔ jx_Ev d 96 1 [some (.ref x), l1] (.ref x :: st) M Q) ∧
  (∀ (d : Nat) (lv : List (Option Value)) (st : List Value) (M : jx_M) (Q : jx_Po), jx_Ev d 96 1 lv st M Q ↔ jx_Ev d 96 2 lv (.int 0 :: st) M Q) ∧
  (∀ (d : Nat) (lv : List (Option Value)) (st : List Value) (M : jx_M) (Q : jx_Po) (x : Int32), jx_Ev d 96 2 lv (.int x :: .ref 36 :: st) M Q ↔ jx_Ev d 96 5 lv st (jx_up M 36 17 x) Q) ∧
  (∀ (d : Nat) (st : List Value) (M : jx_M) (Q : jx_Po) (l1 : Option Value) (x : Nat), jx_Ev d 96 5 [some (.ref x), l1] st M Q ↔ jx_Ev d 96 6 [some (.ref x), l1] (.ref x :: st) M Q) ∧
  (∀ (d : Nat) (lv : List (Option Value)) (st : List Value) (M : jx_M) (Q : jx_Po), jx_Ev d 96 6 lv st M Q ↔ jx_Ev d 96 7 lv (.int 0 :: st) M Q) ∧
  (∀ (d : Nat) (lv : List (Option Value)) (st : List Value) (M : jx_M) (Q : jx_Po) (x : Int32), jx_Ev d 96 7 lv (.int x :: .ref 36 :: st) M Q ↔ jx_Ev d 96 10 lv st (jx_up M 36 18 x) Q) ∧
  (∀ (d : Nat) (st : List Value) (M : jx_M) (Q : jx_Po) (l1 : Option Value) (x : Nat), jx_Ev d 96 10 [some (.ref x), l1] st M Q ↔ jx_Ev d 96 11 [some (.ref x), l1] (.ref x :: st) M Q) ∧
  (∀ (d : Nat) (st : List Value) (M : jx_M) (Q : jx_Po) (l0 : Option Value) (x : Int32), jx_Ev d 96 11 [l0, some (.int x)] st M Q ↔ jx_Ev d 96 12 [l0, some (.int x)] (.int x :: st) M Q) ∧
  (∀ (d : Nat) (lv : List (Option Value)) (st : List Value) (M : jx_M) (Q : jx_Po), jx_Ev d 96 12 lv st M Q ↔ jx_Ev d 96 14 lv (.int 116 :: st) M Q) ∧
  (∀ (d : Nat) (lv : List (Option Value)) (M : jx_M) (Q : jx_Po) (a0 : Int32) (a1 : Int32), jx_Ev (d + 1) 96 14 lv [.int a0, .int a1, .ref 36] M Q ↔ jx_I d 93 [.ref 36, .int a1, .int a0] M (fun x M => jx_Ev (d + 1) 96 17 lv (.int x :: []) M Q)) ∧
  (∀ (d : Nat) (lv : List (Option Value)) (st : List Value) (M : jx_M) (Q : jx_Po) (x : Int32), jx_Ev d 96 17 lv (.int x :: st) M Q ↔ (if x = 0 then jx_Ev d 96 20 lv st M Q else jx_Ev d 96 22 lv st M Q)) ∧
  (∀ (d : Nat) (lv : List (Option Value)) (st : List Value) (M : jx_M) (Q : jx_Po), jx_Ev d 96 20 lv st M Q ↔ jx_Ev d 96 21 lv (.int 0 :: st) M Q) ∧
  (∀ (d : Nat) (lv : List (Option Value)) (M : jx_M) (Q : jx_Po) (x : Int32), jx_Ev d 96 21 lv [.int x] M Q ↔ ((x = 0 ∨ x = 1) ∧ Q [.int x] M)) ∧
  (∀ (d : Nat) (st : List Value) (M : jx_M) (Q : jx_Po) (l1 : Option Value) (x : Nat), jx_Ev d 96 22 [some (.ref x), l1] st M Q ↔ jx_Ev d 96 23 [some (.ref x), l1] (.ref x :: st) M Q) ∧
  (∀ (d : Nat) (st : List Value) (M : jx_M) (Q : jx_Po) (l1 : Option Value) (x : Nat), jx_Ev d 96 23 [some (.ref x), l1] st M Q ↔ jx_Ev d 96 24 [some (.ref x), l1] (.ref x :: st) M Q) ∧
  (∀ (d : Nat) (st : List Value) (M : jx_M) (Q : jx_Po) (l0 : Option Value) (x : Int32), jx_Ev d 96 24 [l0, some (.int x)] st M Q ↔ jx_Ev d 96 25 [l0, some (.int x)] (.int x :: st) M Q) ∧
  (∀ (d : Nat) (lv : List (Option Value)) (st : List Value) (M : jx_M) (Q : jx_Po), jx_Ev d 96 25 lv st M Q ↔ jx_Ev d 96 26 lv (.int 0 :: st) M Q) ∧
  (∀ (d : Nat) (lv : List (Option Value)) (st : List Value) (M : jx_M) (Q : jx_Po), jx_Ev d 96 26 lv st M Q ↔ jx_Ev d 96 27 lv (.int 3 :: st) M Q) ∧
  (∀ (d : Nat) (lv : List (Option Value)) (M : jx_M) (Q : jx_Po) (a0 : Int32) (a1 : Int32) (a2 : Int32) (a4 : Nat), jx_Ev (d + 1) 96 27 lv [.int a0, .int a1, .int a2, .ref 36, .ref a4] M Q ↔ jx_I d 92 [.ref 36, .int a2, .int a1, .int a0] M (fun x M => jx_Ev (d + 1) 96 30 lv (.int x :: [.ref a4]) M Q)) ∧
  (∀ (d : Nat) (lv : List (Option Value)) (st : List Value) (M : jx_M) (Q : jx_Po) (x : Int32), jx_Ev d 96 30 lv (.int x :: .ref 36 :: st) M Q ↔ jx_Ev d 96 33 lv st (jx_up M 36 15 x) Q) ∧
  (∀ (d : Nat) (st : List Value) (M : jx_M) (Q : jx_Po) (l1 : Option Value) (x : Nat), jx_Ev d 96 33 [some (.ref x), l1] st M Q ↔ jx_Ev d 96 34 [some (.ref x), l1] (.ref x :: st) M Q) ∧
  (∀ (d : Nat) (lv : List (Option Value)) (st : List Value) (M : jx_M) (Q : jx_Po), jx_Ev d 96 34 lv (.ref 36 :: st) M Q ↔ jx_Ev d 96 37 lv (.int (M 36 15) :: st) M Q) ∧
  (∀ (d : Nat) (lv : List (Option Value)) (st : List Value) (M : jx_M) (Q : jx_Po), jx_Ev d 96 37 lv st M Q ↔ jx_Ev d 96 39 lv (.int (-9) :: st) M Q) ∧
  (∀ (d : Nat) (lv : List (Option Value)) (st : List Value) (M : jx_M) (Q : jx_Po) (x z : Int32), jx_Ev d 96 39 lv (.int z :: .int x :: st) M Q ↔ (if x = z then jx_Ev d 96 42 lv st M Q else jx_Ev d 96 44 lv st M Q)) ∧
  (∀ (d : Nat) (lv : List (Option Value)) (st : List Value) (M : jx_M) (Q : jx_Po), jx_Ev d 96 42 lv st M Q ↔ jx_Ev d 96 43 lv (.int 0 :: st) M Q) ∧
  (∀ (d : Nat) (lv : List (Option Value)) (M : jx_M) (Q : jx_Po) (x : Int32), jx_Ev d 96 43 lv [.int x] M Q ↔ ((x = 0 ∨ x = 1) ∧ Q [.int x] M)) ∧
  (∀ (d : Nat) (st : List Value) (M : jx_M) (Q : jx_Po) (l1 : Option Value) (x : Nat), jx_Ev d 96 44 [some (.ref x), l1] st M Q ↔ jx_Ev d 96 45 [some (.ref x), l1] (.ref x :: st) M Q) ∧
  (∀ (d : Nat) (st : List Value) (M : jx_M) (Q : jx_Po) (l1 : Option Value) (x : Nat), jx_Ev d 96 45 [some (.ref x), l1] st M Q ↔ jx_Ev d 96 46 [some (.ref x), l1] (.ref x :: st) M Q) ∧
  (∀ (d : Nat) (st : List Value) (M : jx_M) (Q : jx_Po) (l0 : Option Value) (x : Int32), jx_Ev d 96 46 [l0, some (.int x)] st M Q ↔ jx_Ev d 96 47 [l0, some (.int x)] (.int x :: st) M Q) ∧
  (∀ (d : Nat) (lv : List (Option Value)) (st : List Value) (M : jx_M) (Q : jx_Po), jx_Ev d 96 47 lv st M Q ↔ jx_Ev d 96 48 lv (.int 0 :: st) M Q) ∧
  (∀ (d : Nat) (lv : List (Option Value)) (st : List Value) (M : jx_M) (Q : jx_Po), jx_Ev d 96 48 lv st M Q ↔ jx_Ev d 96 50 lv (.int 9 :: st) M Q) ∧
  (∀ (d : Nat) (lv : List (Option Value)) (M : jx_M) (Q : jx_Po) (a0 : Int32) (a1 : Int32) (a2 : Int32) (a4 : Nat), jx_Ev (d + 1) 96 50 lv [.int a0, .int a1, .int a2, .ref 36, .ref a4] M Q ↔ jx_I d 92 [.ref 36, .int a2, .int a1, .int a0] M (fun x M => jx_Ev (d + 1) 96 53 lv (.int x :: [.ref a4]) M Q)) ∧
  (∀ (d : Nat) (lv : List (Option Value)) (st : List Value) (M : jx_M) (Q : jx_Po) (x : Int32), jx_Ev d 96 53 lv (.int x :: .ref 36 :: st) M Q ↔ jx_Ev d 96 56 lv st (jx_up M 36 16 x) Q) ∧
  (∀ (d : Nat) (st : List Value) (M : jx_M) (Q : jx_Po) (l1 : Option Value) (x : Nat), jx_Ev d 96 56 [some (.ref x), l1] st M Q ↔ jx_Ev d 96 57 [some (.ref x), l1] (.ref x :: st) M Q) ∧
  (∀ (d : Nat) (lv : List (Option Value)) (st : List Value) (M : jx_M) (Q : jx_Po), jx_Ev d 96 57 lv (.ref 36 :: st) M Q ↔ jx_Ev d 96 60 lv (.int (M 36 16) :: st) M Q) ∧
  (∀ (d : Nat) (lv : List (Option Value)) (st : List Value) (M : jx_M) (Q : jx_Po), jx_Ev d 96 60 lv st M Q ↔ jx_Ev d 96 62 lv (.int (-9) :: st) M Q) ∧
  (∀ (d : Nat) (lv : List (Option Value)) (st : List Value) (M : jx_M) (Q : jx_Po) (x z : Int32), jx_Ev d 96 62 lv (.int z :: .int x :: st) M Q ↔ (if x = z then jx_Ev d 96 83 lv st M Q else jx_Ev d 96 65 lv st M Q)) ∧
  (∀ (d : Nat) (st : List Value) (M : jx_M) (Q : jx_Po) (l1 : Option Value) (x : Nat), jx_Ev d 96 65 [some (.ref x), l1] st M Q ↔ jx_Ev d 96 66 [some (.ref x), l1] (.ref x :: st) M Q) ∧
  (∀ (d : Nat) (st : List Value) (M : jx_M) (Q : jx_Po) (l0 : Option Value) (x : Int32), jx_Ev d 96 66 [l0, some (.int x)] st M Q ↔ jx_Ev d 96 67 [l0, some (.int x)] (.int x :: st) M Q) ∧
  (∀ (d : Nat) (lv : List (Option Value)) (st : List Value) (M : jx_M) (Q : jx_Po), jx_Ev d 96 67 lv st M Q ↔ jx_Ev d 96 69 lv (.int 44 :: st) M Q) ∧
  (∀ (d : Nat) (lv : List (Option Value)) (M : jx_M) (Q : jx_Po) (a0 : Int32) (a1 : Int32), jx_Ev (d + 1) 96 69 lv [.int a0, .int a1, .ref 36] M Q ↔ jx_I d 93 [.ref 36, .int a1, .int a0] M (fun x M => jx_Ev (d + 1) 96 72 lv (.int x :: []) M Q)) ∧
  (∀ (d : Nat) (lv : List (Option Value)) (st : List Value) (M : jx_M) (Q : jx_Po) (x : Int32), jx_Ev d 96 72 lv (.int x :: st) M Q ↔ (if x = 0 then jx_Ev d 96 83 lv st M Q else jx_Ev d 96 75 lv st M Q)) ∧
  (∀ (d : Nat) (st : List Value) (M : jx_M) (Q : jx_Po) (l1 : Option Value) (x : Nat), jx_Ev d 96 75 [some (.ref x), l1] st M Q ↔ jx_Ev d 96 76 [some (.ref x), l1] (.ref x :: st) M Q) ∧
  (∀ (d : Nat) (st : List Value) (M : jx_M) (Q : jx_Po) (l0 : Option Value) (x : Int32), jx_Ev d 96 76 [l0, some (.int x)] st M Q ↔ jx_Ev d 96 77 [l0, some (.int x)] (.int x :: st) M Q) ∧
  (∀ (d : Nat) (lv : List (Option Value)) (M : jx_M) (Q : jx_Po) (a0 : Int32), jx_Ev (d + 1) 96 77 lv [.int a0, .ref 36] M Q ↔ jx_I d 97 [.ref 36, .int a0] M (fun x M => jx_Ev (d + 1) 96 80 lv (.int x :: []) M Q)) ∧
  (∀ (d : Nat) (lv : List (Option Value)) (st : List Value) (M : jx_M) (Q : jx_Po) (x : Int32), jx_Ev d 96 80 lv (.int x :: st) M Q ↔ (if x = 0 then jx_Ev d 96 83 lv st M Q else jx_Ev d 96 85 lv st M Q)) ∧
  (∀ (d : Nat) (lv : List (Option Value)) (st : List Value) (M : jx_M) (Q : jx_Po), jx_Ev d 96 83 lv st M Q ↔ jx_Ev d 96 84 lv (.int 0 :: st) M Q) ∧
  (∀ (d : Nat) (lv : List (Option Value)) (M : jx_M) (Q : jx_Po) (x : Int32), jx_Ev d 96 84 lv [.int x] M Q ↔ ((x = 0 ∨ x = 1) ∧ Q [.int x] M)) ∧
  (∀ (d : Nat) (lv : List (Option Value)) (st : List Value) (M : jx_M) (Q : jx_Po), jx_Ev d 96 86 lv (.ref 36 :: st) M Q ↔ jx_Ev d 96 89 lv (.int (M 36 17) :: st) M Q) ∧
  (∀ (d : Nat) (lv : List (Option Value)) (st : List Value) (M : jx_M) (Q : jx_Po), jx_Ev d 96 89 lv st M Q ↔ jx_Ev d 96 90 lv (.int 5 :: st) M Q) ∧
  (∀ (d : Nat) (lv : List (Option Value)) (st : List Value) (M : jx_M) (Q : jx_Po) (x z : Int32), jx_Ev d 96 90 lv (.int z :: .int x :: st) M Q ↔ (if z ≤ x then jx_Ev d 96 113 lv st M Q else jx_Ev d 96 93 lv st M Q)) ∧
  (∀ (d : Nat) (st : List Value) (M : jx_M) (Q : jx_Po) (l1 : Option Value) (x : Nat), jx_Ev d 96 93 [some (.ref x), l1] st M Q ↔ jx_Ev d 96 94 [some (.ref x), l1] (.ref x :: st) M Q) ∧
  (∀ (d : Nat) (st : List Value) (M : jx_M) (Q : jx_Po) (l0 : Option Value) (x : Int32), jx_Ev d 96 94 [l0, some (.int x)] st M Q ↔ jx_Ev d 96 95 [l0, some (.int x)] (.int x :: st) M Q) ∧
  (∀ (d : Nat) (lv : List (Option Value)) (st : List Value) (M : jx_M) (Q : jx_Po), jx_Ev d 96 95 lv st M Q ↔ jx_Ev d 96 97 lv (.int 44 :: st) M Q) ∧
  (∀ (d : Nat) (lv : List (Option Value)) (M : jx_M) (Q : jx_Po) (a0 : Int32) (a1 : Int32), jx_Ev (d + 1) 96 97 lv [.int a0, .int a1, .ref 36] M Q ↔ jx_I d 93 [.ref 36, .int a1, .int a0] M (fun x M => jx_Ev (d + 1) 96 100 lv (.int x :: []) M Q)) ∧
  (∀ (d : Nat) (lv : List (Option Value)) (st : List Value) (M : jx_M) (Q : jx_Po) (x : Int32), jx_Ev d 96 100 lv (.int x :: st) M Q ↔ (if x = 0 then jx_Ev d 96 113 lv st M Q else jx_Ev d 96 103 lv st M Q)) ∧
  (∀ (d : Nat) (st : List Value) (M : jx_M) (Q : jx_Po) (l1 : Option Value) (x : Nat), jx_Ev d 96 103 [some (.ref x), l1] st M Q ↔ jx_Ev d 96 104 [some (.ref x), l1] (.ref x :: st) M Q) ∧
  (∀ (d : Nat) (st : List Value) (M : jx_M) (Q : jx_Po) (l0 : Option Value) (x : Int32), jx_Ev d 96 104 [l0, some (.int x)] st M Q ↔ jx_Ev d 96 105 [l0, some (.int x)] (.int x :: st) M Q) ∧
  (∀ (d : Nat) (lv : List (Option Value)) (M : jx_M) (Q : jx_Po) (a0 : Int32), jx_Ev (d + 1) 96 105 lv [.int a0, .ref 36] M Q ↔ jx_I d 97 [.ref 36, .int a0] M (fun x M => jx_Ev (d + 1) 96 108 lv (.int x :: []) M Q)) ∧
  (∀ (d : Nat) (lv : List (Option Value)) (st : List Value) (M : jx_M) (Q : jx_Po) (x : Int32), jx_Ev d 96 108 lv (.int x :: st) M Q ↔ (if x = 0 then jx_Ev d 96 111 lv st M Q else jx_Ev d 96 85 lv st M Q)) ∧
  (∀ (d : Nat) (lv : List (Option Value)) (st : List Value) (M : jx_M) (Q : jx_Po), jx_Ev d 96 111 lv st M Q ↔ jx_Ev d 96 112 lv (.int 0 :: st) M Q) ∧
  (∀ (d : Nat) (lv : List (Option Value)) (M : jx_M) (Q : jx_Po) (x : Int32), jx_Ev d 96 112 lv [.int x] M Q ↔ ((x = 0 ∨ x = 1) ∧ Q [.int x] M)) ∧
  (∀ (d : Nat) (lv : List (Option Value)) (st : List Value) (M : jx_M) (Q : jx_Po), jx_Ev d 96 114 lv (.ref 36 :: st) M Q ↔ jx_Ev d 96 117 lv (.int (M 36 18) :: st) M Q) ∧
  (∀ (d : Nat) (lv : List (Option Value)) (st : List Value) (M : jx_M) (Q : jx_Po) (x : Int32), jx_Ev d 96 117 lv (.int x :: st) M Q ↔ (if x = 0 then jx_Ev d 96 137 lv st M Q else jx_Ev d 96 120 lv st M Q)) ∧
  (∀ (d : Nat) (st : List Value) (M : jx_M) (Q : jx_Po) (l1 : Option Value) (x : Nat), jx_Ev d 96 120 [some (.ref x), l1] st M Q ↔ jx_Ev d 96 121 [some (.ref x), l1] (.ref x :: st) M Q) ∧
  (∀ (d : Nat) (lv : List (Option Value)) (st : List Value) (M : jx_M) (Q : jx_Po), jx_Ev d 96 121 lv (.ref 36 :: st) M Q ↔ jx_Ev d 96 124 lv (.int (M 36 18) :: st) M Q) ∧
  (∀ (d : Nat) (lv : List (Option Value)) (st : List Value) (M : jx_M) (Q : jx_Po), jx_Ev d 96 124 lv st M Q ↔ jx_Ev d 96 126 lv (.int 6 :: st) M Q) ∧
  (∀ (d : Nat) (lv : List (Option Value)) (st : List Value) (M : jx_M) (Q : jx_Po) (x z : Int32), jx_Ev d 96 126 lv (.int z :: .int x :: st) M Q ↔ (if z ≤ x then jx_Ev d 96 157 lv st M Q else jx_Ev d 96 129 lv st M Q)) ∧
  (∀ (d : Nat) (st : List Value) (M : jx_M) (Q : jx_Po) (l1 : Option Value) (x : Nat), jx_Ev d 96 129 [some (.ref x), l1] st M Q ↔ jx_Ev d 96 130 [some (.ref x), l1] (.ref x :: st) M Q) ∧
  (∀ (d : Nat) (lv : List (Option Value)) (st : List Value) (M : jx_M) (Q : jx_Po), jx_Ev d 96 130 lv (.ref 36 :: st) M Q ↔ jx_Ev d 96 133 lv (.int (M 36 14) :: st) M Q) ∧
  (∀ (d : Nat) (st : List Value) (M : jx_M) (Q : jx_Po) (l0 : Option Value) (x : Int32), jx_Ev d 96 133 [l0, some (.int x)] st M Q ↔ jx_Ev d 96 134 [l0, some (.int x)] (.int x :: st) M Q) ∧
  (∀ (d : Nat) (lv : List (Option Value)) (st : List Value) (M : jx_M) (Q : jx_Po) (x z : Int32), jx_Ev d 96 134 lv (.int z :: .int x :: st) M Q ↔ (if z ≤ x then jx_Ev d 96 157 lv st M Q else jx_Ev d 96 137 lv st M Q)) ∧
  (∀ (d : Nat) (st : List Value) (M : jx_M) (Q : jx_Po) (l1 : Option Value) (x : Nat), jx_Ev d 96 137 [some (.ref x), l1] st M Q ↔ jx_Ev d 96 138 [some (.ref x), l1] (.ref x :: st) M Q) ∧
  (∀ (d : Nat) (st : List Value) (M : jx_M) (Q : jx_Po) (l0 : Option Value) (x : Int32), jx_Ev d 96 138 [l0, some (.int x)] st M Q ↔ jx_Ev d 96 139 [l0, some (.int x)] (.int x :: st) M Q) ∧
  (∀ (d : Nat) (lv : List (Option Value)) (st : List Value) (M : jx_M) (Q : jx_Po), jx_Ev d 96 139 lv st M Q ↔ jx_Ev d 96 141 lv (.int 59 :: st) M Q) ∧
  (∀ (d : Nat) (lv : List (Option Value)) (M : jx_M) (Q : jx_Po) (a0 : Int32) (a1 : Int32), jx_Ev (d + 1) 96 141 lv [.int a0, .int a1, .ref 36] M Q ↔ jx_I d 93 [.ref 36, .int a1, .int a0] M (fun x M => jx_Ev (d + 1) 96 144 lv (.int x :: []) M Q)) ∧
  (∀ (d : Nat) (lv : List (Option Value)) (st : List Value) (M : jx_M) (Q : jx_Po) (x : Int32), jx_Ev d 96 144 lv (.int x :: st) M Q ↔ (if x = 0 then jx_Ev d 96 155 lv st M Q else jx_Ev d 96 147 lv st M Q)) ∧
  (∀ (d : Nat) (st : List Value) (M : jx_M) (Q : jx_Po) (l1 : Option Value) (x : Nat), jx_Ev d 96 147 [some (.ref x), l1] st M Q ↔ jx_Ev d 96 148 [some (.ref x), l1] (.ref x :: st) M Q) ∧
  (∀ (d : Nat) (st : List Value) (M : jx_M) (Q : jx_Po) (l0 : Option Value) (x : Int32), jx_Ev d 96 148 [l0, some (.int x)] st M Q ↔ jx_Ev d 96 149 [l0, some (.int x)] (.int x :: st) M Q) ∧
  (∀ (d : Nat) (lv : List (Option Value)) (M : jx_M) (Q : jx_Po) (a0 : Int32), jx_Ev (d + 1) 96 149 lv [.int a0, .ref 36] M Q ↔ jx_I d 98 [.ref 36, .int a0] M (fun x M => jx_Ev (d + 1) 96 152 lv (.int x :: []) M Q)) ∧
  (∀ (d : Nat) (lv : List (Option Value)) (st : List Value) (M : jx_M) (Q : jx_Po) (x : Int32), jx_Ev d 96 152 lv (.int x :: st) M Q ↔ (if x = 0 then jx_Ev d 96 155 lv st M Q else jx_Ev d 96 113 lv st M Q)) ∧
  (∀ (d : Nat) (lv : List (Option Value)) (st : List Value) (M : jx_M) (Q : jx_Po), jx_Ev d 96 155 lv st M Q ↔ jx_Ev d 96 156 lv (.int 0 :: st) M Q) ∧
  (∀ (d : Nat) (lv : List (Option Value)) (M : jx_M) (Q : jx_Po) (x : Int32), jx_Ev d 96 156 lv [.int x] M Q ↔ ((x = 0 ∨ x = 1) ∧ Q [.int x] M)) ∧
  (∀ (d : Nat) (st : List Value) (M : jx_M) (Q : jx_Po) (l1 : Option Value) (x : Nat), jx_Ev d 96 157 [some (.ref x), l1] st M Q ↔ jx_Ev d 96 158 [some (.ref x), l1] (.ref x :: st) M Q) ∧
  (∀ (d : Nat) (lv : List (Option Value)) (st : List Value) (M : jx_M) (Q : jx_Po), jx_Ev d 96 158 lv (.ref 36 :: st) M Q ↔ jx_Ev d 96 161 lv (.int (M 36 14) :: st) M Q) ∧
  (∀ (d : Nat) (st : List Value) (M : jx_M) (Q : jx_Po) (l0 : Option Value) (x : Int32), jx_Ev d 96 161 [l0, some (.int x)] st M Q ↔ jx_Ev d 96 162 [l0, some (.int x)] (.int x :: st) M Q) ∧
  (∀ (d : Nat) (lv : List (Option Value)) (st : List Value) (M : jx_M) (Q : jx_Po) (x z : Int32), jx_Ev d 96 162 lv (.int z :: .int x :: st) M Q ↔ (if x = z then jx_Ev d 96 165 lv st M Q else jx_Ev d 96 169 lv st M Q)) ∧
  (∀ (d : Nat) (lv : List (Option Value)) (st : List Value) (M : jx_M) (Q : jx_Po), jx_Ev d 96 165 lv st M Q ↔ jx_Ev d 96 166 lv (.int 1 :: st) M Q) ∧
  (∀ (d : Nat) (lv : List (Option Value)) (st : List Value) (M : jx_M) (Q : jx_Po), jx_Ev d 96 166 lv st M Q ↔ jx_Ev d 96 170 lv st M Q) ∧
  (∀ (d : Nat) (lv : List (Option Value)) (st : List Value) (M : jx_M) (Q : jx_Po), jx_Ev d 96 169 lv st M Q ↔ jx_Ev d 96 170 lv (.int 0 :: st) M Q) ∧
  (∀ (d : Nat) (lv : List (Option Value)) (M : jx_M) (Q : jx_Po) (x : Int32), jx_Ev d 96 170 lv [.int x] M Q ↔ ((x = 0 ∨ x = 1) ∧ Q [.int x] M)) := by
  refine ⟨?_, ?_, ?_, ?_, ?_, ?_, ?_, ?_, ?_, ?_, ?_, ?_, ?_, ?_, ?_, ?_, ?_, ?_, ?_, ?_, ?_, ?_, ?_, ?_, ?_, ?_, ?_, ?_, ?_, ?_, ?_, ?_, ?_, ?_, ?_, ?_, ?_, ?_, ?_, ?_, ?_, ?_, ?_, ?_, ?_, ?_, ?_, ?_, ?_, ?_, ?_, ?_, ?_, ?_, ?_, ?_, ?_, ?_, ?_, ?_, ?_, ?_, ?_, ?_, ?_, ?_, ?_, ?_, ?_, ?_, ?_, ?_, ?_, ?_, ?_, ?_, ?_, ?_, ?_, ?_, ?_, ?_, ?_, ?_, ?_, ?_, ?_, ?_, ?_, ?_, ?_⟩
  · exact fun d st M Q l1 x => jx_ev_st (jx_fok (by decide +kernel : decode (jx_mb 96) 0 = .ok (.aload_n 0, 1))) rfl rfl rfl
  · exact fun d lv st M Q => jx_ev_st (jx_fok (by decide +kernel : decode (jx_mb 96) 1 = .ok (.iconst 0, 1))) rfl rfl rfl
  · exact fun d lv st M Q x => jx_k_pf0 (jx_fok (by decide +kernel : decode (jx_mb 96) 2 = .ok (.putfield 119, 3))) rfl rfl rfl
  · exact fun d st M Q l1 x => jx_ev_st (jx_fok (by decide +kernel : decode (jx_mb 96) 5 = .ok (.aload_n 0, 1))) rfl rfl rfl
  · exact fun d lv st M Q => jx_ev_st (jx_fok (by decide +kernel : decode (jx_mb 96) 6 = .ok (.iconst 0, 1))) rfl rfl rfl
  · exact fun d lv st M Q x => jx_k_pf0 (jx_fok (by decide +kernel : decode (jx_mb 96) 7 = .ok (.putfield 122, 3))) rfl rfl rfl
  · exact fun d st M Q l1 x => jx_ev_st (jx_fok (by decide +kernel : decode (jx_mb 96) 10 = .ok (.aload_n 0, 1))) rfl rfl rfl
  · exact fun d st M Q l0 x => jx_ev_st (jx_fok (by decide +kernel : decode (jx_mb 96) 11 = .ok (.iload_n 1, 1))) rfl rfl rfl
  · exact fun d lv st M Q => jx_ev_st (jx_fok (by decide +kernel : decode (jx_mb 96) 12 = .ok (.bipush 116, 2))) rfl rfl rfl
  · exact fun d lv M Q a0 a1 => jx_ev_ci (jx_fok (by decide +kernel : decode (jx_mb 96) 14 = .ok (.invokevirtual 128, 3))) rfl (jx_ccV (As := [.int a1, .int a0]) (rest := []) rfl rfl rfl rfl rfl rfl) (by decide)
  · exact fun d lv st M Q x => jx_k_b1n (jx_fok (by decide +kernel : decode (jx_mb 96) 17 = .ok (.ifCond .ne 5, 3))) rfl jx_hNe
  · exact fun d lv st M Q => jx_ev_st (jx_fok (by decide +kernel : decode (jx_mb 96) 20 = .ok (.iconst 0, 1))) rfl rfl rfl
  · exact fun d lv M Q x => jx_k_rz (jx_fok (by decide +kernel : decode (jx_mb 96) 21 = .ok (.ireturn, 1))) rfl
  · exact fun d st M Q l1 x => jx_ev_st (jx_fok (by decide +kernel : decode (jx_mb 96) 22 = .ok (.aload_n 0, 1))) rfl rfl rfl
  · exact fun d st M Q l1 x => jx_ev_st (jx_fok (by decide +kernel : decode (jx_mb 96) 23 = .ok (.aload_n 0, 1))) rfl rfl rfl
  · exact fun d st M Q l0 x => jx_ev_st (jx_fok (by decide +kernel : decode (jx_mb 96) 24 = .ok (.iload_n 1, 1))) rfl rfl rfl
  · exact fun d lv st M Q => jx_ev_st (jx_fok (by decide +kernel : decode (jx_mb 96) 25 = .ok (.iconst 0, 1))) rfl rfl rfl
  · exact fun d lv st M Q => jx_ev_st (jx_fok (by decide +kernel : decode (jx_mb 96) 26 = .ok (.iconst 3, 1))) rfl rfl rfl
  · exact fun d lv M Q a0 a1 a2 a4 => jx_ev_ci (jx_fok (by decide +kernel : decode (jx_mb 96) 27 = .ok (.invokevirtual 132, 3))) rfl (jx_ccV (As := [.int a2, .int a1, .int a0]) (rest := [.ref a4]) rfl rfl rfl rfl rfl rfl) (by decide)
  · exact fun d lv st M Q x => jx_k_pf0 (jx_fok (by decide +kernel : decode (jx_mb 96) 30 = .ok (.putfield 107, 3))) rfl rfl rfl
  · exact fun d st M Q l1 x => jx_ev_st (jx_fok (by decide +kernel : decode (jx_mb 96) 33 = .ok (.aload_n 0, 1))) rfl rfl rfl
  · exact fun d lv st M Q => jx_k_gf (jx_fok (by decide +kernel : decode (jx_mb 96) 34 = .ok (.getfield 107, 3))) rfl rfl rfl
  · exact fun d lv st M Q => jx_ev_st (jx_fok (by decide +kernel : decode (jx_mb 96) 37 = .ok (.bipush (-9), 2))) rfl rfl rfl
  · exact fun d lv st M Q x z => jx_k_b2n (jx_fok (by decide +kernel : decode (jx_mb 96) 39 = .ok (.if_icmp .ne 5, 3))) rfl jx_hNe
  · exact fun d lv st M Q => jx_ev_st (jx_fok (by decide +kernel : decode (jx_mb 96) 42 = .ok (.iconst 0, 1))) rfl rfl rfl
  · exact fun d lv M Q x => jx_k_rz (jx_fok (by decide +kernel : decode (jx_mb 96) 43 = .ok (.ireturn, 1))) rfl
  · exact fun d st M Q l1 x => jx_ev_st (jx_fok (by decide +kernel : decode (jx_mb 96) 44 = .ok (.aload_n 0, 1))) rfl rfl rfl
  · exact fun d st M Q l1 x => jx_ev_st (jx_fok (by decide +kernel : decode (jx_mb 96) 45 = .ok (.aload_n 0, 1))) rfl rfl rfl
  · exact fun d st M Q l0 x => jx_ev_st (jx_fok (by decide +kernel : decode (jx_mb 96) 46 = .ok (.iload_n 1, 1))) rfl rfl rfl
  · exact fun d lv st M Q => jx_ev_st (jx_fok (by decide +kernel : decode (jx_mb 96) 47 = .ok (.iconst 0, 1))) rfl rfl rfl
  · exact fun d lv st M Q => jx_ev_st (jx_fok (by decide +kernel : decode (jx_mb 96) 48 = .ok (.bipush 9, 2))) rfl rfl rfl
  · exact fun d lv M Q a0 a1 a2 a4 => jx_ev_ci (jx_fok (by decide +kernel : decode (jx_mb 96) 50 = .ok (.invokevirtual 132, 3))) rfl (jx_ccV (As := [.int a2, .int a1, .int a0]) (rest := [.ref a4]) rfl rfl rfl rfl rfl rfl) (by decide)
  · exact fun d lv st M Q x => jx_k_pf0 (jx_fok (by decide +kernel : decode (jx_mb 96) 53 = .ok (.putfield 113, 3))) rfl rfl rfl
  · exact fun d st M Q l1 x => jx_ev_st (jx_fok (by decide +kernel : decode (jx_mb 96) 56 = .ok (.aload_n 0, 1))) rfl rfl rfl
  · exact fun d lv st M Q => jx_k_gf (jx_fok (by decide +kernel : decode (jx_mb 96) 57 = .ok (.getfield 113, 3))) rfl rfl rfl
  · exact fun d lv st M Q => jx_ev_st (jx_fok (by decide +kernel : decode (jx_mb 96) 60 = .ok (.bipush (-9), 2))) rfl rfl rfl
  · exact fun d lv st M Q x z => jx_k_b2 (jx_fok (by decide +kernel : decode (jx_mb 96) 62 = .ok (.if_icmp .eq 21, 3))) rfl jx_hEq
  · exact fun d st M Q l1 x => jx_ev_st (jx_fok (by decide +kernel : decode (jx_mb 96) 65 = .ok (.aload_n 0, 1))) rfl rfl rfl
  · exact fun d st M Q l0 x => jx_ev_st (jx_fok (by decide +kernel : decode (jx_mb 96) 66 = .ok (.iload_n 1, 1))) rfl rfl rfl
  · exact fun d lv st M Q => jx_ev_st (jx_fok (by decide +kernel : decode (jx_mb 96) 67 = .ok (.bipush 44, 2))) rfl rfl rfl
  · exact fun d lv M Q a0 a1 => jx_ev_ci (jx_fok (by decide +kernel : decode (jx_mb 96) 69 = .ok (.invokevirtual 128, 3))) rfl (jx_ccV (As := [.int a1, .int a0]) (rest := []) rfl rfl rfl rfl rfl rfl) (by decide)
  · exact fun d lv st M Q x => jx_k_b1 (jx_fok (by decide +kernel : decode (jx_mb 96) 72 = .ok (.ifCond .eq 11, 3))) rfl jx_hEq
  · exact fun d st M Q l1 x => jx_ev_st (jx_fok (by decide +kernel : decode (jx_mb 96) 75 = .ok (.aload_n 0, 1))) rfl rfl rfl
  · exact fun d st M Q l0 x => jx_ev_st (jx_fok (by decide +kernel : decode (jx_mb 96) 76 = .ok (.iload_n 1, 1))) rfl rfl rfl
  · exact fun d lv M Q a0 => jx_ev_ci (jx_fok (by decide +kernel : decode (jx_mb 96) 77 = .ok (.invokevirtual 136, 3))) rfl (jx_ccV (As := [.int a0]) (rest := []) rfl rfl rfl rfl rfl rfl) (by decide)
  · exact fun d lv st M Q x => jx_k_b1n (jx_fok (by decide +kernel : decode (jx_mb 96) 80 = .ok (.ifCond .ne 5, 3))) rfl jx_hNe
  · exact fun d lv st M Q => jx_ev_st (jx_fok (by decide +kernel : decode (jx_mb 96) 83 = .ok (.iconst 0, 1))) rfl rfl rfl
  · exact fun d lv M Q x => jx_k_rz (jx_fok (by decide +kernel : decode (jx_mb 96) 84 = .ok (.ireturn, 1))) rfl
  · exact fun d lv st M Q => jx_k_gf (jx_fok (by decide +kernel : decode (jx_mb 96) 86 = .ok (.getfield 119, 3))) rfl rfl rfl
  · exact fun d lv st M Q => jx_ev_st (jx_fok (by decide +kernel : decode (jx_mb 96) 89 = .ok (.iconst 5, 1))) rfl rfl rfl
  · exact fun d lv st M Q x z => jx_k_b2 (jx_fok (by decide +kernel : decode (jx_mb 96) 90 = .ok (.if_icmp .ge 23, 3))) rfl jx_hGe
  · exact fun d st M Q l1 x => jx_ev_st (jx_fok (by decide +kernel : decode (jx_mb 96) 93 = .ok (.aload_n 0, 1))) rfl rfl rfl
  · exact fun d st M Q l0 x => jx_ev_st (jx_fok (by decide +kernel : decode (jx_mb 96) 94 = .ok (.iload_n 1, 1))) rfl rfl rfl
  · exact fun d lv st M Q => jx_ev_st (jx_fok (by decide +kernel : decode (jx_mb 96) 95 = .ok (.bipush 44, 2))) rfl rfl rfl
  · exact fun d lv M Q a0 a1 => jx_ev_ci (jx_fok (by decide +kernel : decode (jx_mb 96) 97 = .ok (.invokevirtual 128, 3))) rfl (jx_ccV (As := [.int a1, .int a0]) (rest := []) rfl rfl rfl rfl rfl rfl) (by decide)
  · exact fun d lv st M Q x => jx_k_b1 (jx_fok (by decide +kernel : decode (jx_mb 96) 100 = .ok (.ifCond .eq 13, 3))) rfl jx_hEq
  · exact fun d st M Q l1 x => jx_ev_st (jx_fok (by decide +kernel : decode (jx_mb 96) 103 = .ok (.aload_n 0, 1))) rfl rfl rfl
  · exact fun d st M Q l0 x => jx_ev_st (jx_fok (by decide +kernel : decode (jx_mb 96) 104 = .ok (.iload_n 1, 1))) rfl rfl rfl
  · exact fun d lv M Q a0 => jx_ev_ci (jx_fok (by decide +kernel : decode (jx_mb 96) 105 = .ok (.invokevirtual 136, 3))) rfl (jx_ccV (As := [.int a0]) (rest := []) rfl rfl rfl rfl rfl rfl) (by decide)
  · exact fun d lv st M Q x => jx_k_b1n (jx_fok (by decide +kernel : decode (jx_mb 96) 108 = .ok (.ifCond .ne (-23), 3))) rfl jx_hNe
  · exact fun d lv st M Q => jx_ev_st (jx_fok (by decide +kernel : decode (jx_mb 96) 111 = .ok (.iconst 0, 1))) rfl rfl rfl
  · exact fun d lv M Q x => jx_k_rz (jx_fok (by decide +kernel : decode (jx_mb 96) 112 = .ok (.ireturn, 1))) rfl
  · exact fun d lv st M Q => jx_k_gf (jx_fok (by decide +kernel : decode (jx_mb 96) 114 = .ok (.getfield 122, 3))) rfl rfl rfl
  · exact fun d lv st M Q x => jx_k_b1 (jx_fok (by decide +kernel : decode (jx_mb 96) 117 = .ok (.ifCond .eq 20, 3))) rfl jx_hEq
  · exact fun d st M Q l1 x => jx_ev_st (jx_fok (by decide +kernel : decode (jx_mb 96) 120 = .ok (.aload_n 0, 1))) rfl rfl rfl
  · exact fun d lv st M Q => jx_k_gf (jx_fok (by decide +kernel : decode (jx_mb 96) 121 = .ok (.getfield 122, 3))) rfl rfl rfl
  · exact fun d lv st M Q => jx_ev_st (jx_fok (by decide +kernel : decode (jx_mb 96) 124 = .ok (.bipush 6, 2))) rfl rfl rfl
  · exact fun d lv st M Q x z => jx_k_b2 (jx_fok (by decide +kernel : decode (jx_mb 96) 126 = .ok (.if_icmp .ge 31, 3))) rfl jx_hGe
  · exact fun d st M Q l1 x => jx_ev_st (jx_fok (by decide +kernel : decode (jx_mb 96) 129 = .ok (.aload_n 0, 1))) rfl rfl rfl
  · exact fun d lv st M Q => jx_k_gf (jx_fok (by decide +kernel : decode (jx_mb 96) 130 = .ok (.getfield 83, 3))) rfl rfl rfl
  · exact fun d st M Q l0 x => jx_ev_st (jx_fok (by decide +kernel : decode (jx_mb 96) 133 = .ok (.iload_n 1, 1))) rfl rfl rfl
  · exact fun d lv st M Q x z => jx_k_b2 (jx_fok (by decide +kernel : decode (jx_mb 96) 134 = .ok (.if_icmp .ge 23, 3))) rfl jx_hGe
  · exact fun d st M Q l1 x => jx_ev_st (jx_fok (by decide +kernel : decode (jx_mb 96) 137 = .ok (.aload_n 0, 1))) rfl rfl rfl
  · exact fun d st M Q l0 x => jx_ev_st (jx_fok (by decide +kernel : decode (jx_mb 96) 138 = .ok (.iload_n 1, 1))) rfl rfl rfl
  · exact fun d lv st M Q => jx_ev_st (jx_fok (by decide +kernel : decode (jx_mb 96) 139 = .ok (.bipush 59, 2))) rfl rfl rfl
  · exact fun d lv M Q a0 a1 => jx_ev_ci (jx_fok (by decide +kernel : decode (jx_mb 96) 141 = .ok (.invokevirtual 128, 3))) rfl (jx_ccV (As := [.int a1, .int a0]) (rest := []) rfl rfl rfl rfl rfl rfl) (by decide)
  · exact fun d lv st M Q x => jx_k_b1 (jx_fok (by decide +kernel : decode (jx_mb 96) 144 = .ok (.ifCond .eq 11, 3))) rfl jx_hEq
  · exact fun d st M Q l1 x => jx_ev_st (jx_fok (by decide +kernel : decode (jx_mb 96) 147 = .ok (.aload_n 0, 1))) rfl rfl rfl
  · exact fun d st M Q l0 x => jx_ev_st (jx_fok (by decide +kernel : decode (jx_mb 96) 148 = .ok (.iload_n 1, 1))) rfl rfl rfl
  · exact fun d lv M Q a0 => jx_ev_ci (jx_fok (by decide +kernel : decode (jx_mb 96) 149 = .ok (.invokevirtual 139, 3))) rfl (jx_ccV (As := [.int a0]) (rest := []) rfl rfl rfl rfl rfl rfl) (by decide)
  · exact fun d lv st M Q x => jx_k_b1n (jx_fok (by decide +kernel : decode (jx_mb 96) 152 = .ok (.ifCond .ne (-39), 3))) rfl jx_hNe
  · exact fun d lv st M Q => jx_ev_st (jx_fok (by decide +kernel : decode (jx_mb 96) 155 = .ok (.iconst 0, 1))) rfl rfl rfl
  · exact fun d lv M Q x => jx_k_rz (jx_fok (by decide +kernel : decode (jx_mb 96) 156 = .ok (.ireturn, 1))) rfl
  · exact fun d st M Q l1 x => jx_ev_st (jx_fok (by decide +kernel : decode (jx_mb 96) 157 = .ok (.aload_n 0, 1))) rfl rfl rfl
  · exact fun d lv st M Q => jx_k_gf (jx_fok (by decide +kernel : decode (jx_mb 96) 158 = .ok (.getfield 83, 3))) rfl rfl rfl
  · exact fun d st M Q l0 x => jx_ev_st (jx_fok (by decide +kernel : decode (jx_mb 96) 161 = .ok (.iload_n 1, 1))) rfl rfl rfl
  · exact fun d lv st M Q x z => jx_k_b2n (jx_fok (by decide +kernel : decode (jx_mb 96) 162 = .ok (.if_icmp .ne 7, 3))) rfl jx_hNe
  · exact fun d lv st M Q => jx_ev_st (jx_fok (by decide +kernel : decode (jx_mb 96) 165 = .ok (.iconst 1, 1))) rfl rfl rfl
  · exact fun d lv st M Q => jx_k_goto (jx_fok (by decide +kernel : decode (jx_mb 96) 166 = .ok (.goto 4, 3))) rfl
  · exact fun d lv st M Q => jx_ev_st (jx_fok (by decide +kernel : decode (jx_mb 96) 169 = .ok (.iconst 0, 1))) rfl rfl rfl
  · exact fun d lv M Q x => jx_k_rz (jx_fok (by decide +kernel : decode (jx_mb 96) 170 = .ok (.ireturn, 1))) rfl
theorem eX8_readOffice_85 (d : Nat) (st : List Value) (M : jx_M) (Q : jx_Po) (l1 : Option Value) (x : Nat) : jx_Ev d 96 85 [some (.ref x), l1] st M Q ↔ jx_Ev d 96 86 [some (.ref x), l1] (.ref x :: st) M Q := jx_ev_st (jx_fok (by decide +kernel : decode (jx_mb 96) 85 = .ok (.aload_n 0, 1))) rfl rfl rfl
theorem eX8_readOffice_113 (d : Nat) (st : List Value) (M : jx_M) (Q : jx_Po) (l1 : Option Value) (x : Nat) : jx_Ev d 96 113 [some (.ref x), l1] st M Q ↔ jx_Ev d 96 114 [some (.ref x), l1] (.ref x :: st) M Q := jx_ev_st (jx_fok (by decide +kernel : decode (jx_mb 96) 113 = .ok (.aload_n 0, 1))) rfl rfl rfl
theorem kX8_readOffice (d : Nat) (M : jx_M) (q : Int32 → jx_M → Prop) (a0 a1 : Value) : jx_I d 96 [a0, a1] M q ↔ jx_Ev d 96 0 [some a0, some a1] [] M (jx_qI q) := Iff.rfl
set_option maxRecDepth 100000 in
theorem eX8_readPerson :
  (∀ (d : Nat) (st : List Value) (M : jx_M) (Q : jx_Po) (l1 : Option Value) (x : Nat), jx_Ev d 97 0 [some (.ref x), l1] st M Q ↔ jx_Ev d 97 1 [some (.ref x), l1] (.ref x :: st) M Q) ∧
  (∀ (d : Nat) (lv : List (Option Value)) (st : List Value) (M : jx_M) (Q : jx_Po), jx_Ev d 97 1 lv (.ref 36 :: st) M Q ↔ jx_Ev d 97 4 lv (.ref 45 :: st) M Q) ∧
  (∀ (d : Nat) (st : List Value) (M : jx_M) (Q : jx_Po) (l1 : Option Value) (x : Nat), jx_Ev d 97 4 [some (.ref x), l1] st M Q ↔ jx_Ev d 97 5 [some (.ref x), l1] (.ref x :: st) M Q) ∧
  (∀ (d : Nat) (lv : List (Option Value)) (st : List Value) (M : jx_M) (Q : jx_Po), jx_Ev d 97 5 lv (.ref 36 :: st) M Q ↔ jx_Ev d 97 8 lv (.int (M 36 17) :: st) M Q) ∧
  (∀ (d : Nat) (st : List Value) (M : jx_M) (Q : jx_Po) (l1 : Option Value) (x : Nat), jx_Ev d 97 8 [some (.ref x), l1] st M Q ↔ jx_Ev d 97 9 [some (.ref x), l1] (.ref x :: st) M Q) ∧
  (∀ (d : Nat) (st : List Value) (M : jx_M) (Q : jx_Po) (l0 : Option Value) (x : Int32), jx_Ev d 97 9 [l0, some (.int x)] st M Q ↔ jx_Ev d 97 10 [l0, some (.int x)] (.int x :: st) M Q) ∧
  (∀ (d : Nat) (lv : List (Option Value)) (st : List Value) (M : jx_M) (Q : jx_Po), jx_Ev d 97 10 lv st M Q ↔ jx_Ev d 97 11 lv (.int 0 :: st) M Q) ∧
  (∀ (d : Nat) (lv : List (Option Value)) (st : List Value) (M : jx_M) (Q : jx_Po), jx_Ev d 97 11 lv st M Q ↔ jx_Ev d 97 13 lv (.int 9 :: st) M Q) ∧
  (∀ (d : Nat) (lv : List (Option Value)) (M : jx_M) (Q : jx_Po) (a0 : Int32) (a1 : Int32) (a2 : Int32) (a4 : Int32) (a5 : Nat), jx_Ev (d + 1) 97 13 lv [.int a0, .int a1, .int a2, .ref 36, .int a4, .ref a5] M Q ↔ jx_I d 92 [.ref 36, .int a2, .int a1, .int a0] M (fun x M => jx_Ev (d + 1) 97 16 lv (.int x :: [.int a4, .ref a5]) M Q)) ∧
  (∀ (d : Nat) (lv : List (Option Value)) (st : List Value) (M : jx_M) (Q : jx_Po) (x z : Int32) (a : Nat) (ha : jx_cl a = 9), jx_Ev d 97 16 lv (.int z :: .int x :: .ref a :: st) M Q ↔ (vp_in x (jx_sz a) ∧ jx_Ev d 97 17 lv st (jx_up M a x.toNatClampNeg z) Q)) ∧
  (∀ (d : Nat) (st : List Value) (M : jx_M) (Q : jx_Po) (l1 : Option Value) (x : Nat), jx_Ev d 97 17 [some (.ref x), l1] st M Q ↔ jx_Ev d 97 18 [some (.ref x), l1] (.ref x :: st) M Q) ∧
  (∀ (d : Nat) (lv : List (Option Value)) (st : List Value) (M : jx_M) (Q : jx_Po), jx_Ev d 97 18 lv (.ref 36 :: st) M Q ↔ jx_Ev d 97 21 lv (.ref 45 :: st) M Q) ∧
  (∀ (d : Nat) (st : List Value) (M : jx_M) (Q : jx_Po) (l1 : Option Value) (x : Nat), jx_Ev d 97 21 [some (.ref x), l1] st M Q ↔ jx_Ev d 97 22 [some (.ref x), l1] (.ref x :: st) M Q) ∧
  (∀ (d : Nat) (lv : List (Option Value)) (st : List Value) (M : jx_M) (Q : jx_Po), jx_Ev d 97 22 lv (.ref 36 :: st) M Q ↔ jx_Ev d 97 25 lv (.int (M 36 17) :: st) M Q) ∧
  (∀ (d : Nat) (lv : List (Option Value)) (st : List Value) (M : jx_M) (Q : jx_Po) (x : Int32) (a : Nat) (ha : jx_cl a = 9), jx_Ev d 97 25 lv (.int x :: .ref a :: st) M Q ↔ (vp_in x (jx_sz a) ∧ jx_Ev d 97 26 lv (.int (M a x.toNatClampNeg) :: st) M Q)) ∧
  (∀ (d : Nat) (lv : List (Option Value)) (st : List Value) (M : jx_M) (Q : jx_Po), jx_Ev d 97 26 lv st M Q ↔ jx_Ev d 97 28 lv (.int (-9) :: st) M Q) ∧
  (∀ (d : Nat) (lv : List (Option Value)) (st : List Value) (M : jx_M) (Q : jx_Po) (x z : Int32), jx_Ev d 97 28 lv (.int z :: .int x :: st) M Q ↔ (if x = z then jx_Ev d 97 31 lv st M Q else jx_Ev d 97 33 lv st M Q)) ∧
  (∀ (d : Nat) (lv : List (Option Value)) (st : List Value) (M : jx_M) (Q : jx_Po), jx_Ev d 97 31 lv st M Q ↔ jx_Ev d 97 32 lv (.int 0 :: st) M Q) ∧
  (∀ (d : Nat) (lv : List (Option Value)) (M : jx_M) (Q : jx_Po) (x : Int32), jx_Ev d 97 32 lv [.int x] M Q ↔ ((x = 0 ∨ x = 1) ∧ Q [.int x] M)) ∧
  (∀ (d : Nat) (st : List Value) (M : jx_M) (Q : jx_Po) (l1 : Option Value) (x : Nat), jx_Ev d 97 33 [some (.ref x), l1] st M Q ↔ jx_Ev d 97 34 [some (.ref x), l1] (.ref x :: st) M Q) ∧
  (∀ (d : Nat) (lv : List (Option Value)) (st : List Value) (M : jx_M) (Q : jx_Po), jx_Ev d 97 34 lv (.ref 36 :: st) M Q ↔ jx_Ev d 97 37 lv (.ref 46 :: st) M Q) ∧
  (∀ (d : Nat) (st : List Value) (M : jx_M) (Q : jx_Po) (l1 : Option Value) (x : Nat), jx_Ev d 97 37 [some (.ref x), l1] st M Q ↔ jx_Ev d 97 38 [some (.ref x), l1] (.ref x :: st) M Q) ∧
  (∀ (d : Nat) (lv : List (Option Value)) (st : List Value) (M : jx_M) (Q : jx_Po), jx_Ev d 97 38 lv (.ref 36 :: st) M Q ↔ jx_Ev d 97 41 lv (.int (M 36 17) :: st) M Q) ∧
  (∀ (d : Nat) (st : List Value) (M : jx_M) (Q : jx_Po) (l1 : Option Value) (x : Nat), jx_Ev d 97 41 [some (.ref x), l1] st M Q ↔ jx_Ev d 97 42 [some (.ref x), l1] (.ref x :: st) M Q) ∧
  (∀ (d : Nat) (st : List Value) (M : jx_M) (Q : jx_Po) (l0 : Option Value) (x : Int32), jx_Ev d 97 42 [l0, some (.int x)] st M Q ↔ jx_Ev d 97 43 [l0, some (.int x)] (.int x :: st) M Q) ∧
  (∀ (d : Nat) (lv : List (Option Value)) (st : List Value) (M : jx_M) (Q : jx_Po), jx_Ev d 97 43 lv st M Q ↔ jx_Ev d 97 44 lv (.int 0 :: st) M Q) ∧
  (∀ (d : Nat) (lv : List (Option Value)) (st : List Value) (M : jx_M) (Q : jx_Po), jx_Ev d 97 44 lv st M Q ↔ jx_Ev d 97 45 lv (.int 5 :: st) M Q) ∧
  (∀ (d : Nat) (lv : List (Option Value)) (M : jx_M) (Q : jx_Po) (a0 : Int32) (a1 : Int32) (a2 : Int32) (a4 : Int32) (a5 : Nat), jx_Ev (d + 1) 97 45 lv [.int a0, .int a1, .int a2, .ref 36, .int a4, .ref a5] M Q ↔ jx_I d 92 [.ref 36, .int a2, .int a1, .int a0] M (fun x M => jx_Ev (d + 1) 97 48 lv (.int x :: [.int a4, .ref a5]) M Q)) ∧
  (∀ (d : Nat) (lv : List (Option Value)) (st : List Value) (M : jx_M) (Q : jx_Po) (x z : Int32) (a : Nat) (ha : jx_cl a = 9), jx_Ev d 97 48 lv (.int z :: .int x :: .ref a :: st) M Q ↔ (vp_in x (jx_sz a) ∧ jx_Ev d 97 49 lv st (jx_up M a x.toNatClampNeg z) Q)) ∧
  (∀ (d : Nat) (st : List Value) (M : jx_M) (Q : jx_Po) (l1 : Option Value) (x : Nat), jx_Ev d 97 49 [some (.ref x), l1] st M Q ↔ jx_Ev d 97 50 [some (.ref x), l1] (.ref x :: st) M Q) ∧
  (∀ (d : Nat) (lv : List (Option Value)) (st : List Value) (M : jx_M) (Q : jx_Po) (x : Nat), jx_Ev d 97 50 lv (.ref x :: st) M Q ↔ jx_Ev d 97 51 lv (.ref x :: .ref x :: st) M Q) ∧
  (∀ (d : Nat) (lv : List (Option Value)) (st : List Value) (M : jx_M) (Q : jx_Po), jx_Ev d 97 51 lv (.ref 36 :: st) M Q ↔ jx_Ev d 97 54 lv (.int (M 36 17) :: st) M Q) ∧
  (∀ (d : Nat) (lv : List (Option Value)) (st : List Value) (M : jx_M) (Q : jx_Po), jx_Ev d 97 54 lv st M Q ↔ jx_Ev d 97 55 lv (.int 1 :: st) M Q) ∧
  (∀ (d : Nat) (lv : List (Option Value)) (st : List Value) (M : jx_M) (Q : jx_Po) (x z : Int32), jx_Ev d 97 55 lv (.int z :: .int x :: st) M Q ↔ jx_Ev d 97 56 lv (.int (x + z) :: st) M Q) ∧
  (∀ (d : Nat) (lv : List (Option Value)) (st : List Value) (M : jx_M) (Q : jx_Po) (x : Int32), jx_Ev d 97 56 lv (.int x :: .ref 36 :: st) M Q ↔ jx_Ev d 97 59 lv st (jx_up M 36 17 x) Q) ∧
  (∀ (d : Nat) (st : List Value) (M : jx_M) (Q : jx_Po) (l1 : Option Value) (x : Nat), jx_Ev d 97 59 [some (.ref x), l1] st M Q ↔ jx_Ev d 97 60 [some (.ref x), l1] (.ref x :: st) M Q) ∧
  (∀ (d : Nat) (lv : List (Option Value)) (st : List Value) (M : jx_M) (Q : jx_Po), jx_Ev d 97 60 lv (.ref 36 :: st) M Q ↔ jx_Ev d 97 63 lv (.ref 46 :: st) M Q) ∧
  (∀ (d : Nat) (st : List Value) (M : jx_M) (Q : jx_Po) (l1 : Option Value) (x : Nat), jx_Ev d 97 63 [some (.ref x), l1] st M Q ↔ jx_Ev d 97 64 [some (.ref x), l1] (.ref x :: st) M Q) ∧
  (∀ (d : Nat) (lv : List (Option Value)) (st : List Value) (M : jx_M) (Q : jx_Po), jx_Ev d 97 64 lv (.ref 36 :: st) M Q ↔ jx_Ev d 97 67 lv (.int (M 36 17) :: st) M Q) ∧
  (∀ (d : Nat) (lv : List (Option Value)) (st : List Value) (M : jx_M) (Q : jx_Po), jx_Ev d 97 67 lv st M Q ↔ jx_Ev d 97 68 lv (.int 1 :: st) M Q) ∧
  (∀ (d : Nat) (lv : List (Option Value)) (st : List Value) (M : jx_M) (Q : jx_Po) (x z : Int32), jx_Ev d 97 68 lv (.int z :: .int x :: st) M Q ↔ jx_Ev d 97 69 lv (.int (x - z) :: st) M Q) ∧
  (∀ (d : Nat) (lv : List (Option Value)) (st : List Value) (M : jx_M) (Q : jx_Po) (x : Int32) (a : Nat) (ha : jx_cl a = 9), jx_Ev d 97 69 lv (.int x :: .ref a :: st) M Q ↔ (vp_in x (jx_sz a) ∧ jx_Ev d 97 70 lv (.int (M a x.toNatClampNeg) :: st) M Q)) ∧
  (∀ (d : Nat) (lv : List (Option Value)) (st : List Value) (M : jx_M) (Q : jx_Po), jx_Ev d 97 70 lv st M Q ↔ jx_Ev d 97 72 lv (.int (-9) :: st) M Q) ∧
  (∀ (d : Nat) (lv : List (Option Value)) (st : List Value) (M : jx_M) (Q : jx_Po) (x z : Int32), jx_Ev d 97 72 lv (.int z :: .int x :: st) M Q ↔ (if x = z then jx_Ev d 97 79 lv st M Q else jx_Ev d 97 75 lv st M Q)) ∧
  (∀ (d : Nat) (lv : List (Option Value)) (st : List Value) (M : jx_M) (Q : jx_Po), jx_Ev d 97 75 lv st M Q ↔ jx_Ev d 97 76 lv (.int 1 :: st) M Q) ∧
  (∀ (d : Nat) (lv : List (Option Value)) (st : List Value) (M : jx_M) (Q : jx_Po), jx_Ev d 97 76 lv st M Q ↔ jx_Ev d 97 80 lv st M Q) ∧
  (∀ (d : Nat) (lv : List (Option Value)) (st : List Value) (M : jx_M) (Q : jx_Po), jx_Ev d 97 79 lv st M Q ↔ jx_Ev d 97 80 lv (.int 0 :: st) M Q) ∧
  (∀ (d : Nat) (lv : List (Option Value)) (M : jx_M) (Q : jx_Po) (x : Int32), jx_Ev d 97 80 lv [.int x] M Q ↔ ((x = 0 ∨ x = 1) ∧ Q [.int x] M)) := by
  refine ⟨?_, ?_, ?_, ?_, ?_, ?_, ?_, ?_, ?_, ?_, ?_, ?_, ?_, ?_, ?_, ?_, ?_, ?_, ?_, ?_, ?_, ?_, ?_, ?_, ?_, ?_, ?_, ?_, ?_, ?_, ?_, ?_, ?_, ?_, ?_, ?_, ?_, ?_, ?_, ?_, ?_, ?_, ?_, ?_, ?_, ?_, ?_, ?_⟩
  · exact fun d st M Q l1 x => jx_ev_st (jx_fok (by decide +kernel : decode (jx_mb 97) 0 = .ok (.aload_n 0, 1))) rfl rfl rfl
  · exact fun d lv st M Q => jx_k_gf (jx_fok (by decide +kernel : decode (jx_mb 97) 1 = .ok (.getfield 34, 3))) rfl rfl rfl
  · exact fun d st M Q l1 x => jx_ev_st (jx_fok (by decide +kernel : decode (jx_mb 97) 4 = .ok (.aload_n 0, 1))) rfl rfl rfl
  · exact fun d lv st M Q => jx_k_gf (jx_fok (by decide +kernel : decode (jx_mb 97) 5 = .ok (.getfield 119, 3))) rfl rfl rfl
  · exact fun d st M Q l1 x => jx_ev_st (jx_fok (by decide +kernel : decode (jx_mb 97) 8 = .ok (.aload_n 0, 1))) rfl rfl rfl
  · exact fun d st M Q l0 x => jx_ev_st (jx_fok (by decide +kernel : decode (jx_mb 97) 9 = .ok (.iload_n 1, 1))) rfl rfl rfl
  · exact fun d lv st M Q => jx_ev_st (jx_fok (by decide +kernel : decode (jx_mb 97) 10 = .ok (.iconst 0, 1))) rfl rfl rfl
  · exact fun d lv st M Q => jx_ev_st (jx_fok (by decide +kernel : decode (jx_mb 97) 11 = .ok (.bipush 9, 2))) rfl rfl rfl
  · exact fun d lv M Q a0 a1 a2 a4 a5 => jx_ev_ci (jx_fok (by decide +kernel : decode (jx_mb 97) 13 = .ok (.invokevirtual 132, 3))) rfl (jx_ccV (As := [.int a2, .int a1, .int a0]) (rest := [.int a4, .ref a5]) rfl rfl rfl rfl rfl rfl) (by decide)
  · exact fun d lv st M Q x z a ha => jx_k_as (jx_fok (by decide +kernel : decode (jx_mb 97) 16 = .ok (.iastore, 1))) ha
  · exact fun d st M Q l1 x => jx_ev_st (jx_fok (by decide +kernel : decode (jx_mb 97) 17 = .ok (.aload_n 0, 1))) rfl rfl rfl
  · exact fun d lv st M Q => jx_k_gf (jx_fok (by decide +kernel : decode (jx_mb 97) 18 = .ok (.getfield 34, 3))) rfl rfl rfl
  · exact fun d st M Q l1 x => jx_ev_st (jx_fok (by decide +kernel : decode (jx_mb 97) 21 = .ok (.aload_n 0, 1))) rfl rfl rfl
  · exact fun d lv st M Q => jx_k_gf (jx_fok (by decide +kernel : decode (jx_mb 97) 22 = .ok (.getfield 119, 3))) rfl rfl rfl
  · exact fun d lv st M Q x a ha => jx_k_al (jx_fok (by decide +kernel : decode (jx_mb 97) 25 = .ok (.iaload, 1))) ha
  · exact fun d lv st M Q => jx_ev_st (jx_fok (by decide +kernel : decode (jx_mb 97) 26 = .ok (.bipush (-9), 2))) rfl rfl rfl
  · exact fun d lv st M Q x z => jx_k_b2n (jx_fok (by decide +kernel : decode (jx_mb 97) 28 = .ok (.if_icmp .ne 5, 3))) rfl jx_hNe
  · exact fun d lv st M Q => jx_ev_st (jx_fok (by decide +kernel : decode (jx_mb 97) 31 = .ok (.iconst 0, 1))) rfl rfl rfl
  · exact fun d lv M Q x => jx_k_rz (jx_fok (by decide +kernel : decode (jx_mb 97) 32 = .ok (.ireturn, 1))) rfl
  · exact fun d st M Q l1 x => jx_ev_st (jx_fok (by decide +kernel : decode (jx_mb 97) 33 = .ok (.aload_n 0, 1))) rfl rfl rfl
  · exact fun d lv st M Q => jx_k_gf (jx_fok (by decide +kernel : decode (jx_mb 97) 34 = .ok (.getfield 37, 3))) rfl rfl rfl
  · exact fun d st M Q l1 x => jx_ev_st (jx_fok (by decide +kernel : decode (jx_mb 97) 37 = .ok (.aload_n 0, 1))) rfl rfl rfl
  · exact fun d lv st M Q => jx_k_gf (jx_fok (by decide +kernel : decode (jx_mb 97) 38 = .ok (.getfield 119, 3))) rfl rfl rfl
  · exact fun d st M Q l1 x => jx_ev_st (jx_fok (by decide +kernel : decode (jx_mb 97) 41 = .ok (.aload_n 0, 1))) rfl rfl rfl
  · exact fun d st M Q l0 x => jx_ev_st (jx_fok (by decide +kernel : decode (jx_mb 97) 42 = .ok (.iload_n 1, 1))) rfl rfl rfl
  · exact fun d lv st M Q => jx_ev_st (jx_fok (by decide +kernel : decode (jx_mb 97) 43 = .ok (.iconst 0, 1))) rfl rfl rfl
  · exact fun d lv st M Q => jx_ev_st (jx_fok (by decide +kernel : decode (jx_mb 97) 44 = .ok (.iconst 5, 1))) rfl rfl rfl
  · exact fun d lv M Q a0 a1 a2 a4 a5 => jx_ev_ci (jx_fok (by decide +kernel : decode (jx_mb 97) 45 = .ok (.invokevirtual 132, 3))) rfl (jx_ccV (As := [.int a2, .int a1, .int a0]) (rest := [.int a4, .ref a5]) rfl rfl rfl rfl rfl rfl) (by decide)
  · exact fun d lv st M Q x z a ha => jx_k_as (jx_fok (by decide +kernel : decode (jx_mb 97) 48 = .ok (.iastore, 1))) ha
  · exact fun d st M Q l1 x => jx_ev_st (jx_fok (by decide +kernel : decode (jx_mb 97) 49 = .ok (.aload_n 0, 1))) rfl rfl rfl
  · exact fun d lv st M Q x => jx_ev_st (jx_fok (by decide +kernel : decode (jx_mb 97) 50 = .ok (.dup, 1))) rfl rfl rfl
  · exact fun d lv st M Q => jx_k_gf (jx_fok (by decide +kernel : decode (jx_mb 97) 51 = .ok (.getfield 119, 3))) rfl rfl rfl
  · exact fun d lv st M Q => jx_ev_st (jx_fok (by decide +kernel : decode (jx_mb 97) 54 = .ok (.iconst 1, 1))) rfl rfl rfl
  · exact fun d lv st M Q x z => jx_ev_st (jx_fok (by decide +kernel : decode (jx_mb 97) 55 = .ok (.iadd, 1))) rfl rfl rfl
  · exact fun d lv st M Q x => jx_k_pf0 (jx_fok (by decide +kernel : decode (jx_mb 97) 56 = .ok (.putfield 119, 3))) rfl rfl rfl
  · exact fun d st M Q l1 x => jx_ev_st (jx_fok (by decide +kernel : decode (jx_mb 97) 59 = .ok (.aload_n 0, 1))) rfl rfl rfl
  · exact fun d lv st M Q => jx_k_gf (jx_fok (by decide +kernel : decode (jx_mb 97) 60 = .ok (.getfield 37, 3))) rfl rfl rfl
  · exact fun d st M Q l1 x => jx_ev_st (jx_fok (by decide +kernel : decode (jx_mb 97) 63 = .ok (.aload_n 0, 1))) rfl rfl rfl
  · exact fun d lv st M Q => jx_k_gf (jx_fok (by decide +kernel : decode (jx_mb 97) 64 = .ok (.getfield 119, 3))) rfl rfl rfl
  · exact fun d lv st M Q => jx_ev_st (jx_fok (by decide +kernel : decode (jx_mb 97) 67 = .ok (.iconst 1, 1))) rfl rfl rfl
  · exact fun d lv st M Q x z => jx_ev_st (jx_fok (by decide +kernel : decode (jx_mb 97) 68 = .ok (.isub, 1))) rfl rfl rfl
  · exact fun d lv st M Q x a ha => jx_k_al (jx_fok (by decide +kernel : decode (jx_mb 97) 69 = .ok (.iaload, 1))) ha
  · exact fun d lv st M Q => jx_ev_st (jx_fok (by decide +kernel : decode (jx_mb 97) 70 = .ok (.bipush (-9), 2))) rfl rfl rfl
  · exact fun d lv st M Q x z => jx_k_b2 (jx_fok (by decide +kernel : decode (jx_mb 97) 72 = .ok (.if_icmp .eq 7, 3))) rfl jx_hEq
  · exact fun d lv st M Q => jx_ev_st (jx_fok (by decide +kernel : decode (jx_mb 97) 75 = .ok (.iconst 1, 1))) rfl rfl rfl
  · exact fun d lv st M Q => jx_k_goto (jx_fok (by decide +kernel : decode (jx_mb 97) 76 = .ok (.goto 4, 3))) rfl
  · exact fun d lv st M Q => jx_ev_st (jx_fok (by decide +kernel : decode (jx_mb 97) 79 = .ok (.iconst 0, 1))) rfl rfl rfl
  · exact fun d lv M Q x => jx_k_rz (jx_fok (by decide +kernel : decode (jx_mb 97) 80 = .ok (.ireturn, 1))) rfl
theorem kX8_readPerson (d : Nat) (M : jx_M) (q : Int32 → jx_M → Prop) (a0 a1 : Value) : jx_I d 97 [a0, a1] M q ↔ jx_Ev d 97 0 [some a0, some a1] [] M (jx_qI q) := Iff.rfl
set_option maxRecDepth 100000 in
theorem eX8_readClap :
  (∀ (d : Nat) (st : List Value) (M : jx_M) (Q : jx_Po) (l1 l2 : Option Value) (x : Nat), jx_Ev d 98 0 [some (.ref x), l1, l2] st M Q ↔ jx_Ev d 98 1 [some (.ref x), l1, l2] (.ref x :: st) M Q) ∧
  (∀ (d : Nat) (lv : List (Option Value)) (st : List Value) (M : jx_M) (Q : jx_Po), jx_Ev d 98 1 lv (.ref 36 :: st) M Q ↔ jx_Ev d 98 4 lv (.int (M 36 14) :: st) M Q) ∧
  (∀ (d : Nat) (st : List Value) (M : jx_M) (Q : jx_Po) (l0 l2 : Option Value) (x : Int32), jx_Ev d 98 4 [l0, some (.int x), l2] st M Q ↔ jx_Ev d 98 5 [l0, some (.int x), l2] (.int x :: st) M Q) ∧
  (∀ (d : Nat) (lv : List (Option Value)) (st : List Value) (M : jx_M) (Q : jx_Po) (x z : Int32), jx_Ev d 98 5 lv (.int z :: .int x :: st) M Q ↔ (if z ≤ x then jx_Ev d 98 20 lv st M Q else jx_Ev d 98 8 lv st M Q)) ∧
  (∀ (d : Nat) (st : List Value) (M : jx_M) (Q : jx_Po) (l1 l2 : Option Value) (x : Nat), jx_Ev d 98 8 [some (.ref x), l1, l2] st M Q ↔ jx_Ev d 98 9 [some (.ref x), l1, l2] (.ref x :: st) M Q) ∧
  (∀ (d : Nat) (lv : List (Option Value)) (st : List Value) (M : jx_M) (Q : jx_Po), jx_Ev d 98 9 lv (.ref 36 :: st) M Q ↔ jx_Ev d 98 12 lv (.ref 39 :: st) M Q) ∧
  (∀ (d : Nat) (st : List Value) (M : jx_M) (Q : jx_Po) (l1 l2 : Option Value) (x : Nat), jx_Ev d 98 12 [some (.ref x), l1, l2] st M Q ↔ jx_Ev d 98 13 [some (.ref x), l1, l2] (.ref x :: st) M Q) ∧
  (∀ (d : Nat) (lv : List (Option Value)) (st : List Value) (M : jx_M) (Q : jx_Po), jx_Ev d 98 13 lv (.ref 36 :: st) M Q ↔ jx_Ev d 98 16 lv (.int (M 36 14) :: st) M Q) ∧
  (∀ (d : Nat) (lv : List (Option Value)) (st : List Value) (M : jx_M) (Q : jx_Po) (x : Int32) (a : Nat) (ha : jx_cl a = 9), jx_Ev d 98 16 lv (.int x :: .ref a :: st) M Q ↔ (vp_in x (jx_sz a) ∧ jx_Ev d 98 17 lv (.int (M a x.toNatClampNeg) :: st) M Q)) ∧
  (∀ (d : Nat) (lv : List (Option Value)) (st : List Value) (M : jx_M) (Q : jx_Po), jx_Ev d 98 17 lv st M Q ↔ jx_Ev d 98 21 lv st M Q) ∧
  (∀ (d : Nat) (lv : List (Option Value)) (st : List Value) (M : jx_M) (Q : jx_Po), jx_Ev d 98 20 lv st M Q ↔ jx_Ev d 98 21 lv (.int 0 :: st) M Q) ∧
  (∀ (d : Nat) (st : List Value) (M : jx_M) (Q : jx_Po) (l0 l1 l2 : Option Value) (x : Int32), jx_Ev d 98 21 [l0, l1, l2] (.int x :: st) M Q ↔ jx_Ev d 98 22 [l0, l1, some (.int x)] st M Q) ∧
  (∀ (d : Nat) (st : List Value) (M : jx_M) (Q : jx_Po) (l1 l2 : Option Value) (x : Nat), jx_Ev d 98 22 [some (.ref x), l1, l2] st M Q ↔ jx_Ev d 98 23 [some (.ref x), l1, l2] (.ref x :: st) M Q) ∧
  (∀ (d : Nat) (lv : List (Option Value)) (st : List Value) (M : jx_M) (Q : jx_Po), jx_Ev d 98 23 lv (.ref 36 :: st) M Q ↔ jx_Ev d 98 26 lv (.ref 47 :: st) M Q) ∧
  (∀ (d : Nat) (st : List Value) (M : jx_M) (Q : jx_Po) (l1 l2 : Option Value) (x : Nat), jx_Ev d 98 26 [some (.ref x), l1, l2] st M Q ↔ jx_Ev d 98 27 [some (.ref x), l1, l2] (.ref x :: st) M Q) ∧
  (∀ (d : Nat) (lv : List (Option Value)) (st : List Value) (M : jx_M) (Q : jx_Po), jx_Ev d 98 27 lv (.ref 36 :: st) M Q ↔ jx_Ev d 98 30 lv (.int (M 36 18) :: st) M Q) ∧
  (∀ (d : Nat) (st : List Value) (M : jx_M) (Q : jx_Po) (l0 l1 : Option Value) (x : Int32), jx_Ev d 98 30 [l0, l1, some (.int x)] st M Q ↔ jx_Ev d 98 31 [l0, l1, some (.int x)] (.int x :: st) M Q) ∧
  (∀ (d : Nat) (lv : List (Option Value)) (st : List Value) (M : jx_M) (Q : jx_Po), jx_Ev d 98 31 lv st M Q ↔ jx_Ev d 98 33 lv (.int 99 :: st) M Q) ∧
  (∀ (d : Nat) (lv : List (Option Value)) (st : List Value) (M : jx_M) (Q : jx_Po) (x z : Int32), jx_Ev d 98 33 lv (.int z :: .int x :: st) M Q ↔ (if x = z then jx_Ev d 98 36 lv st M Q else jx_Ev d 98 40 lv st M Q)) ∧
  (∀ (d : Nat) (lv : List (Option Value)) (st : List Value) (M : jx_M) (Q : jx_Po), jx_Ev d 98 36 lv st M Q ↔ jx_Ev d 98 37 lv (.int 0 :: st) M Q) ∧
  (∀ (d : Nat) (lv : List (Option Value)) (st : List Value) (M : jx_M) (Q : jx_Po), jx_Ev d 98 37 lv st M Q ↔ jx_Ev d 98 62 lv st M Q) ∧
  (∀ (d : Nat) (st : List Value) (M : jx_M) (Q : jx_Po) (l0 l1 : Option Value) (x : Int32), jx_Ev d 98 40 [l0, l1, some (.int x)] st M Q ↔ jx_Ev d 98 41 [l0, l1, some (.int x)] (.int x :: st) M Q) ∧
  (∀ (d : Nat) (lv : List (Option Value)) (st : List Value) (M : jx_M) (Q : jx_Po), jx_Ev d 98 41 lv st M Q ↔ jx_Ev d 98 43 lv (.int 100 :: st) M Q) ∧
  (∀ (d : Nat) (lv : List (Option Value)) (st : List Value) (M : jx_M) (Q : jx_Po) (x z : Int32), jx_Ev d 98 43 lv (.int z :: .int x :: st) M Q ↔ (if x = z then jx_Ev d 98 46 lv st M Q else jx_Ev d 98 50 lv st M Q)) ∧
  (∀ (d : Nat) (lv : List (Option Value)) (st : List Value) (M : jx_M) (Q : jx_Po), jx_Ev d 98 46 lv st M Q ↔ jx_Ev d 98 47 lv (.int 1 :: st) M Q) ∧
  (∀ (d : Nat) (lv : List (Option Value)) (st : List Value) (M : jx_M) (Q : jx_Po), jx_Ev d 98 47 lv st M Q ↔ jx_Ev d 98 62 lv st M Q) ∧
  (∀ (d : Nat) (st : List Value) (M : jx_M) (Q : jx_Po) (l0 l1 : Option Value) (x : Int32), jx_Ev d 98 50 [l0, l1, some (.int x)] st M Q ↔ jx_Ev d 98 51 [l0, l1, some (.int x)] (.int x :: st) M Q) ∧
  (∀ (d : Nat) (lv : List (Option Value)) (st : List Value) (M : jx_M) (Q : jx_Po), jx_Ev d 98 51 lv st M Q ↔ jx_Ev d 98 53 lv (.int 98 :: st) M Q) ∧
  (∀ (d : Nat) (lv : List (Option Value)) (st : List Value) (M : jx_M) (Q : jx_Po) (x z : Int32), jx_Ev d 98 53 lv (.int z :: .int x :: st) M Q ↔ (if x = z then jx_Ev d 98 56 lv st M Q else jx_Ev d 98 60 lv st M Q)) ∧
  (∀ (d : Nat) (lv : List (Option Value)) (st : List Value) (M : jx_M) (Q : jx_Po), jx_Ev d 98 56 lv st M Q ↔ jx_Ev d 98 57 lv (.int 2 :: st) M Q) ∧
  (∀ (d : Nat) (lv : List (Option Value)) (st : List Value) (M : jx_M) (Q : jx_Po), jx_Ev d 98 57 lv st M Q ↔ jx_Ev d 98 62 lv st M Q) ∧
  (∀ (d : Nat) (lv : List (Option Value)) (st : List Value) (M : jx_M) (Q : jx_Po), jx_Ev d 98 60 lv st M Q ↔ jx_Ev d 98 62 lv (.int (-9) :: st) M Q) ∧
  (∀ (d : Nat) (lv : List (Option Value)) (st : List Value) (M : jx_M) (Q : jx_Po) (x z : Int32) (a : Nat) (ha : jx_cl a = 9), jx_Ev d 98 62 lv (.int z :: .int x :: .ref a :: st) M Q ↔ (vp_in x (jx_sz a) ∧ jx_Ev d 98 63 lv st (jx_up M a x.toNatClampNeg z) Q)) ∧
  (∀ (d : Nat) (st : List Value) (M : jx_M) (Q : jx_Po) (l1 l2 : Option Value) (x : Nat), jx_Ev d 98 63 [some (.ref x), l1, l2] st M Q ↔ jx_Ev d 98 64 [some (.ref x), l1, l2] (.ref x :: st) M Q) ∧
  (∀ (d : Nat) (lv : List (Option Value)) (st : List Value) (M : jx_M) (Q : jx_Po), jx_Ev d 98 64 lv (.ref 36 :: st) M Q ↔ jx_Ev d 98 67 lv (.ref 47 :: st) M Q) ∧
  (∀ (d : Nat) (st : List Value) (M : jx_M) (Q : jx_Po) (l1 l2 : Option Value) (x : Nat), jx_Ev d 98 67 [some (.ref x), l1, l2] st M Q ↔ jx_Ev d 98 68 [some (.ref x), l1, l2] (.ref x :: st) M Q) ∧
  (∀ (d : Nat) (lv : List (Option Value)) (st : List Value) (M : jx_M) (Q : jx_Po), jx_Ev d 98 68 lv (.ref 36 :: st) M Q ↔ jx_Ev d 98 71 lv (.int (M 36 18) :: st) M Q) ∧
  (∀ (d : Nat) (lv : List (Option Value)) (st : List Value) (M : jx_M) (Q : jx_Po) (x : Int32) (a : Nat) (ha : jx_cl a = 9), jx_Ev d 98 71 lv (.int x :: .ref a :: st) M Q ↔ (vp_in x (jx_sz a) ∧ jx_Ev d 98 72 lv (.int (M a x.toNatClampNeg) :: st) M Q)) ∧
  (∀ (d : Nat) (lv : List (Option Value)) (st : List Value) (M : jx_M) (Q : jx_Po), jx_Ev d 98 72 lv st M Q ↔ jx_Ev d 98 74 lv (.int (-9) :: st) M Q) ∧
  (∀ (d : Nat) (lv : List (Option Value)) (st : List Value) (M : jx_M) (Q : jx_Po) (x z : Int32), jx_Ev d 98 74 lv (.int z :: .int x :: st) M Q ↔ (if x = z then jx_Ev d 98 77 lv st M Q else jx_Ev d 98 79 lv st M Q)) ∧
  (∀ (d : Nat) (lv : List (Option Value)) (st : List Value) (M : jx_M) (Q : jx_Po), jx_Ev d 98 77 lv st M Q ↔ jx_Ev d 98 78 lv (.int 0 :: st) M Q) ∧
  (∀ (d : Nat) (lv : List (Option Value)) (M : jx_M) (Q : jx_Po) (x : Int32), jx_Ev d 98 78 lv [.int x] M Q ↔ ((x = 0 ∨ x = 1) ∧ Q [.int x] M)) ∧
  (∀ (d : Nat) (st : List Value) (M : jx_M) (Q : jx_Po) (l1 l2 : Option Value) (x : Nat), jx_Ev d 98 79 [some (.ref x), l1, l2] st M Q ↔ jx_Ev d 98 80 [some (.ref x), l1, l2] (.ref x :: st) M Q) ∧
  (∀ (d : Nat) (lv : List (Option Value)) (st : List Value) (M : jx_M) (Q : jx_Po) (x : Nat), jx_Ev d 98 80 lv (.ref x :: st) M Q ↔ jx_Ev d 98 81 lv (.ref x :: .ref x :: st) M Q) ∧
  (∀ (d : Nat) (lv : List (Option Value)) (st : List Value) (M : jx_M) (Q : jx_Po), jx_Ev d 98 81 lv (.ref 36 :: st) M Q ↔ jx_Ev d 98 84 lv (.int (M 36 14) :: st) M Q) ∧
  (∀ (d : Nat) (lv : List (Option Value)) (st : List Value) (M : jx_M) (Q : jx_Po), jx_Ev d 98 84 lv st M Q ↔ jx_Ev d 98 85 lv (.int 1 :: st) M Q) ∧
  (∀ (d : Nat) (lv : List (Option Value)) (st : List Value) (M : jx_M) (Q : jx_Po) (x z : Int32), jx_Ev d 98 85 lv (.int z :: .int x :: st) M Q ↔ jx_Ev d 98 86 lv (.int (x + z) :: st) M Q) ∧
  (∀ (d : Nat) (lv : List (Option Value)) (st : List Value) (M : jx_M) (Q : jx_Po) (x : Int32), jx_Ev d 98 86 lv (.int x :: .ref 36 :: st) M Q ↔ jx_Ev d 98 89 lv st (jx_up M 36 14 x) Q) ∧
  (∀ (d : Nat) (st : List Value) (M : jx_M) (Q : jx_Po) (l1 l2 : Option Value) (x : Nat), jx_Ev d 98 89 [some (.ref x), l1, l2] st M Q ↔ jx_Ev d 98 90 [some (.ref x), l1, l2] (.ref x :: st) M Q) ∧
  (∀ (d : Nat) (lv : List (Option Value)) (st : List Value) (M : jx_M) (Q : jx_Po), jx_Ev d 98 90 lv (.ref 36 :: st) M Q ↔ jx_Ev d 98 93 lv (.ref 48 :: st) M Q) ∧
  (∀ (d : Nat) (st : List Value) (M : jx_M) (Q : jx_Po) (l1 l2 : Option Value) (x : Nat), jx_Ev d 98 93 [some (.ref x), l1, l2] st M Q ↔ jx_Ev d 98 94 [some (.ref x), l1, l2] (.ref x :: st) M Q) ∧
  (∀ (d : Nat) (lv : List (Option Value)) (st : List Value) (M : jx_M) (Q : jx_Po), jx_Ev d 98 94 lv (.ref 36 :: st) M Q ↔ jx_Ev d 98 97 lv (.int (M 36 18) :: st) M Q) ∧
  (∀ (d : Nat) (st : List Value) (M : jx_M) (Q : jx_Po) (l1 l2 : Option Value) (x : Nat), jx_Ev d 98 97 [some (.ref x), l1, l2] st M Q ↔ jx_Ev d 98 98 [some (.ref x), l1, l2] (.ref x :: st) M Q) ∧
  (∀ (d : Nat) (st : List Value) (M : jx_M) (Q : jx_Po) (l0 l2 : Option Value) (x : Int32), jx_Ev d 98 98 [l0, some (.int x), l2] st M Q ↔ jx_Ev d 98 99 [l0, some (.int x), l2] (.int x :: st) M Q) ∧
  (∀ (d : Nat) (lv : List (Option Value)) (st : List Value) (M : jx_M) (Q : jx_Po), jx_Ev d 98 99 lv st M Q ↔ jx_Ev d 98 100 lv (.int 1 :: st) M Q) ∧
  (∀ (d : Nat) (lv : List (Option Value)) (st : List Value) (M : jx_M) (Q : jx_Po), jx_Ev d 98 100 lv st M Q ↔ jx_Ev d 98 102 lv (.int 9 :: st) M Q) ∧
  (∀ (d : Nat) (lv : List (Option Value)) (M : jx_M) (Q : jx_Po) (a0 : Int32) (a1 : Int32) (a2 : Int32) (a4 : Int32) (a5 : Nat), jx_Ev (d + 1) 98 102 lv [.int a0, .int a1, .int a2, .ref 36, .int a4, .ref a5] M Q ↔ jx_I d 92 [.ref 36, .int a2, .int a1, .int a0] M (fun x M => jx_Ev (d + 1) 98 105 lv (.int x :: [.int a4, .ref a5]) M Q)) ∧
  (∀ (d : Nat) (lv : List (Option Value)) (st : List Value) (M : jx_M) (Q : jx_Po) (x z : Int32) (a : Nat) (ha : jx_cl a = 9), jx_Ev d 98 105 lv (.int z :: .int x :: .ref a :: st) M Q ↔ (vp_in x (jx_sz a) ∧ jx_Ev d 98 106 lv st (jx_up M a x.toNatClampNeg z) Q)) ∧
  (∀ (d : Nat) (st : List Value) (M : jx_M) (Q : jx_Po) (l1 l2 : Option Value) (x : Nat), jx_Ev d 98 106 [some (.ref x), l1, l2] st M Q ↔ jx_Ev d 98 107 [some (.ref x), l1, l2] (.ref x :: st) M Q) ∧
  (∀ (d : Nat) (lv : List (Option Value)) (st : List Value) (M : jx_M) (Q : jx_Po), jx_Ev d 98 107 lv (.ref 36 :: st) M Q ↔ jx_Ev d 98 110 lv (.ref 48 :: st) M Q) ∧
  (∀ (d : Nat) (st : List Value) (M : jx_M) (Q : jx_Po) (l1 l2 : Option Value) (x : Nat), jx_Ev d 98 110 [some (.ref x), l1, l2] st M Q ↔ jx_Ev d 98 111 [some (.ref x), l1, l2] (.ref x :: st) M Q) ∧
  (∀ (d : Nat) (lv : List (Option Value)) (st : List Value) (M : jx_M) (Q : jx_Po), jx_Ev d 98 111 lv (.ref 36 :: st) M Q ↔ jx_Ev d 98 114 lv (.int (M 36 18) :: st) M Q) ∧
  (∀ (d : Nat) (lv : List (Option Value)) (st : List Value) (M : jx_M) (Q : jx_Po) (x : Int32) (a : Nat) (ha : jx_cl a = 9), jx_Ev d 98 114 lv (.int x :: .ref a :: st) M Q ↔ (vp_in x (jx_sz a) ∧ jx_Ev d 98 115 lv (.int (M a x.toNatClampNeg) :: st) M Q)) ∧
  (∀ (d : Nat) (lv : List (Option Value)) (st : List Value) (M : jx_M) (Q : jx_Po), jx_Ev d 98 115 lv st M Q ↔ jx_Ev d 98 117 lv (.int (-9) :: st) M Q) ∧
  (∀ (d : Nat) (lv : List (Option Value)) (st : List Value) (M : jx_M) (Q : jx_Po) (x z : Int32), jx_Ev d 98 117 lv (.int z :: .int x :: st) M Q ↔ (if x = z then jx_Ev d 98 120 lv st M Q else jx_Ev d 98 122 lv st M Q)) ∧
  (∀ (d : Nat) (lv : List (Option Value)) (st : List Value) (M : jx_M) (Q : jx_Po), jx_Ev d 98 120 lv st M Q ↔ jx_Ev d 98 121 lv (.int 0 :: st) M Q) ∧
  (∀ (d : Nat) (lv : List (Option Value)) (M : jx_M) (Q : jx_Po) (x : Int32), jx_Ev d 98 121 lv [.int x] M Q ↔ ((x = 0 ∨ x = 1) ∧ Q [.int x] M)) ∧
  (∀ (d : Nat) (st : List Value) (M : jx_M) (Q : jx_Po) (l1 l2 : Option Value) (x : Nat), jx_Ev d 98 122 [some (.ref x), l1, l2] st M Q ↔ jx_Ev d 98 123 [some (.ref x), l1, l2] (.ref x :: st) M Q) ∧
  (∀ (d : Nat) (lv : List (Option Value)) (st : List Value) (M : jx_M) (Q : jx_Po), jx_Ev d 98 123 lv (.ref 36 :: st) M Q ↔ jx_Ev d 98 126 lv (.ref 49 :: st) M Q) ∧
  (∀ (d : Nat) (st : List Value) (M : jx_M) (Q : jx_Po) (l1 l2 : Option Value) (x : Nat), jx_Ev d 98 126 [some (.ref x), l1, l2] st M Q ↔ jx_Ev d 98 127 [some (.ref x), l1, l2] (.ref x :: st) M Q) ∧
  (∀ (d : Nat) (lv : List (Option Value)) (st : List Value) (M : jx_M) (Q : jx_Po), jx_Ev d 98 127 lv (.ref 36 :: st) M Q ↔ jx_Ev d 98 130 lv (.int (M 36 18) :: st) M Q) ∧
  (∀ (d : Nat) (st : List Value) (M : jx_M) (Q : jx_Po) (l1 l2 : Option Value) (x : Nat), jx_Ev d 98 130 [some (.ref x), l1, l2] st M Q ↔ jx_Ev d 98 131 [some (.ref x), l1, l2] (.ref x :: st) M Q) ∧
  (∀ (d : Nat) (st : List Value) (M : jx_M) (Q : jx_Po) (l0 l2 : Option Value) (x : Int32), jx_Ev d 98 131 [l0, some (.int x), l2] st M Q ↔ jx_Ev d 98 132 [l0, some (.int x), l2] (.int x :: st) M Q) ∧
  (∀ (d : Nat) (lv : List (Option Value)) (st : List Value) (M : jx_M) (Q : jx_Po), jx_Ev d 98 132 lv st M Q ↔ jx_Ev d 98 133 lv (.int 0 :: st) M Q) ∧
  (∀ (d : Nat) (st : List Value) (M : jx_M) (Q : jx_Po) (l1 l2 : Option Value) (x : Nat), jx_Ev d 98 133 [some (.ref x), l1, l2] st M Q ↔ jx_Ev d 98 134 [some (.ref x), l1, l2] (.ref x :: st) M Q) ∧
  (∀ (d : Nat) (lv : List (Option Value)) (st : List Value) (M : jx_M) (Q : jx_Po), jx_Ev d 98 134 lv (.ref 36 :: st) M Q ↔ jx_Ev d 98 137 lv (.int (M 36 17) :: st) M Q) ∧
  (∀ (d : Nat) (lv : List (Option Value)) (st : List Value) (M : jx_M) (Q : jx_Po), jx_Ev d 98 137 lv st M Q ↔ jx_Ev d 98 138 lv (.int 1 :: st) M Q) ∧
  (∀ (d : Nat) (lv : List (Option Value)) (st : List Value) (M : jx_M) (Q : jx_Po) (x z : Int32), jx_Ev d 98 138 lv (.int z :: .int x :: st) M Q ↔ jx_Ev d 98 139 lv (.int (x - z) :: st) M Q) ∧
  (∀ (d : Nat) (lv : List (Option Value)) (M : jx_M) (Q : jx_Po) (a0 : Int32) (a1 : Int32) (a2 : Int32) (a4 : Int32) (a5 : Nat), jx_Ev (d + 1) 98 139 lv [.int a0, .int a1, .int a2, .ref 36, .int a4, .ref a5] M Q ↔ jx_I d 92 [.ref 36, .int a2, .int a1, .int a0] M (fun x M => jx_Ev (d + 1) 98 142 lv (.int x :: [.int a4, .ref a5]) M Q)) ∧
  (∀ (d : Nat) (lv : List (Option Value)) (st : List Value) (M : jx_M) (Q : jx_Po) (x z : Int32) (a : Nat) (ha : jx_cl a = 9), jx_Ev d 98 142 lv (.int z :: .int x :: .ref a :: st) M Q ↔ (vp_in x (jx_sz a) ∧ jx_Ev d 98 143 lv st (jx_up M a x.toNatClampNeg z) Q)) ∧
  (∀ (d : Nat) (st : List Value) (M : jx_M) (Q : jx_Po) (l1 l2 : Option Value) (x : Nat), jx_Ev d 98 143 [some (.ref x), l1, l2] st M Q ↔ jx_Ev d 98 144 [some (.ref x), l1, l2] (.ref x :: st) M Q) ∧
  (∀ (d : Nat) (lv : List (Option Value)) (st : List Value) (M : jx_M) (Q : jx_Po) (x : Nat), jx_Ev d 98 144 lv (.ref x :: st) M Q ↔ jx_Ev d 98 145 lv (.ref x :: .ref x :: st) M Q) ∧
  (∀ (d : Nat) (lv : List (Option Value)) (st : List Value) (M : jx_M) (Q : jx_Po), jx_Ev d 98 145 lv (.ref 36 :: st) M Q ↔ jx_Ev d 98 148 lv (.int (M 36 18) :: st) M Q) ∧
  (∀ (d : Nat) (lv : List (Option Value)) (st : List Value) (M : jx_M) (Q : jx_Po), jx_Ev d 98 148 lv st M Q ↔ jx_Ev d 98 149 lv (.int 1 :: st) M Q) ∧
  (∀ (d : Nat) (lv : List (Option Value)) (st : List Value) (M : jx_M) (Q : jx_Po) (x z : Int32), jx_Ev d 98 149 lv (.int z :: .int x :: st) M Q ↔ jx_Ev d 98 150 lv (.int (x + z) :: st) M Q) ∧
  (∀ (d : Nat) (lv : List (Option Value)) (st : List Value) (M : jx_M) (Q : jx_Po) (x : Int32), jx_Ev d 98 150 lv (.int x :: .ref 36 :: st) M Q ↔ jx_Ev d 98 153 lv st (jx_up M 36 18 x) Q) ∧
  (∀ (d : Nat) (st : List Value) (M : jx_M) (Q : jx_Po) (l1 l2 : Option Value) (x : Nat), jx_Ev d 98 153 [some (.ref x), l1, l2] st M Q ↔ jx_Ev d 98 154 [some (.ref x), l1, l2] (.ref x :: st) M Q) ∧
  (∀ (d : Nat) (lv : List (Option Value)) (st : List Value) (M : jx_M) (Q : jx_Po), jx_Ev d 98 154 lv (.ref 36 :: st) M Q ↔ jx_Ev d 98 157 lv (.ref 49 :: st) M Q) ∧
  (∀ (d : Nat) (st : List Value) (M : jx_M) (Q : jx_Po) (l1 l2 : Option Value) (x : Nat), jx_Ev d 98 157 [some (.ref x), l1, l2] st M Q ↔ jx_Ev d 98 158 [some (.ref x), l1, l2] (.ref x :: st) M Q) ∧
  (∀ (d : Nat) (lv : List (Option Value)) (st : List Value) (M : jx_M) (Q : jx_Po), jx_Ev d 98 158 lv (.ref 36 :: st) M Q ↔ jx_Ev d 98 161 lv (.int (M 36 18) :: st) M Q) ∧
  (∀ (d : Nat) (lv : List (Option Value)) (st : List Value) (M : jx_M) (Q : jx_Po), jx_Ev d 98 161 lv st M Q ↔ jx_Ev d 98 162 lv (.int 1 :: st) M Q) ∧
  (∀ (d : Nat) (lv : List (Option Value)) (st : List Value) (M : jx_M) (Q : jx_Po) (x z : Int32), jx_Ev d 98 162 lv (.int z :: .int x :: st) M Q ↔ jx_Ev d 98 163 lv (.int (x - z) :: st) M Q) ∧
  (∀ (d : Nat) (lv : List (Option Value)) (st : List Value) (M : jx_M) (Q : jx_Po) (x : Int32) (a : Nat) (ha : jx_cl a = 9), jx_Ev d 98 163 lv (.int x :: .ref a :: st) M Q ↔ (vp_in x (jx_sz a) ∧ jx_Ev d 98 164 lv (.int (M a x.toNatClampNeg) :: st) M Q)) ∧
  (∀ (d : Nat) (lv : List (Option Value)) (st : List Value) (M : jx_M) (Q : jx_Po), jx_Ev d 98 164 lv st M Q ↔ jx_Ev d 98 166 lv (.int (-9) :: st) M Q) ∧
  (∀ (d : Nat) (lv : List (Option Value)) (st : List Value) (M : jx_M) (Q : jx_Po) (x z : Int32), jx_Ev d 98 166 lv (.int z :: .int x :: st) M Q ↔ (if x = z then jx_Ev d 98 173 lv st M Q else jx_Ev d 98 169 lv st M Q)) ∧
  (∀ (d : Nat) (lv : List (Option Value)) (st : List Value) (M : jx_M) (Q : jx_Po), jx_Ev d 98 169 lv st M Q ↔ jx_Ev d 98 170 lv (.int 1 :: st) M Q) ∧
  (∀ (d : Nat) (lv : List (Option Value)) (st : List Value) (M : jx_M) (Q : jx_Po), jx_Ev d 98 170 lv st M Q ↔ jx_Ev d 98 174 lv st M Q) ∧
  (∀ (d : Nat) (lv : List (Option Value)) (st : List Value) (M : jx_M) (Q : jx_Po), jx_Ev d 98 173 lv st M Q ↔ jx_Ev d 98 174 lv (.int 0 :: st) M Q) ∧
  (∀ (d : Nat) (lv : List (Option Value)) (M : jx_M) (Q : jx_Po) (x : Int32), jx_Ev d 98 174 lv [.int x] M Q ↔ ((x = 0 ∨ x = 1) ∧ Q [.int x] M)) := by
  refine ⟨?_, ?_, ?_, ?_, ?_, ?_, ?_, ?_, ?_, ?_, ?_, ?_, ?_, ?_, ?_, ?_, ?_, ?_, ?_, ?_, ?_, ?_, ?_, ?_, ?_, ?_, ?_, ?_, ?_, ?_, ?_, ?_, ?_, ?_, ?_, ?_, ?_, ?_, ?_, ?_, ?_, ?_, ?_, ?_, ?_, ?_, ?_, ?_, ?_, ?_, ?_, ?_, ?_, ?_, ?_, ?_, ?_, ?_, ?_, ?_, ?_, ?_, ?_, ?_, ?_, ?_, ?_, ?_, ?_, ?_, ?_, ?_, ?_, ?_, ?_, ?_, ?_, ?_, ?_, ?_, ?_, ?_, ?_, ?_, ?_, ?_, ?_, ?_, ?_, ?_, ?_, ?_, ?_, ?_, ?_, ?_, ?_, ?_, ?_⟩
  · exact fun d st M Q l1 l2 x => jx_ev_st (jx_fok (by decide +kernel : decode (jx_mb 98) 0 = .ok (.aload_n 0, 1))) rfl rfl rfl
  · exact fun d lv st M Q => jx_k_gf (jx_fok (by decide +kernel : decode (jx_mb 98) 1 = .ok (.getfield 83, 3))) rfl rfl rfl
  · exact fun d st M Q l0 l2 x => jx_ev_st (jx_fok (by decide +kernel : decode (jx_mb 98) 4 = .ok (.iload_n 1, 1))) rfl rfl rfl
  · exact fun d lv st M Q x z => jx_k_b2 (jx_fok (by decide +kernel : decode (jx_mb 98) 5 = .ok (.if_icmp .ge 15, 3))) rfl jx_hGe
  · exact fun d st M Q l1 l2 x => jx_ev_st (jx_fok (by decide +kernel : decode (jx_mb 98) 8 = .ok (.aload_n 0, 1))) rfl rfl rfl
  · exact fun d lv st M Q => jx_k_gf (jx_fok (by decide +kernel : decode (jx_mb 98) 9 = .ok (.getfield 16, 3))) rfl rfl rfl
  · exact fun d st M Q l1 l2 x => jx_ev_st (jx_fok (by decide +kernel : decode (jx_mb 98) 12 = .ok (.aload_n 0, 1))) rfl rfl rfl
  · exact fun d lv st M Q => jx_k_gf (jx_fok (by decide +kernel : decode (jx_mb 98) 13 = .ok (.getfield 83, 3))) rfl rfl rfl
  · exact fun d lv st M Q x a ha => jx_k_al (jx_fok (by decide +kernel : decode (jx_mb 98) 16 = .ok (.iaload, 1))) ha
  · exact fun d lv st M Q => jx_k_goto (jx_fok (by decide +kernel : decode (jx_mb 98) 17 = .ok (.goto 4, 3))) rfl
  · exact fun d lv st M Q => jx_ev_st (jx_fok (by decide +kernel : decode (jx_mb 98) 20 = .ok (.iconst 0, 1))) rfl rfl rfl
  · exact fun d st M Q l0 l1 l2 x => jx_ev_st (jx_fok (by decide +kernel : decode (jx_mb 98) 21 = .ok (.istore_n 2, 1))) rfl rfl rfl
  · exact fun d st M Q l1 l2 x => jx_ev_st (jx_fok (by decide +kernel : decode (jx_mb 98) 22 = .ok (.aload_n 0, 1))) rfl rfl rfl
  · exact fun d lv st M Q => jx_k_gf (jx_fok (by decide +kernel : decode (jx_mb 98) 23 = .ok (.getfield 40, 3))) rfl rfl rfl
  · exact fun d st M Q l1 l2 x => jx_ev_st (jx_fok (by decide +kernel : decode (jx_mb 98) 26 = .ok (.aload_n 0, 1))) rfl rfl rfl
  · exact fun d lv st M Q => jx_k_gf (jx_fok (by decide +kernel : decode (jx_mb 98) 27 = .ok (.getfield 122, 3))) rfl rfl rfl
  · exact fun d st M Q l0 l1 x => jx_ev_st (jx_fok (by decide +kernel : decode (jx_mb 98) 30 = .ok (.iload_n 2, 1))) rfl rfl rfl
  · exact fun d lv st M Q => jx_ev_st (jx_fok (by decide +kernel : decode (jx_mb 98) 31 = .ok (.bipush 99, 2))) rfl rfl rfl
  · exact fun d lv st M Q x z => jx_k_b2n (jx_fok (by decide +kernel : decode (jx_mb 98) 33 = .ok (.if_icmp .ne 7, 3))) rfl jx_hNe
  · exact fun d lv st M Q => jx_ev_st (jx_fok (by decide +kernel : decode (jx_mb 98) 36 = .ok (.iconst 0, 1))) rfl rfl rfl
  · exact fun d lv st M Q => jx_k_goto (jx_fok (by decide +kernel : decode (jx_mb 98) 37 = .ok (.goto 25, 3))) rfl
  · exact fun d st M Q l0 l1 x => jx_ev_st (jx_fok (by decide +kernel : decode (jx_mb 98) 40 = .ok (.iload_n 2, 1))) rfl rfl rfl
  · exact fun d lv st M Q => jx_ev_st (jx_fok (by decide +kernel : decode (jx_mb 98) 41 = .ok (.bipush 100, 2))) rfl rfl rfl
  · exact fun d lv st M Q x z => jx_k_b2n (jx_fok (by decide +kernel : decode (jx_mb 98) 43 = .ok (.if_icmp .ne 7, 3))) rfl jx_hNe
  · exact fun d lv st M Q => jx_ev_st (jx_fok (by decide +kernel : decode (jx_mb 98) 46 = .ok (.iconst 1, 1))) rfl rfl rfl
  · exact fun d lv st M Q => jx_k_goto (jx_fok (by decide +kernel : decode (jx_mb 98) 47 = .ok (.goto 15, 3))) rfl
  · exact fun d st M Q l0 l1 x => jx_ev_st (jx_fok (by decide +kernel : decode (jx_mb 98) 50 = .ok (.iload_n 2, 1))) rfl rfl rfl
  · exact fun d lv st M Q => jx_ev_st (jx_fok (by decide +kernel : decode (jx_mb 98) 51 = .ok (.bipush 98, 2))) rfl rfl rfl
  · exact fun d lv st M Q x z => jx_k_b2n (jx_fok (by decide +kernel : decode (jx_mb 98) 53 = .ok (.if_icmp .ne 7, 3))) rfl jx_hNe
  · exact fun d lv st M Q => jx_ev_st (jx_fok (by decide +kernel : decode (jx_mb 98) 56 = .ok (.iconst 2, 1))) rfl rfl rfl
  · exact fun d lv st M Q => jx_k_goto (jx_fok (by decide +kernel : decode (jx_mb 98) 57 = .ok (.goto 5, 3))) rfl
  · exact fun d lv st M Q => jx_ev_st (jx_fok (by decide +kernel : decode (jx_mb 98) 60 = .ok (.bipush (-9), 2))) rfl rfl rfl
  · exact fun d lv st M Q x z a ha => jx_k_as (jx_fok (by decide +kernel : decode (jx_mb 98) 62 = .ok (.iastore, 1))) ha
  · exact fun d st M Q l1 l2 x => jx_ev_st (jx_fok (by decide +kernel : decode (jx_mb 98) 63 = .ok (.aload_n 0, 1))) rfl rfl rfl
  · exact fun d lv st M Q => jx_k_gf (jx_fok (by decide +kernel : decode (jx_mb 98) 64 = .ok (.getfield 40, 3))) rfl rfl rfl
  · exact fun d st M Q l1 l2 x => jx_ev_st (jx_fok (by decide +kernel : decode (jx_mb 98) 67 = .ok (.aload_n 0, 1))) rfl rfl rfl
  · exact fun d lv st M Q => jx_k_gf (jx_fok (by decide +kernel : decode (jx_mb 98) 68 = .ok (.getfield 122, 3))) rfl rfl rfl
  · exact fun d lv st M Q x a ha => jx_k_al (jx_fok (by decide +kernel : decode (jx_mb 98) 71 = .ok (.iaload, 1))) ha
  · exact fun d lv st M Q => jx_ev_st (jx_fok (by decide +kernel : decode (jx_mb 98) 72 = .ok (.bipush (-9), 2))) rfl rfl rfl
  · exact fun d lv st M Q x z => jx_k_b2n (jx_fok (by decide +kernel : decode (jx_mb 98) 74 = .ok (.if_icmp .ne 5, 3))) rfl jx_hNe
  · exact fun d lv st M Q => jx_ev_st (jx_fok (by decide +kernel : decode (jx_mb 98) 77 = .ok (.iconst 0, 1))) rfl rfl rfl
  · exact fun d lv M Q x => jx_k_rz (jx_fok (by decide +kernel : decode (jx_mb 98) 78 = .ok (.ireturn, 1))) rfl
  · exact fun d st M Q l1 l2 x => jx_ev_st (jx_fok (by decide +kernel : decode (jx_mb 98) 79 = .ok (.aload_n 0, 1))) rfl rfl rfl
  · exact fun d lv st M Q x => jx_ev_st (jx_fok (by decide +kernel : decode (jx_mb 98) 80 = .ok (.dup, 1))) rfl rfl rfl
  · exact fun d lv st M Q => jx_k_gf (jx_fok (by decide +kernel : decode (jx_mb 98) 81 = .ok (.getfield 83, 3))) rfl rfl rfl
  · exact fun d lv st M Q => jx_ev_st (jx_fok (by decide +kernel : decode (jx_mb 98) 84 = .ok (.iconst 1, 1))) rfl rfl rfl
  · exact fun d lv st M Q x z => jx_ev_st (jx_fok (by decide +kernel : decode (jx_mb 98) 85 = .ok (.iadd, 1))) rfl rfl rfl
  · exact fun d lv st M Q x => jx_k_pf0 (jx_fok (by decide +kernel : decode (jx_mb 98) 86 = .ok (.putfield 83, 3))) rfl rfl rfl
  · exact fun d st M Q l1 l2 x => jx_ev_st (jx_fok (by decide +kernel : decode (jx_mb 98) 89 = .ok (.aload_n 0, 1))) rfl rfl rfl
  · exact fun d lv st M Q => jx_k_gf (jx_fok (by decide +kernel : decode (jx_mb 98) 90 = .ok (.getfield 43, 3))) rfl rfl rfl
  · exact fun d st M Q l1 l2 x => jx_ev_st (jx_fok (by decide +kernel : decode (jx_mb 98) 93 = .ok (.aload_n 0, 1))) rfl rfl rfl
  · exact fun d lv st M Q => jx_k_gf (jx_fok (by decide +kernel : decode (jx_mb 98) 94 = .ok (.getfield 122, 3))) rfl rfl rfl
  · exact fun d st M Q l1 l2 x => jx_ev_st (jx_fok (by decide +kernel : decode (jx_mb 98) 97 = .ok (.aload_n 0, 1))) rfl rfl rfl
  · exact fun d st M Q l0 l2 x => jx_ev_st (jx_fok (by decide +kernel : decode (jx_mb 98) 98 = .ok (.iload_n 1, 1))) rfl rfl rfl
  · exact fun d lv st M Q => jx_ev_st (jx_fok (by decide +kernel : decode (jx_mb 98) 99 = .ok (.iconst 1, 1))) rfl rfl rfl
  · exact fun d lv st M Q => jx_ev_st (jx_fok (by decide +kernel : decode (jx_mb 98) 100 = .ok (.bipush 9, 2))) rfl rfl rfl
  · exact fun d lv M Q a0 a1 a2 a4 a5 => jx_ev_ci (jx_fok (by decide +kernel : decode (jx_mb 98) 102 = .ok (.invokevirtual 132, 3))) rfl (jx_ccV (As := [.int a2, .int a1, .int a0]) (rest := [.int a4, .ref a5]) rfl rfl rfl rfl rfl rfl) (by decide)
  · exact fun d lv st M Q x z a ha => jx_k_as (jx_fok (by decide +kernel : decode (jx_mb 98) 105 = .ok (.iastore, 1))) ha
  · exact fun d st M Q l1 l2 x => jx_ev_st (jx_fok (by decide +kernel : decode (jx_mb 98) 106 = .ok (.aload_n 0, 1))) rfl rfl rfl
  · exact fun d lv st M Q => jx_k_gf (jx_fok (by decide +kernel : decode (jx_mb 98) 107 = .ok (.getfield 43, 3))) rfl rfl rfl
  · exact fun d st M Q l1 l2 x => jx_ev_st (jx_fok (by decide +kernel : decode (jx_mb 98) 110 = .ok (.aload_n 0, 1))) rfl rfl rfl
  · exact fun d lv st M Q => jx_k_gf (jx_fok (by decide +kernel : decode (jx_mb 98) 111 = .ok (.getfield 122, 3))) rfl rfl rfl
  · exact fun d lv st M Q x a ha => jx_k_al (jx_fok (by decide +kernel : decode (jx_mb 98) 114 = .ok (.iaload, 1))) ha
  · exact fun d lv st M Q => jx_ev_st (jx_fok (by decide +kernel : decode (jx_mb 98) 115 = .ok (.bipush (-9), 2))) rfl rfl rfl
  · exact fun d lv st M Q x z => jx_k_b2n (jx_fok (by decide +kernel : decode (jx_mb 98) 117 = .ok (.if_icmp .ne 5, 3))) rfl jx_hNe
  · exact fun d lv st M Q => jx_ev_st (jx_fok (by decide +kernel : decode (jx_mb 98) 120 = .ok (.iconst 0, 1))) rfl rfl rfl
  · exact fun d lv M Q x => jx_k_rz (jx_fok (by decide +kernel : decode (jx_mb 98) 121 = .ok (.ireturn, 1))) rfl
  · exact fun d st M Q l1 l2 x => jx_ev_st (jx_fok (by decide +kernel : decode (jx_mb 98) 122 = .ok (.aload_n 0, 1))) rfl rfl rfl
  · exact fun d lv st M Q => jx_k_gf (jx_fok (by decide +kernel : decode (jx_mb 98) 123 = .ok (.getfield 46, 3))) rfl rfl rfl
  · exact fun d st M Q l1 l2 x => jx_ev_st (jx_fok (by decide +kernel : decode (jx_mb 98) 126 = .ok (.aload_n 0, 1))) rfl rfl rfl
  · exact fun d lv st M Q => jx_k_gf (jx_fok (by decide +kernel : decode (jx_mb 98) 127 = .ok (.getfield 122, 3))) rfl rfl rfl
  · exact fun d st M Q l1 l2 x => jx_ev_st (jx_fok (by decide +kernel : decode (jx_mb 98) 130 = .ok (.aload_n 0, 1))) rfl rfl rfl
  · exact fun d st M Q l0 l2 x => jx_ev_st (jx_fok (by decide +kernel : decode (jx_mb 98) 131 = .ok (.iload_n 1, 1))) rfl rfl rfl
  · exact fun d lv st M Q => jx_ev_st (jx_fok (by decide +kernel : decode (jx_mb 98) 132 = .ok (.iconst 0, 1))) rfl rfl rfl
  · exact fun d st M Q l1 l2 x => jx_ev_st (jx_fok (by decide +kernel : decode (jx_mb 98) 133 = .ok (.aload_n 0, 1))) rfl rfl rfl
  · exact fun d lv st M Q => jx_k_gf (jx_fok (by decide +kernel : decode (jx_mb 98) 134 = .ok (.getfield 119, 3))) rfl rfl rfl
  · exact fun d lv st M Q => jx_ev_st (jx_fok (by decide +kernel : decode (jx_mb 98) 137 = .ok (.iconst 1, 1))) rfl rfl rfl
  · exact fun d lv st M Q x z => jx_ev_st (jx_fok (by decide +kernel : decode (jx_mb 98) 138 = .ok (.isub, 1))) rfl rfl rfl
  · exact fun d lv M Q a0 a1 a2 a4 a5 => jx_ev_ci (jx_fok (by decide +kernel : decode (jx_mb 98) 139 = .ok (.invokevirtual 132, 3))) rfl (jx_ccV (As := [.int a2, .int a1, .int a0]) (rest := [.int a4, .ref a5]) rfl rfl rfl rfl rfl rfl) (by decide)
  · exact fun d lv st M Q x z a ha => jx_k_as (jx_fok (by decide +kernel : decode (jx_mb 98) 142 = .ok (.iastore, 1))) ha
  · exact fun d st M Q l1 l2 x => jx_ev_st (jx_fok (by decide +kernel : decode (jx_mb 98) 143 = .ok (.aload_n 0, 1))) rfl rfl rfl
  · exact fun d lv st M Q x => jx_ev_st (jx_fok (by decide +kernel : decode (jx_mb 98) 144 = .ok (.dup, 1))) rfl rfl rfl
  · exact fun d lv st M Q => jx_k_gf (jx_fok (by decide +kernel : decode (jx_mb 98) 145 = .ok (.getfield 122, 3))) rfl rfl rfl
  · exact fun d lv st M Q => jx_ev_st (jx_fok (by decide +kernel : decode (jx_mb 98) 148 = .ok (.iconst 1, 1))) rfl rfl rfl
  · exact fun d lv st M Q x z => jx_ev_st (jx_fok (by decide +kernel : decode (jx_mb 98) 149 = .ok (.iadd, 1))) rfl rfl rfl
  · exact fun d lv st M Q x => jx_k_pf0 (jx_fok (by decide +kernel : decode (jx_mb 98) 150 = .ok (.putfield 122, 3))) rfl rfl rfl
  · exact fun d st M Q l1 l2 x => jx_ev_st (jx_fok (by decide +kernel : decode (jx_mb 98) 153 = .ok (.aload_n 0, 1))) rfl rfl rfl
  · exact fun d lv st M Q => jx_k_gf (jx_fok (by decide +kernel : decode (jx_mb 98) 154 = .ok (.getfield 46, 3))) rfl rfl rfl
  · exact fun d st M Q l1 l2 x => jx_ev_st (jx_fok (by decide +kernel : decode (jx_mb 98) 157 = .ok (.aload_n 0, 1))) rfl rfl rfl
  · exact fun d lv st M Q => jx_k_gf (jx_fok (by decide +kernel : decode (jx_mb 98) 158 = .ok (.getfield 122, 3))) rfl rfl rfl
  · exact fun d lv st M Q => jx_ev_st (jx_fok (by decide +kernel : decode (jx_mb 98) 161 = .ok (.iconst 1, 1))) rfl rfl rfl
  · exact fun d lv st M Q x z => jx_ev_st (jx_fok (by decide +kernel : decode (jx_mb 98) 162 = .ok (.isub, 1))) rfl rfl rfl
  · exact fun d lv st M Q x a ha => jx_k_al (jx_fok (by decide +kernel : decode (jx_mb 98) 163 = .ok (.iaload, 1))) ha
  · exact fun d lv st M Q => jx_ev_st (jx_fok (by decide +kernel : decode (jx_mb 98) 164 = .ok (.bipush (-9), 2))) rfl rfl rfl
  · exact fun d lv st M Q x z => jx_k_b2 (jx_fok (by decide +kernel : decode (jx_mb 98) 166 = .ok (.if_icmp .eq 7, 3))) rfl jx_hEq
  · exact fun d lv st M Q => jx_ev_st (jx_fok (by decide +kernel : decode (jx_mb 98) 169 = .ok (.iconst 1, 1))) rfl rfl rfl
  · exact fun d lv st M Q => jx_k_goto (jx_fok (by decide +kernel : decode (jx_mb 98) 170 = .ok (.goto 4, 3))) rfl
  · exact fun d lv st M Q => jx_ev_st (jx_fok (by decide +kernel : decode (jx_mb 98) 173 = .ok (.iconst 0, 1))) rfl rfl rfl
  · exact fun d lv M Q x => jx_k_rz (jx_fok (by decide +kernel : decode (jx_mb 98) 174 = .ok (.ireturn, 1))) rfl
theorem kX8_readClap (d : Nat) (M : jx_M) (q : Int32 → jx_M → Prop) (a0 a1 : Value) : jx_I d 98 [a0, a1] M q ↔ jx_Ev d 98 0 [some a0, some a1, none] [] M (jx_qI q) := Iff.rfl
set_option maxRecDepth 100000 in
theorem eX8_clapsOf :
  (∀ (d : Nat) (lv : List (Option Value)) (st : List Value) (M : jx_M) (Q : jx_Po), jx_Ev d 99 0 lv st M Q ↔ jx_Ev d 99 1 lv (.int 0 :: st) M Q) ∧
  (∀ (d : Nat) (st : List Value) (M : jx_M) (Q : jx_Po) (l0 l1 l2 l3 : Option Value) (x : Int32), jx_Ev d 99 1 [l0, l1, l2, l3] (.int x :: st) M Q ↔ jx_Ev d 99 2 [l0, l1, some (.int x), l3] st M Q) ∧
  (∀ (d : Nat) (lv : List (Option Value)) (st : List Value) (M : jx_M) (Q : jx_Po), jx_Ev d 99 2 lv st M Q ↔ jx_Ev d 99 3 lv (.int 0 :: st) M Q) ∧
  (∀ (d : Nat) (st : List Value) (M : jx_M) (Q : jx_Po) (l0 l1 l2 l3 : Option Value) (x : Int32), jx_Ev d 99 3 [l0, l1, l2, l3] (.int x :: st) M Q ↔ jx_Ev d 99 4 [l0, l1, l2, some (.int x)] st M Q) ∧
  (∀ (d : Nat) (st : List Value) (M : jx_M) (Q : jx_Po) (l1 l2 l3 : Option Value) (x : Nat), jx_Ev d 99 5 [some (.ref x), l1, l2, l3] st M Q ↔ jx_Ev d 99 6 [some (.ref x), l1, l2, l3] (.ref x :: st) M Q) ∧
  (∀ (d : Nat) (lv : List (Option Value)) (st : List Value) (M : jx_M) (Q : jx_Po), jx_Ev d 99 6 lv (.ref 36 :: st) M Q ↔ jx_Ev d 99 9 lv (.int (M 36 6) :: st) M Q) ∧
  (∀ (d : Nat) (lv : List (Option Value)) (st : List Value) (M : jx_M) (Q : jx_Po) (x z : Int32), jx_Ev d 99 9 lv (.int z :: .int x :: st) M Q ↔ (if z ≤ x then jx_Ev d 99 38 lv st M Q else jx_Ev d 99 12 lv st M Q)) ∧
  (∀ (d : Nat) (st : List Value) (M : jx_M) (Q : jx_Po) (l0 l1 l3 : Option Value) (x : Int32), jx_Ev d 99 12 [l0, l1, some (.int x), l3] st M Q ↔ jx_Ev d 99 13 [l0, l1, some (.int x), l3] (.int x :: st) M Q) ∧
  (∀ (d : Nat) (st : List Value) (M : jx_M) (Q : jx_Po) (l1 l2 l3 : Option Value) (x : Nat), jx_Ev d 99 13 [some (.ref x), l1, l2, l3] st M Q ↔ jx_Ev d 99 14 [some (.ref x), l1, l2, l3] (.ref x :: st) M Q) ∧
  (∀ (d : Nat) (lv : List (Option Value)) (st : List Value) (M : jx_M) (Q : jx_Po), jx_Ev d 99 14 lv (.ref 36 :: st) M Q ↔ jx_Ev d 99 17 lv (.ref 44 :: st) M Q) ∧
  (∀ (d : Nat) (st : List Value) (M : jx_M) (Q : jx_Po) (l0 l1 l2 : Option Value) (x : Int32), jx_Ev d 99 17 [l0, l1, l2, some (.int x)] st M Q ↔ jx_Ev d 99 18 [l0, l1, l2, some (.int x)] (.int x :: st) M Q) ∧
  (∀ (d : Nat) (lv : List (Option Value)) (st : List Value) (M : jx_M) (Q : jx_Po) (x : Int32) (a : Nat) (ha : jx_cl a = 9), jx_Ev d 99 18 lv (.int x :: .ref a :: st) M Q ↔ (vp_in x (jx_sz a) ∧ jx_Ev d 99 19 lv (.int (M a x.toNatClampNeg) :: st) M Q)) ∧
  (∀ (d : Nat) (st : List Value) (M : jx_M) (Q : jx_Po) (l0 l2 l3 : Option Value) (x : Int32), jx_Ev d 99 19 [l0, some (.int x), l2, l3] st M Q ↔ jx_Ev d 99 20 [l0, some (.int x), l2, l3] (.int x :: st) M Q) ∧
  (∀ (d : Nat) (lv : List (Option Value)) (st : List Value) (M : jx_M) (Q : jx_Po) (x z : Int32), jx_Ev d 99 20 lv (.int z :: .int x :: st) M Q ↔ (if x = z then jx_Ev d 99 23 lv st M Q else jx_Ev d 99 29 lv st M Q)) ∧
  (∀ (d : Nat) (lv : List (Option Value)) (st : List Value) (M : jx_M) (Q : jx_Po), jx_Ev d 99 23 lv st M Q ↔ jx_Ev d 99 24 lv (.int 1 :: st) M Q) ∧
  (∀ (d : Nat) (st : List Value) (M : jx_M) (Q : jx_Po) (l0 l1 l2 : Option Value) (x : Int32), jx_Ev d 99 24 [l0, l1, l2, some (.int x)] st M Q ↔ jx_Ev d 99 25 [l0, l1, l2, some (.int x)] (.int x :: st) M Q) ∧
  (∀ (d : Nat) (lv : List (Option Value)) (st : List Value) (M : jx_M) (Q : jx_Po) (x z : Int32), jx_Ev d 99 25 lv (.int z :: .int x :: st) M Q ↔ jx_Ev d 99 26 lv (.int (x <<< (z &&& 31)) :: st) M Q) ∧
  (∀ (d : Nat) (lv : List (Option Value)) (st : List Value) (M : jx_M) (Q : jx_Po), jx_Ev d 99 26 lv st M Q ↔ jx_Ev d 99 30 lv st M Q) ∧
  (∀ (d : Nat) (lv : List (Option Value)) (st : List Value) (M : jx_M) (Q : jx_Po), jx_Ev d 99 29 lv st M Q ↔ jx_Ev d 99 30 lv (.int 0 :: st) M Q) ∧
  (∀ (d : Nat) (lv : List (Option Value)) (st : List Value) (M : jx_M) (Q : jx_Po) (x z : Int32), jx_Ev d 99 30 lv (.int z :: .int x :: st) M Q ↔ jx_Ev d 99 31 lv (.int (x ||| z) :: st) M Q) ∧
  (∀ (d : Nat) (st : List Value) (M : jx_M) (Q : jx_Po) (l0 l1 l2 l3 : Option Value) (x : Int32), jx_Ev d 99 31 [l0, l1, l2, l3] (.int x :: st) M Q ↔ jx_Ev d 99 32 [l0, l1, some (.int x), l3] st M Q) ∧
  (∀ (d : Nat) (st : List Value) (M : jx_M) (Q : jx_Po) (l0 l1 l2 : Option Value) (x : Int32), jx_Ev d 99 32 [l0, l1, l2, some (.int x)] st M Q ↔ jx_Ev d 99 35 [l0, l1, l2, some (.int (x + 1))] st M Q) ∧
  (∀ (d : Nat) (lv : List (Option Value)) (st : List Value) (M : jx_M) (Q : jx_Po), jx_Ev d 99 35 lv st M Q ↔ jx_Ev d 99 4 lv st M Q) ∧
  (∀ (d : Nat) (st : List Value) (M : jx_M) (Q : jx_Po) (l0 l1 l3 : Option Value) (x : Int32), jx_Ev d 99 38 [l0, l1, some (.int x), l3] st M Q ↔ jx_Ev d 99 39 [l0, l1, some (.int x), l3] (.int x :: st) M Q) ∧
  (∀ (d : Nat) (lv : List (Option Value)) (M : jx_M) (Q : jx_Po) (x : Int32), jx_Ev d 99 39 lv [.int x] M Q ↔ Q [.int x] M) := by
  refine ⟨?_, ?_, ?_, ?_, ?_, ?_, ?_, ?_, ?_, ?_, ?_, ?_, ?_, ?_, ?_, ?_, ?_, ?_, ?_, ?_, ?_, ?_, ?_, ?_, ?_⟩
  · exact fun d lv st M Q => jx_ev_st (jx_fok (by decide +kernel : decode (jx_mb 99) 0 = .ok (.iconst 0, 1))) rfl rfl rfl
  · exact fun d st M Q l0 l1 l2 l3 x => jx_ev_st (jx_fok (by decide +kernel : decode (jx_mb 99) 1 = .ok (.istore_n 2, 1))) rfl rfl rfl
  · exact fun d lv st M Q => jx_ev_st (jx_fok (by decide +kernel : decode (jx_mb 99) 2 = .ok (.iconst 0, 1))) rfl rfl rfl
  · exact fun d st M Q l0 l1 l2 l3 x => jx_ev_st (jx_fok (by decide +kernel : decode (jx_mb 99) 3 = .ok (.istore_n 3, 1))) rfl rfl rfl
  · exact fun d st M Q l1 l2 l3 x => jx_ev_st (jx_fok (by decide +kernel : decode (jx_mb 99) 5 = .ok (.aload_n 0, 1))) rfl rfl rfl
  · exact fun d lv st M Q => jx_k_gf (jx_fok (by decide +kernel : decode (jx_mb 99) 6 = .ok (.getfield 80, 3))) rfl rfl rfl
  · exact fun d lv st M Q x z => jx_k_b2 (jx_fok (by decide +kernel : decode (jx_mb 99) 9 = .ok (.if_icmp .ge 29, 3))) rfl jx_hGe
  · exact fun d st M Q l0 l1 l3 x => jx_ev_st (jx_fok (by decide +kernel : decode (jx_mb 99) 12 = .ok (.iload_n 2, 1))) rfl rfl rfl
  · exact fun d st M Q l1 l2 l3 x => jx_ev_st (jx_fok (by decide +kernel : decode (jx_mb 99) 13 = .ok (.aload_n 0, 1))) rfl rfl rfl
  · exact fun d lv st M Q => jx_k_gf (jx_fok (by decide +kernel : decode (jx_mb 99) 14 = .ok (.getfield 31, 3))) rfl rfl rfl
  · exact fun d st M Q l0 l1 l2 x => jx_ev_st (jx_fok (by decide +kernel : decode (jx_mb 99) 17 = .ok (.iload_n 3, 1))) rfl rfl rfl
  · exact fun d lv st M Q x a ha => jx_k_al (jx_fok (by decide +kernel : decode (jx_mb 99) 18 = .ok (.iaload, 1))) ha
  · exact fun d st M Q l0 l2 l3 x => jx_ev_st (jx_fok (by decide +kernel : decode (jx_mb 99) 19 = .ok (.iload_n 1, 1))) rfl rfl rfl
  · exact fun d lv st M Q x z => jx_k_b2n (jx_fok (by decide +kernel : decode (jx_mb 99) 20 = .ok (.if_icmp .ne 9, 3))) rfl jx_hNe
  · exact fun d lv st M Q => jx_ev_st (jx_fok (by decide +kernel : decode (jx_mb 99) 23 = .ok (.iconst 1, 1))) rfl rfl rfl
  · exact fun d st M Q l0 l1 l2 x => jx_ev_st (jx_fok (by decide +kernel : decode (jx_mb 99) 24 = .ok (.iload_n 3, 1))) rfl rfl rfl
  · exact fun d lv st M Q x z => jx_ev_st (jx_fok (by decide +kernel : decode (jx_mb 99) 25 = .ok (.ishl, 1))) rfl rfl rfl
  · exact fun d lv st M Q => jx_k_goto (jx_fok (by decide +kernel : decode (jx_mb 99) 26 = .ok (.goto 4, 3))) rfl
  · exact fun d lv st M Q => jx_ev_st (jx_fok (by decide +kernel : decode (jx_mb 99) 29 = .ok (.iconst 0, 1))) rfl rfl rfl
  · exact fun d lv st M Q x z => jx_ev_st (jx_fok (by decide +kernel : decode (jx_mb 99) 30 = .ok (.ior, 1))) rfl rfl rfl
  · exact fun d st M Q l0 l1 l2 l3 x => jx_ev_st (jx_fok (by decide +kernel : decode (jx_mb 99) 31 = .ok (.istore_n 2, 1))) rfl rfl rfl
  · exact fun d st M Q l0 l1 l2 x => jx_ev_st (jx_fok (by decide +kernel : decode (jx_mb 99) 32 = .ok (.iinc 3 1, 3))) rfl rfl rfl
  · exact fun d lv st M Q => jx_k_goto (jx_fok (by decide +kernel : decode (jx_mb 99) 35 = .ok (.goto (-31), 3))) rfl
  · exact fun d st M Q l0 l1 l3 x => jx_ev_st (jx_fok (by decide +kernel : decode (jx_mb 99) 38 = .ok (.iload_n 2, 1))) rfl rfl rfl
  · exact fun d lv M Q x => jx_k_ri (jx_fok (by decide +kernel : decode (jx_mb 99) 39 = .ok (.ireturn, 1))) rfl
theorem eX8_clapsOf_4 (d : Nat) (st : List Value) (M : jx_M) (Q : jx_Po) (l0 l1 l2 : Option Value) (x : Int32) : jx_Ev d 99 4 [l0, l1, l2, some (.int x)] st M Q ↔ jx_Ev d 99 5 [l0, l1, l2, some (.int x)] (.int x :: st) M Q := jx_ev_st (jx_fok (by decide +kernel : decode (jx_mb 99) 4 = .ok (.iload_n 3, 1))) rfl rfl rfl
theorem kX8_clapsOf (d : Nat) (M : jx_M) (q : Int32 → jx_M → Prop) (a0 a1 : Value) : jx_I d 99 [a0, a1] M q ↔ jx_Ev d 99 0 [some a0, some a1, none, none] [] M (jx_qI q) := Iff.rfl
set_option maxRecDepth 100000 in
theorem eX8_ofPerson :
  (∀ (d : Nat) (st : List Value) (M : jx_M) (Q : jx_Po) (l1 l2 : Option Value) (x : Nat), jx_Ev d 100 0 [some (.ref x), l1, l2] st M Q ↔ jx_Ev d 100 1 [some (.ref x), l1, l2] (.ref x :: st) M Q) ∧
  (∀ (d : Nat) (st : List Value) (M : jx_M) (Q : jx_Po) (l0 l2 : Option Value) (x : Int32), jx_Ev d 100 1 [l0, some (.int x), l2] st M Q ↔ jx_Ev d 100 2 [l0, some (.int x), l2] (.int x :: st) M Q) ∧
  (∀ (d : Nat) (lv : List (Option Value)) (M : jx_M) (Q : jx_Po) (a0 : Int32), jx_Ev (d + 1) 100 2 lv [.int a0, .ref 36] M Q ↔ jx_I d 90 [.ref 36, .int a0] M (fun x M => jx_Ev (d + 1) 100 5 lv (.int x :: []) M Q)) ∧
  (∀ (d : Nat) (lv : List (Option Value)) (st : List Value) (M : jx_M) (Q : jx_Po) (x : Int32), jx_Ev d 100 5 lv (.int x :: st) M Q ↔ (if x = 0 then jx_Ev d 100 8 lv st M Q else jx_Ev d 100 10 lv st M Q)) ∧
  (∀ (d : Nat) (lv : List (Option Value)) (st : List Value) (M : jx_M) (Q : jx_Po), jx_Ev d 100 8 lv st M Q ↔ jx_Ev d 100 9 lv (.int (-1) :: st) M Q) ∧
  (∀ (d : Nat) (lv : List (Option Value)) (M : jx_M) (Q : jx_Po) (x : Int32), jx_Ev d 100 9 lv [.int x] M Q ↔ Q [.int x] M) ∧
  (∀ (d : Nat) (st : List Value) (M : jx_M) (Q : jx_Po) (l0 l1 : Option Value) (x : Int32), jx_Ev d 100 10 [l0, l1, some (.int x)] st M Q ↔ jx_Ev d 100 11 [l0, l1, some (.int x)] (.int x :: st) M Q) ∧
  (∀ (d : Nat) (lv : List (Option Value)) (st : List Value) (M : jx_M) (Q : jx_Po) (x : Int32), jx_Ev d 100 11 lv (.int x :: st) M Q ↔ (if x = 0 then jx_Ev d 100 14 lv st M Q else jx_Ev d 100 23 lv st M Q)) ∧
  (∀ (d : Nat) (st : List Value) (M : jx_M) (Q : jx_Po) (l1 l2 : Option Value) (x : Nat), jx_Ev d 100 14 [some (.ref x), l1, l2] st M Q ↔ jx_Ev d 100 15 [some (.ref x), l1, l2] (.ref x :: st) M Q) ∧
  (∀ (d : Nat) (lv : List (Option Value)) (st : List Value) (M : jx_M) (Q : jx_Po), jx_Ev d 100 15 lv (.ref 36 :: st) M Q ↔ jx_Ev d 100 18 lv (.ref 40 :: st) M Q) ∧
  (∀ (d : Nat) (st : List Value) (M : jx_M) (Q : jx_Po) (l0 l2 : Option Value) (x : Int32), jx_Ev d 100 18 [l0, some (.int x), l2] st M Q ↔ jx_Ev d 100 19 [l0, some (.int x), l2] (.int x :: st) M Q) ∧
  (∀ (d : Nat) (lv : List (Option Value)) (st : List Value) (M : jx_M) (Q : jx_Po) (x : Int32) (a : Nat) (ha : jx_cl a = 9), jx_Ev d 100 19 lv (.int x :: .ref a :: st) M Q ↔ (vp_in x (jx_sz a) ∧ jx_Ev d 100 20 lv (.int (M a x.toNatClampNeg) :: st) M Q)) ∧
  (∀ (d : Nat) (lv : List (Option Value)) (st : List Value) (M : jx_M) (Q : jx_Po), jx_Ev d 100 20 lv st M Q ↔ jx_Ev d 100 52 lv st M Q) ∧
  (∀ (d : Nat) (st : List Value) (M : jx_M) (Q : jx_Po) (l0 l1 : Option Value) (x : Int32), jx_Ev d 100 23 [l0, l1, some (.int x)] st M Q ↔ jx_Ev d 100 24 [l0, l1, some (.int x)] (.int x :: st) M Q) ∧
  (∀ (d : Nat) (lv : List (Option Value)) (st : List Value) (M : jx_M) (Q : jx_Po), jx_Ev d 100 24 lv st M Q ↔ jx_Ev d 100 25 lv (.int 1 :: st) M Q) ∧
  (∀ (d : Nat) (lv : List (Option Value)) (st : List Value) (M : jx_M) (Q : jx_Po) (x z : Int32), jx_Ev d 100 25 lv (.int z :: .int x :: st) M Q ↔ (if x = z then jx_Ev d 100 28 lv st M Q else jx_Ev d 100 37 lv st M Q)) ∧
  (∀ (d : Nat) (st : List Value) (M : jx_M) (Q : jx_Po) (l1 l2 : Option Value) (x : Nat), jx_Ev d 100 28 [some (.ref x), l1, l2] st M Q ↔ jx_Ev d 100 29 [some (.ref x), l1, l2] (.ref x :: st) M Q) ∧
  (∀ (d : Nat) (lv : List (Option Value)) (st : List Value) (M : jx_M) (Q : jx_Po), jx_Ev d 100 29 lv (.ref 36 :: st) M Q ↔ jx_Ev d 100 32 lv (.ref 41 :: st) M Q) ∧
  (∀ (d : Nat) (st : List Value) (M : jx_M) (Q : jx_Po) (l0 l2 : Option Value) (x : Int32), jx_Ev d 100 32 [l0, some (.int x), l2] st M Q ↔ jx_Ev d 100 33 [l0, some (.int x), l2] (.int x :: st) M Q) ∧
  (∀ (d : Nat) (lv : List (Option Value)) (st : List Value) (M : jx_M) (Q : jx_Po) (x : Int32) (a : Nat) (ha : jx_cl a = 9), jx_Ev d 100 33 lv (.int x :: .ref a :: st) M Q ↔ (vp_in x (jx_sz a) ∧ jx_Ev d 100 34 lv (.int (M a x.toNatClampNeg) :: st) M Q)) ∧
  (∀ (d : Nat) (lv : List (Option Value)) (st : List Value) (M : jx_M) (Q : jx_Po), jx_Ev d 100 34 lv st M Q ↔ jx_Ev d 100 52 lv st M Q) ∧
  (∀ (d : Nat) (st : List Value) (M : jx_M) (Q : jx_Po) (l0 l1 : Option Value) (x : Int32), jx_Ev d 100 37 [l0, l1, some (.int x)] st M Q ↔ jx_Ev d 100 38 [l0, l1, some (.int x)] (.int x :: st) M Q) ∧
  (∀ (d : Nat) (lv : List (Option Value)) (st : List Value) (M : jx_M) (Q : jx_Po), jx_Ev d 100 38 lv st M Q ↔ jx_Ev d 100 39 lv (.int 2 :: st) M Q) ∧
  (∀ (d : Nat) (lv : List (Option Value)) (st : List Value) (M : jx_M) (Q : jx_Po) (x z : Int32), jx_Ev d 100 39 lv (.int z :: .int x :: st) M Q ↔ (if x = z then jx_Ev d 100 42 lv st M Q else jx_Ev d 100 50 lv st M Q)) ∧
  (∀ (d : Nat) (st : List Value) (M : jx_M) (Q : jx_Po) (l1 l2 : Option Value) (x : Nat), jx_Ev d 100 42 [some (.ref x), l1, l2] st M Q ↔ jx_Ev d 100 43 [some (.ref x), l1, l2] (.ref x :: st) M Q) ∧
  (∀ (d : Nat) (st : List Value) (M : jx_M) (Q : jx_Po) (l0 l2 : Option Value) (x : Int32), jx_Ev d 100 43 [l0, some (.int x), l2] st M Q ↔ jx_Ev d 100 44 [l0, some (.int x), l2] (.int x :: st) M Q) ∧
  (∀ (d : Nat) (lv : List (Option Value)) (M : jx_M) (Q : jx_Po) (a0 : Int32), jx_Ev (d + 1) 100 44 lv [.int a0, .ref 36] M Q ↔ jx_I d 99 [.ref 36, .int a0] M (fun x M => jx_Ev (d + 1) 100 47 lv (.int x :: []) M Q)) ∧
  (∀ (d : Nat) (lv : List (Option Value)) (st : List Value) (M : jx_M) (Q : jx_Po), jx_Ev d 100 47 lv st M Q ↔ jx_Ev d 100 52 lv st M Q) ∧
  (∀ (d : Nat) (lv : List (Option Value)) (st : List Value) (M : jx_M) (Q : jx_Po), jx_Ev d 100 50 lv st M Q ↔ jx_Ev d 100 52 lv (.int (-2) :: st) M Q) ∧
  (∀ (d : Nat) (lv : List (Option Value)) (M : jx_M) (Q : jx_Po) (x : Int32), jx_Ev d 100 52 lv [.int x] M Q ↔ Q [.int x] M) := by
  refine ⟨?_, ?_, ?_, ?_, ?_, ?_, ?_, ?_, ?_, ?_, ?_, ?_, ?_, ?_, ?_, ?_, ?_, ?_, ?_, ?_, ?_, ?_, ?_, ?_, ?_, ?_, ?_, ?_, ?_, ?_⟩
  · exact fun d st M Q l1 l2 x => jx_ev_st (jx_fok (by decide +kernel : decode (jx_mb 100) 0 = .ok (.aload_n 0, 1))) rfl rfl rfl
  · exact fun d st M Q l0 l2 x => jx_ev_st (jx_fok (by decide +kernel : decode (jx_mb 100) 1 = .ok (.iload_n 1, 1))) rfl rfl rfl
  · exact fun d lv M Q a0 => jx_ev_ci (jx_fok (by decide +kernel : decode (jx_mb 100) 2 = .ok (.invokevirtual 142, 3))) rfl (jx_ccV (As := [.int a0]) (rest := []) rfl rfl rfl rfl rfl rfl) (by decide)
  · exact fun d lv st M Q x => jx_k_b1n (jx_fok (by decide +kernel : decode (jx_mb 100) 5 = .ok (.ifCond .ne 5, 3))) rfl jx_hNe
  · exact fun d lv st M Q => jx_ev_st (jx_fok (by decide +kernel : decode (jx_mb 100) 8 = .ok (.iconst (-1), 1))) rfl rfl rfl
  · exact fun d lv M Q x => jx_k_ri (jx_fok (by decide +kernel : decode (jx_mb 100) 9 = .ok (.ireturn, 1))) rfl
  · exact fun d st M Q l0 l1 x => jx_ev_st (jx_fok (by decide +kernel : decode (jx_mb 100) 10 = .ok (.iload_n 2, 1))) rfl rfl rfl
  · exact fun d lv st M Q x => jx_k_b1n (jx_fok (by decide +kernel : decode (jx_mb 100) 11 = .ok (.ifCond .ne 12, 3))) rfl jx_hNe
  · exact fun d st M Q l1 l2 x => jx_ev_st (jx_fok (by decide +kernel : decode (jx_mb 100) 14 = .ok (.aload_n 0, 1))) rfl rfl rfl
  · exact fun d lv st M Q => jx_k_gf (jx_fok (by decide +kernel : decode (jx_mb 100) 15 = .ok (.getfield 19, 3))) rfl rfl rfl
  · exact fun d st M Q l0 l2 x => jx_ev_st (jx_fok (by decide +kernel : decode (jx_mb 100) 18 = .ok (.iload_n 1, 1))) rfl rfl rfl
  · exact fun d lv st M Q x a ha => jx_k_al (jx_fok (by decide +kernel : decode (jx_mb 100) 19 = .ok (.iaload, 1))) ha
  · exact fun d lv st M Q => jx_k_goto (jx_fok (by decide +kernel : decode (jx_mb 100) 20 = .ok (.goto 32, 3))) rfl
  · exact fun d st M Q l0 l1 x => jx_ev_st (jx_fok (by decide +kernel : decode (jx_mb 100) 23 = .ok (.iload_n 2, 1))) rfl rfl rfl
  · exact fun d lv st M Q => jx_ev_st (jx_fok (by decide +kernel : decode (jx_mb 100) 24 = .ok (.iconst 1, 1))) rfl rfl rfl
  · exact fun d lv st M Q x z => jx_k_b2n (jx_fok (by decide +kernel : decode (jx_mb 100) 25 = .ok (.if_icmp .ne 12, 3))) rfl jx_hNe
  · exact fun d st M Q l1 l2 x => jx_ev_st (jx_fok (by decide +kernel : decode (jx_mb 100) 28 = .ok (.aload_n 0, 1))) rfl rfl rfl
  · exact fun d lv st M Q => jx_k_gf (jx_fok (by decide +kernel : decode (jx_mb 100) 29 = .ok (.getfield 22, 3))) rfl rfl rfl
  · exact fun d st M Q l0 l2 x => jx_ev_st (jx_fok (by decide +kernel : decode (jx_mb 100) 32 = .ok (.iload_n 1, 1))) rfl rfl rfl
  · exact fun d lv st M Q x a ha => jx_k_al (jx_fok (by decide +kernel : decode (jx_mb 100) 33 = .ok (.iaload, 1))) ha
  · exact fun d lv st M Q => jx_k_goto (jx_fok (by decide +kernel : decode (jx_mb 100) 34 = .ok (.goto 18, 3))) rfl
  · exact fun d st M Q l0 l1 x => jx_ev_st (jx_fok (by decide +kernel : decode (jx_mb 100) 37 = .ok (.iload_n 2, 1))) rfl rfl rfl
  · exact fun d lv st M Q => jx_ev_st (jx_fok (by decide +kernel : decode (jx_mb 100) 38 = .ok (.iconst 2, 1))) rfl rfl rfl
  · exact fun d lv st M Q x z => jx_k_b2n (jx_fok (by decide +kernel : decode (jx_mb 100) 39 = .ok (.if_icmp .ne 11, 3))) rfl jx_hNe
  · exact fun d st M Q l1 l2 x => jx_ev_st (jx_fok (by decide +kernel : decode (jx_mb 100) 42 = .ok (.aload_n 0, 1))) rfl rfl rfl
  · exact fun d st M Q l0 l2 x => jx_ev_st (jx_fok (by decide +kernel : decode (jx_mb 100) 43 = .ok (.iload_n 1, 1))) rfl rfl rfl
  · exact fun d lv M Q a0 => jx_ev_ci (jx_fok (by decide +kernel : decode (jx_mb 100) 44 = .ok (.invokevirtual 145, 3))) rfl (jx_ccV (As := [.int a0]) (rest := []) rfl rfl rfl rfl rfl rfl) (by decide)
  · exact fun d lv st M Q => jx_k_goto (jx_fok (by decide +kernel : decode (jx_mb 100) 47 = .ok (.goto 5, 3))) rfl
  · exact fun d lv st M Q => jx_ev_st (jx_fok (by decide +kernel : decode (jx_mb 100) 50 = .ok (.bipush (-2), 2))) rfl rfl rfl
  · exact fun d lv M Q x => jx_k_ri (jx_fok (by decide +kernel : decode (jx_mb 100) 52 = .ok (.ireturn, 1))) rfl
theorem kX8_ofPerson (d : Nat) (M : jx_M) (q : Int32 → jx_M → Prop) (a0 a1 a2 : Value) : jx_I d 100 [a0, a1, a2] M q ↔ jx_Ev d 100 0 [some a0, some a1, some a2] [] M (jx_qI q) := Iff.rfl
set_option maxRecDepth 100000 in
theorem eX8_ofClap :
  (∀ (d : Nat) (st : List Value) (M : jx_M) (Q : jx_Po) (l1 l2 : Option Value) (x : Nat), jx_Ev d 101 0 [some (.ref x), l1, l2] st M Q ↔ jx_Ev d 101 1 [some (.ref x), l1, l2] (.ref x :: st) M Q) ∧
  (∀ (d : Nat) (st : List Value) (M : jx_M) (Q : jx_Po) (l0 l2 : Option Value) (x : Int32), jx_Ev d 101 1 [l0, some (.int x), l2] st M Q ↔ jx_Ev d 101 2 [l0, some (.int x), l2] (.int x :: st) M Q) ∧
  (∀ (d : Nat) (lv : List (Option Value)) (M : jx_M) (Q : jx_Po) (a0 : Int32), jx_Ev (d + 1) 101 2 lv [.int a0, .ref 36] M Q ↔ jx_I d 91 [.ref 36, .int a0] M (fun x M => jx_Ev (d + 1) 101 5 lv (.int x :: []) M Q)) ∧
  (∀ (d : Nat) (lv : List (Option Value)) (st : List Value) (M : jx_M) (Q : jx_Po) (x : Int32), jx_Ev d 101 5 lv (.int x :: st) M Q ↔ (if x = 0 then jx_Ev d 101 8 lv st M Q else jx_Ev d 101 10 lv st M Q)) ∧
  (∀ (d : Nat) (lv : List (Option Value)) (st : List Value) (M : jx_M) (Q : jx_Po), jx_Ev d 101 8 lv st M Q ↔ jx_Ev d 101 9 lv (.int (-1) :: st) M Q) ∧
  (∀ (d : Nat) (lv : List (Option Value)) (M : jx_M) (Q : jx_Po) (x : Int32), jx_Ev d 101 9 lv [.int x] M Q ↔ Q [.int x] M) ∧
  (∀ (d : Nat) (st : List Value) (M : jx_M) (Q : jx_Po) (l0 l1 : Option Value) (x : Int32), jx_Ev d 101 10 [l0, l1, some (.int x)] st M Q ↔ jx_Ev d 101 11 [l0, l1, some (.int x)] (.int x :: st) M Q) ∧
  (∀ (d : Nat) (lv : List (Option Value)) (st : List Value) (M : jx_M) (Q : jx_Po) (x : Int32), jx_Ev d 101 11 lv (.int x :: st) M Q ↔ (if x = 0 then jx_Ev d 101 14 lv st M Q else jx_Ev d 101 23 lv st M Q)) ∧
  (∀ (d : Nat) (st : List Value) (M : jx_M) (Q : jx_Po) (l1 l2 : Option Value) (x : Nat), jx_Ev d 101 14 [some (.ref x), l1, l2] st M Q ↔ jx_Ev d 101 15 [some (.ref x), l1, l2] (.ref x :: st) M Q) ∧
  (∀ (d : Nat) (lv : List (Option Value)) (st : List Value) (M : jx_M) (Q : jx_Po), jx_Ev d 101 15 lv (.ref 36 :: st) M Q ↔ jx_Ev d 101 18 lv (.ref 42 :: st) M Q) ∧
  (∀ (d : Nat) (st : List Value) (M : jx_M) (Q : jx_Po) (l0 l2 : Option Value) (x : Int32), jx_Ev d 101 18 [l0, some (.int x), l2] st M Q ↔ jx_Ev d 101 19 [l0, some (.int x), l2] (.int x :: st) M Q) ∧
  (∀ (d : Nat) (lv : List (Option Value)) (st : List Value) (M : jx_M) (Q : jx_Po) (x : Int32) (a : Nat) (ha : jx_cl a = 9), jx_Ev d 101 19 lv (.int x :: .ref a :: st) M Q ↔ (vp_in x (jx_sz a) ∧ jx_Ev d 101 20 lv (.int (M a x.toNatClampNeg) :: st) M Q)) ∧
  (∀ (d : Nat) (lv : List (Option Value)) (st : List Value) (M : jx_M) (Q : jx_Po), jx_Ev d 101 20 lv st M Q ↔ jx_Ev d 101 53 lv st M Q) ∧
  (∀ (d : Nat) (st : List Value) (M : jx_M) (Q : jx_Po) (l0 l1 : Option Value) (x : Int32), jx_Ev d 101 23 [l0, l1, some (.int x)] st M Q ↔ jx_Ev d 101 24 [l0, l1, some (.int x)] (.int x :: st) M Q) ∧
  (∀ (d : Nat) (lv : List (Option Value)) (st : List Value) (M : jx_M) (Q : jx_Po), jx_Ev d 101 24 lv st M Q ↔ jx_Ev d 101 25 lv (.int 1 :: st) M Q) ∧
  (∀ (d : Nat) (lv : List (Option Value)) (st : List Value) (M : jx_M) (Q : jx_Po) (x z : Int32), jx_Ev d 101 25 lv (.int z :: .int x :: st) M Q ↔ (if x = z then jx_Ev d 101 28 lv st M Q else jx_Ev d 101 37 lv st M Q)) ∧
  (∀ (d : Nat) (st : List Value) (M : jx_M) (Q : jx_Po) (l1 l2 : Option Value) (x : Nat), jx_Ev d 101 28 [some (.ref x), l1, l2] st M Q ↔ jx_Ev d 101 29 [some (.ref x), l1, l2] (.ref x :: st) M Q) ∧
  (∀ (d : Nat) (lv : List (Option Value)) (st : List Value) (M : jx_M) (Q : jx_Po), jx_Ev d 101 29 lv (.ref 36 :: st) M Q ↔ jx_Ev d 101 32 lv (.ref 43 :: st) M Q) ∧
  (∀ (d : Nat) (st : List Value) (M : jx_M) (Q : jx_Po) (l0 l2 : Option Value) (x : Int32), jx_Ev d 101 32 [l0, some (.int x), l2] st M Q ↔ jx_Ev d 101 33 [l0, some (.int x), l2] (.int x :: st) M Q) ∧
  (∀ (d : Nat) (lv : List (Option Value)) (st : List Value) (M : jx_M) (Q : jx_Po) (x : Int32) (a : Nat) (ha : jx_cl a = 9), jx_Ev d 101 33 lv (.int x :: .ref a :: st) M Q ↔ (vp_in x (jx_sz a) ∧ jx_Ev d 101 34 lv (.int (M a x.toNatClampNeg) :: st) M Q)) ∧
  (∀ (d : Nat) (lv : List (Option Value)) (st : List Value) (M : jx_M) (Q : jx_Po), jx_Ev d 101 34 lv st M Q ↔ jx_Ev d 101 53 lv st M Q) ∧
  (∀ (d : Nat) (st : List Value) (M : jx_M) (Q : jx_Po) (l0 l1 : Option Value) (x : Int32), jx_Ev d 101 37 [l0, l1, some (.int x)] st M Q ↔ jx_Ev d 101 38 [l0, l1, some (.int x)] (.int x :: st) M Q) ∧
  (∀ (d : Nat) (lv : List (Option Value)) (st : List Value) (M : jx_M) (Q : jx_Po), jx_Ev d 101 38 lv st M Q ↔ jx_Ev d 101 39 lv (.int 2 :: st) M Q) ∧
  (∀ (d : Nat) (lv : List (Option Value)) (st : List Value) (M : jx_M) (Q : jx_Po) (x z : Int32), jx_Ev d 101 39 lv (.int z :: .int x :: st) M Q ↔ (if x = z then jx_Ev d 101 42 lv st M Q else jx_Ev d 101 51 lv st M Q)) ∧
  (∀ (d : Nat) (st : List Value) (M : jx_M) (Q : jx_Po) (l1 l2 : Option Value) (x : Nat), jx_Ev d 101 42 [some (.ref x), l1, l2] st M Q ↔ jx_Ev d 101 43 [some (.ref x), l1, l2] (.ref x :: st) M Q) ∧
  (∀ (d : Nat) (lv : List (Option Value)) (st : List Value) (M : jx_M) (Q : jx_Po), jx_Ev d 101 43 lv (.ref 36 :: st) M Q ↔ jx_Ev d 101 46 lv (.ref 44 :: st) M Q) ∧
  (∀ (d : Nat) (st : List Value) (M : jx_M) (Q : jx_Po) (l0 l2 : Option Value) (x : Int32), jx_Ev d 101 46 [l0, some (.int x), l2] st M Q ↔ jx_Ev d 101 47 [l0, some (.int x), l2] (.int x :: st) M Q) ∧
  (∀ (d : Nat) (lv : List (Option Value)) (st : List Value) (M : jx_M) (Q : jx_Po) (x : Int32) (a : Nat) (ha : jx_cl a = 9), jx_Ev d 101 47 lv (.int x :: .ref a :: st) M Q ↔ (vp_in x (jx_sz a) ∧ jx_Ev d 101 48 lv (.int (M a x.toNatClampNeg) :: st) M Q)) ∧
  (∀ (d : Nat) (lv : List (Option Value)) (st : List Value) (M : jx_M) (Q : jx_Po), jx_Ev d 101 48 lv st M Q ↔ jx_Ev d 101 53 lv st M Q) ∧
  (∀ (d : Nat) (lv : List (Option Value)) (st : List Value) (M : jx_M) (Q : jx_Po), jx_Ev d 101 51 lv st M Q ↔ jx_Ev d 101 53 lv (.int (-2) :: st) M Q) ∧
  (∀ (d : Nat) (lv : List (Option Value)) (M : jx_M) (Q : jx_Po) (x : Int32), jx_Ev d 101 53 lv [.int x] M Q ↔ Q [.int x] M) := by
  refine ⟨?_, ?_, ?_, ?_, ?_, ?_, ?_, ?_, ?_, ?_, ?_, ?_, ?_, ?_, ?_, ?_, ?_, ?_, ?_, ?_, ?_, ?_, ?_, ?_, ?_, ?_, ?_, ?_, ?_, ?_, ?_⟩
  · exact fun d st M Q l1 l2 x => jx_ev_st (jx_fok (by decide +kernel : decode (jx_mb 101) 0 = .ok (.aload_n 0, 1))) rfl rfl rfl
  · exact fun d st M Q l0 l2 x => jx_ev_st (jx_fok (by decide +kernel : decode (jx_mb 101) 1 = .ok (.iload_n 1, 1))) rfl rfl rfl
  · exact fun d lv M Q a0 => jx_ev_ci (jx_fok (by decide +kernel : decode (jx_mb 101) 2 = .ok (.invokevirtual 148, 3))) rfl (jx_ccV (As := [.int a0]) (rest := []) rfl rfl rfl rfl rfl rfl) (by decide)
  · exact fun d lv st M Q x => jx_k_b1n (jx_fok (by decide +kernel : decode (jx_mb 101) 5 = .ok (.ifCond .ne 5, 3))) rfl jx_hNe
  · exact fun d lv st M Q => jx_ev_st (jx_fok (by decide +kernel : decode (jx_mb 101) 8 = .ok (.iconst (-1), 1))) rfl rfl rfl
  · exact fun d lv M Q x => jx_k_ri (jx_fok (by decide +kernel : decode (jx_mb 101) 9 = .ok (.ireturn, 1))) rfl
  · exact fun d st M Q l0 l1 x => jx_ev_st (jx_fok (by decide +kernel : decode (jx_mb 101) 10 = .ok (.iload_n 2, 1))) rfl rfl rfl
  · exact fun d lv st M Q x => jx_k_b1n (jx_fok (by decide +kernel : decode (jx_mb 101) 11 = .ok (.ifCond .ne 12, 3))) rfl jx_hNe
  · exact fun d st M Q l1 l2 x => jx_ev_st (jx_fok (by decide +kernel : decode (jx_mb 101) 14 = .ok (.aload_n 0, 1))) rfl rfl rfl
  · exact fun d lv st M Q => jx_k_gf (jx_fok (by decide +kernel : decode (jx_mb 101) 15 = .ok (.getfield 25, 3))) rfl rfl rfl
  · exact fun d st M Q l0 l2 x => jx_ev_st (jx_fok (by decide +kernel : decode (jx_mb 101) 18 = .ok (.iload_n 1, 1))) rfl rfl rfl
  · exact fun d lv st M Q x a ha => jx_k_al (jx_fok (by decide +kernel : decode (jx_mb 101) 19 = .ok (.iaload, 1))) ha
  · exact fun d lv st M Q => jx_k_goto (jx_fok (by decide +kernel : decode (jx_mb 101) 20 = .ok (.goto 33, 3))) rfl
  · exact fun d st M Q l0 l1 x => jx_ev_st (jx_fok (by decide +kernel : decode (jx_mb 101) 23 = .ok (.iload_n 2, 1))) rfl rfl rfl
  · exact fun d lv st M Q => jx_ev_st (jx_fok (by decide +kernel : decode (jx_mb 101) 24 = .ok (.iconst 1, 1))) rfl rfl rfl
  · exact fun d lv st M Q x z => jx_k_b2n (jx_fok (by decide +kernel : decode (jx_mb 101) 25 = .ok (.if_icmp .ne 12, 3))) rfl jx_hNe
  · exact fun d st M Q l1 l2 x => jx_ev_st (jx_fok (by decide +kernel : decode (jx_mb 101) 28 = .ok (.aload_n 0, 1))) rfl rfl rfl
  · exact fun d lv st M Q => jx_k_gf (jx_fok (by decide +kernel : decode (jx_mb 101) 29 = .ok (.getfield 28, 3))) rfl rfl rfl
  · exact fun d st M Q l0 l2 x => jx_ev_st (jx_fok (by decide +kernel : decode (jx_mb 101) 32 = .ok (.iload_n 1, 1))) rfl rfl rfl
  · exact fun d lv st M Q x a ha => jx_k_al (jx_fok (by decide +kernel : decode (jx_mb 101) 33 = .ok (.iaload, 1))) ha
  · exact fun d lv st M Q => jx_k_goto (jx_fok (by decide +kernel : decode (jx_mb 101) 34 = .ok (.goto 19, 3))) rfl
  · exact fun d st M Q l0 l1 x => jx_ev_st (jx_fok (by decide +kernel : decode (jx_mb 101) 37 = .ok (.iload_n 2, 1))) rfl rfl rfl
  · exact fun d lv st M Q => jx_ev_st (jx_fok (by decide +kernel : decode (jx_mb 101) 38 = .ok (.iconst 2, 1))) rfl rfl rfl
  · exact fun d lv st M Q x z => jx_k_b2n (jx_fok (by decide +kernel : decode (jx_mb 101) 39 = .ok (.if_icmp .ne 12, 3))) rfl jx_hNe
  · exact fun d st M Q l1 l2 x => jx_ev_st (jx_fok (by decide +kernel : decode (jx_mb 101) 42 = .ok (.aload_n 0, 1))) rfl rfl rfl
  · exact fun d lv st M Q => jx_k_gf (jx_fok (by decide +kernel : decode (jx_mb 101) 43 = .ok (.getfield 31, 3))) rfl rfl rfl
  · exact fun d st M Q l0 l2 x => jx_ev_st (jx_fok (by decide +kernel : decode (jx_mb 101) 46 = .ok (.iload_n 1, 1))) rfl rfl rfl
  · exact fun d lv st M Q x a ha => jx_k_al (jx_fok (by decide +kernel : decode (jx_mb 101) 47 = .ok (.iaload, 1))) ha
  · exact fun d lv st M Q => jx_k_goto (jx_fok (by decide +kernel : decode (jx_mb 101) 48 = .ok (.goto 5, 3))) rfl
  · exact fun d lv st M Q => jx_ev_st (jx_fok (by decide +kernel : decode (jx_mb 101) 51 = .ok (.bipush (-2), 2))) rfl rfl rfl
  · exact fun d lv M Q x => jx_k_ri (jx_fok (by decide +kernel : decode (jx_mb 101) 53 = .ok (.ireturn, 1))) rfl
theorem kX8_ofClap (d : Nat) (M : jx_M) (q : Int32 → jx_M → Prop) (a0 a1 a2 : Value) : jx_I d 101 [a0, a1, a2] M q ↔ jx_Ev d 101 0 [some a0, some a1, some a2] [] M (jx_qI q) := Iff.rfl
set_option maxRecDepth 100000 in
theorem eX8_nerve :
  (∀ (d : Nat) (st : List Value) (M : jx_M) (Q : jx_Po) (l1 l2 l3 : Option Value) (x : Nat), jx_Ev d 102 0 [some (.ref x), l1, l2, l3] st M Q ↔ jx_Ev d 102 1 [some (.ref x), l1, l2, l3] (.ref x :: st) M Q) ∧
  (∀ (d : Nat) (st : List Value) (M : jx_M) (Q : jx_Po) (l0 l2 l3 : Option Value) (x : Int32), jx_Ev d 102 1 [l0, some (.int x), l2, l3] st M Q ↔ jx_Ev d 102 2 [l0, some (.int x), l2, l3] (.int x :: st) M Q) ∧
  (∀ (d : Nat) (lv : List (Option Value)) (M : jx_M) (Q : jx_Po) (a0 : Int32), jx_Ev (d + 1) 102 2 lv [.int a0, .ref 36] M Q ↔ jx_I d 90 [.ref 36, .int a0] M (fun x M => jx_Ev (d + 1) 102 5 lv (.int x :: []) M Q)) ∧
  (∀ (d : Nat) (lv : List (Option Value)) (st : List Value) (M : jx_M) (Q : jx_Po) (x : Int32), jx_Ev d 102 5 lv (.int x :: st) M Q ↔ (if x = 0 then jx_Ev d 102 8 lv st M Q else jx_Ev d 102 10 lv st M Q)) ∧
  (∀ (d : Nat) (lv : List (Option Value)) (st : List Value) (M : jx_M) (Q : jx_Po), jx_Ev d 102 8 lv st M Q ↔ jx_Ev d 102 9 lv (.int (-1) :: st) M Q) ∧
  (∀ (d : Nat) (lv : List (Option Value)) (M : jx_M) (Q : jx_Po) (x : Int32), jx_Ev d 102 9 lv [.int x] M Q ↔ Q [.int x] M) ∧
  (∀ (d : Nat) (st : List Value) (M : jx_M) (Q : jx_Po) (l0 l1 l3 : Option Value) (x : Int32), jx_Ev d 102 10 [l0, l1, some (.int x), l3] st M Q ↔ jx_Ev d 102 11 [l0, l1, some (.int x), l3] (.int x :: st) M Q) ∧
  (∀ (d : Nat) (lv : List (Option Value)) (st : List Value) (M : jx_M) (Q : jx_Po), jx_Ev d 102 11 lv st M Q ↔ jx_Ev d 102 12 lv (.int 0 :: st) M Q) ∧
  (∀ (d : Nat) (lv : List (Option Value)) (st : List Value) (M : jx_M) (Q : jx_Po), jx_Ev d 102 12 lv st M Q ↔ jx_Ev d 102 14 lv (.int 9 :: st) M Q) ∧
  (∀ (d : Nat) (lv : List (Option Value)) (M : jx_M) (Q : jx_Po) (a0 : Int32) (a1 : Int32) (a2 : Int32), jx_Ev (d + 1) 102 14 lv [.int a0, .int a1, .int a2] M Q ↔ jx_I d 86 [.int a2, .int a1, .int a0] M (fun x M => jx_Ev (d + 1) 102 17 lv (.int x :: []) M Q)) ∧
  (∀ (d : Nat) (lv : List (Option Value)) (st : List Value) (M : jx_M) (Q : jx_Po) (x : Int32), jx_Ev d 102 17 lv (.int x :: st) M Q ↔ (if x = 0 then jx_Ev d 102 20 lv st M Q else jx_Ev d 102 23 lv st M Q)) ∧
  (∀ (d : Nat) (lv : List (Option Value)) (st : List Value) (M : jx_M) (Q : jx_Po), jx_Ev d 102 20 lv st M Q ↔ jx_Ev d 102 22 lv (.int (-2) :: st) M Q) ∧
  (∀ (d : Nat) (lv : List (Option Value)) (M : jx_M) (Q : jx_Po) (x : Int32), jx_Ev d 102 22 lv [.int x] M Q ↔ Q [.int x] M) ∧
  (∀ (d : Nat) (st : List Value) (M : jx_M) (Q : jx_Po) (l1 l2 l3 : Option Value) (x : Nat), jx_Ev d 102 23 [some (.ref x), l1, l2, l3] st M Q ↔ jx_Ev d 102 24 [some (.ref x), l1, l2, l3] (.ref x :: st) M Q) ∧
  (∀ (d : Nat) (lv : List (Option Value)) (st : List Value) (M : jx_M) (Q : jx_Po), jx_Ev d 102 24 lv (.ref 36 :: st) M Q ↔ jx_Ev d 102 27 lv (.ref 40 :: st) M Q) ∧
  (∀ (d : Nat) (st : List Value) (M : jx_M) (Q : jx_Po) (l0 l2 l3 : Option Value) (x : Int32), jx_Ev d 102 27 [l0, some (.int x), l2, l3] st M Q ↔ jx_Ev d 102 28 [l0, some (.int x), l2, l3] (.int x :: st) M Q) ∧
  (∀ (d : Nat) (lv : List (Option Value)) (st : List Value) (M : jx_M) (Q : jx_Po) (x : Int32) (a : Nat) (ha : jx_cl a = 9), jx_Ev d 102 28 lv (.int x :: .ref a :: st) M Q ↔ (vp_in x (jx_sz a) ∧ jx_Ev d 102 29 lv (.int (M a x.toNatClampNeg) :: st) M Q)) ∧
  (∀ (d : Nat) (st : List Value) (M : jx_M) (Q : jx_Po) (l0 l1 l2 l3 : Option Value) (x : Int32), jx_Ev d 102 29 [l0, l1, l2, l3] (.int x :: st) M Q ↔ jx_Ev d 102 30 [l0, l1, l2, some (.int x)] st M Q) ∧
  (∀ (d : Nat) (st : List Value) (M : jx_M) (Q : jx_Po) (l1 l2 l3 : Option Value) (x : Nat), jx_Ev d 102 30 [some (.ref x), l1, l2, l3] st M Q ↔ jx_Ev d 102 31 [some (.ref x), l1, l2, l3] (.ref x :: st) M Q) ∧
  (∀ (d : Nat) (lv : List (Option Value)) (st : List Value) (M : jx_M) (Q : jx_Po), jx_Ev d 102 31 lv (.ref 36 :: st) M Q ↔ jx_Ev d 102 34 lv (.ref 40 :: st) M Q) ∧
  (∀ (d : Nat) (st : List Value) (M : jx_M) (Q : jx_Po) (l0 l2 l3 : Option Value) (x : Int32), jx_Ev d 102 34 [l0, some (.int x), l2, l3] st M Q ↔ jx_Ev d 102 35 [l0, some (.int x), l2, l3] (.int x :: st) M Q) ∧
  (∀ (d : Nat) (st : List Value) (M : jx_M) (Q : jx_Po) (l0 l1 l3 : Option Value) (x : Int32), jx_Ev d 102 35 [l0, l1, some (.int x), l3] st M Q ↔ jx_Ev d 102 36 [l0, l1, some (.int x), l3] (.int x :: st) M Q) ∧
  (∀ (d : Nat) (lv : List (Option Value)) (st : List Value) (M : jx_M) (Q : jx_Po) (x z : Int32) (a : Nat) (ha : jx_cl a = 9), jx_Ev d 102 36 lv (.int z :: .int x :: .ref a :: st) M Q ↔ (vp_in x (jx_sz a) ∧ jx_Ev d 102 37 lv st (jx_up M a x.toNatClampNeg z) Q)) ∧
  (∀ (d : Nat) (st : List Value) (M : jx_M) (Q : jx_Po) (l0 l1 l2 : Option Value) (x : Int32), jx_Ev d 102 37 [l0, l1, l2, some (.int x)] st M Q ↔ jx_Ev d 102 38 [l0, l1, l2, some (.int x)] (.int x :: st) M Q) ∧
  (∀ (d : Nat) (lv : List (Option Value)) (M : jx_M) (Q : jx_Po) (x : Int32), jx_Ev d 102 38 lv [.int x] M Q ↔ Q [.int x] M) := by
  refine ⟨?_, ?_, ?_, ?_, ?_, ?_, ?_, ?_, ?_, ?_, ?_, ?_, ?_, ?_, ?_, ?_, ?_, ?_, ?_, ?_, ?_, ?_, ?_, ?_, ?_⟩
  · exact fun d st M Q l1 l2 l3 x => jx_ev_st (jx_fok (by decide +kernel : decode (jx_mb 102) 0 = .ok (.aload_n 0, 1))) rfl rfl rfl
  · exact fun d st M Q l0 l2 l3 x => jx_ev_st (jx_fok (by decide +kernel : decode (jx_mb 102) 1 = .ok (.iload_n 1, 1))) rfl rfl rfl
  · exact fun d lv M Q a0 => jx_ev_ci (jx_fok (by decide +kernel : decode (jx_mb 102) 2 = .ok (.invokevirtual 142, 3))) rfl (jx_ccV (As := [.int a0]) (rest := []) rfl rfl rfl rfl rfl rfl) (by decide)
  · exact fun d lv st M Q x => jx_k_b1n (jx_fok (by decide +kernel : decode (jx_mb 102) 5 = .ok (.ifCond .ne 5, 3))) rfl jx_hNe
  · exact fun d lv st M Q => jx_ev_st (jx_fok (by decide +kernel : decode (jx_mb 102) 8 = .ok (.iconst (-1), 1))) rfl rfl rfl
  · exact fun d lv M Q x => jx_k_ri (jx_fok (by decide +kernel : decode (jx_mb 102) 9 = .ok (.ireturn, 1))) rfl
  · exact fun d st M Q l0 l1 l3 x => jx_ev_st (jx_fok (by decide +kernel : decode (jx_mb 102) 10 = .ok (.iload_n 2, 1))) rfl rfl rfl
  · exact fun d lv st M Q => jx_ev_st (jx_fok (by decide +kernel : decode (jx_mb 102) 11 = .ok (.iconst 0, 1))) rfl rfl rfl
  · exact fun d lv st M Q => jx_ev_st (jx_fok (by decide +kernel : decode (jx_mb 102) 12 = .ok (.bipush 9, 2))) rfl rfl rfl
  · exact fun d lv M Q a0 a1 a2 => jx_ev_ci (jx_fok (by decide +kernel : decode (jx_mb 102) 14 = .ok (.invokestatic 73, 3))) rfl (jx_ccS (As := [.int a2, .int a1, .int a0]) (rest := []) rfl rfl rfl rfl rfl) (by decide)
  · exact fun d lv st M Q x => jx_k_b1n (jx_fok (by decide +kernel : decode (jx_mb 102) 17 = .ok (.ifCond .ne 6, 3))) rfl jx_hNe
  · exact fun d lv st M Q => jx_ev_st (jx_fok (by decide +kernel : decode (jx_mb 102) 20 = .ok (.bipush (-2), 2))) rfl rfl rfl
  · exact fun d lv M Q x => jx_k_ri (jx_fok (by decide +kernel : decode (jx_mb 102) 22 = .ok (.ireturn, 1))) rfl
  · exact fun d st M Q l1 l2 l3 x => jx_ev_st (jx_fok (by decide +kernel : decode (jx_mb 102) 23 = .ok (.aload_n 0, 1))) rfl rfl rfl
  · exact fun d lv st M Q => jx_k_gf (jx_fok (by decide +kernel : decode (jx_mb 102) 24 = .ok (.getfield 19, 3))) rfl rfl rfl
  · exact fun d st M Q l0 l2 l3 x => jx_ev_st (jx_fok (by decide +kernel : decode (jx_mb 102) 27 = .ok (.iload_n 1, 1))) rfl rfl rfl
  · exact fun d lv st M Q x a ha => jx_k_al (jx_fok (by decide +kernel : decode (jx_mb 102) 28 = .ok (.iaload, 1))) ha
  · exact fun d st M Q l0 l1 l2 l3 x => jx_ev_st (jx_fok (by decide +kernel : decode (jx_mb 102) 29 = .ok (.istore_n 3, 1))) rfl rfl rfl
  · exact fun d st M Q l1 l2 l3 x => jx_ev_st (jx_fok (by decide +kernel : decode (jx_mb 102) 30 = .ok (.aload_n 0, 1))) rfl rfl rfl
  · exact fun d lv st M Q => jx_k_gf (jx_fok (by decide +kernel : decode (jx_mb 102) 31 = .ok (.getfield 19, 3))) rfl rfl rfl
  · exact fun d st M Q l0 l2 l3 x => jx_ev_st (jx_fok (by decide +kernel : decode (jx_mb 102) 34 = .ok (.iload_n 1, 1))) rfl rfl rfl
  · exact fun d st M Q l0 l1 l3 x => jx_ev_st (jx_fok (by decide +kernel : decode (jx_mb 102) 35 = .ok (.iload_n 2, 1))) rfl rfl rfl
  · exact fun d lv st M Q x z a ha => jx_k_as (jx_fok (by decide +kernel : decode (jx_mb 102) 36 = .ok (.iastore, 1))) ha
  · exact fun d st M Q l0 l1 l2 x => jx_ev_st (jx_fok (by decide +kernel : decode (jx_mb 102) 37 = .ok (.iload_n 3, 1))) rfl rfl rfl
  · exact fun d lv M Q x => jx_k_ri (jx_fok (by decide +kernel : decode (jx_mb 102) 38 = .ok (.ireturn, 1))) rfl
theorem kX8_nerve (d : Nat) (M : jx_M) (q : Int32 → jx_M → Prop) (a0 a1 a2 : Value) : jx_I d 102 [a0, a1, a2] M q ↔ jx_Ev d 102 0 [some a0, some a1, some a2, none] [] M (jx_qI q) := Iff.rfl
set_option maxRecDepth 100000 in
theorem eX8_damp :
  (∀ (d : Nat) (st : List Value) (M : jx_M) (Q : jx_Po) (l0 l2 : Option Value) (x : Int32), jx_Ev d 103 0 [l0, some (.int x), l2] st M Q ↔ jx_Ev d 103 1 [l0, some (.int x), l2] (.int x :: st) M Q) ∧
  (∀ (d : Nat) (lv : List (Option Value)) (st : List Value) (M : jx_M) (Q : jx_Po), jx_Ev d 103 1 lv st M Q ↔ jx_Ev d 103 2 lv (.int 0 :: st) M Q) ∧
  (∀ (d : Nat) (lv : List (Option Value)) (st : List Value) (M : jx_M) (Q : jx_Po), jx_Ev d 103 2 lv st M Q ↔ jx_Ev d 103 3 lv (.int 3 :: st) M Q) ∧
  (∀ (d : Nat) (lv : List (Option Value)) (M : jx_M) (Q : jx_Po) (a0 : Int32) (a1 : Int32) (a2 : Int32), jx_Ev (d + 1) 103 3 lv [.int a0, .int a1, .int a2] M Q ↔ jx_I d 86 [.int a2, .int a1, .int a0] M (fun x M => jx_Ev (d + 1) 103 6 lv (.int x :: []) M Q)) ∧
  (∀ (d : Nat) (lv : List (Option Value)) (st : List Value) (M : jx_M) (Q : jx_Po) (x : Int32), jx_Ev d 103 6 lv (.int x :: st) M Q ↔ (if x = 0 then jx_Ev d 103 9 lv st M Q else jx_Ev d 103 12 lv st M Q)) ∧
  (∀ (d : Nat) (lv : List (Option Value)) (st : List Value) (M : jx_M) (Q : jx_Po), jx_Ev d 103 9 lv st M Q ↔ jx_Ev d 103 11 lv (.int (-2) :: st) M Q) ∧
  (∀ (d : Nat) (lv : List (Option Value)) (M : jx_M) (Q : jx_Po) (x : Int32), jx_Ev d 103 11 lv [.int x] M Q ↔ Q [.int x] M) ∧
  (∀ (d : Nat) (st : List Value) (M : jx_M) (Q : jx_Po) (l1 l2 : Option Value) (x : Nat), jx_Ev d 103 12 [some (.ref x), l1, l2] st M Q ↔ jx_Ev d 103 13 [some (.ref x), l1, l2] (.ref x :: st) M Q) ∧
  (∀ (d : Nat) (lv : List (Option Value)) (st : List Value) (M : jx_M) (Q : jx_Po), jx_Ev d 103 13 lv (.ref 36 :: st) M Q ↔ jx_Ev d 103 16 lv (.int (M 36 6) :: st) M Q) ∧
  (∀ (d : Nat) (lv : List (Option Value)) (st : List Value) (M : jx_M) (Q : jx_Po) (x : Int32), jx_Ev d 103 16 lv (.int x :: st) M Q ↔ (if x = 0 then jx_Ev d 103 19 lv st M Q else jx_Ev d 103 22 lv st M Q)) ∧
  (∀ (d : Nat) (lv : List (Option Value)) (st : List Value) (M : jx_M) (Q : jx_Po), jx_Ev d 103 19 lv st M Q ↔ jx_Ev d 103 21 lv (.int (-3) :: st) M Q) ∧
  (∀ (d : Nat) (lv : List (Option Value)) (M : jx_M) (Q : jx_Po) (x : Int32), jx_Ev d 103 21 lv [.int x] M Q ↔ Q [.int x] M) ∧
  (∀ (d : Nat) (st : List Value) (M : jx_M) (Q : jx_Po) (l1 l2 : Option Value) (x : Nat), jx_Ev d 103 22 [some (.ref x), l1, l2] st M Q ↔ jx_Ev d 103 23 [some (.ref x), l1, l2] (.ref x :: st) M Q) ∧
  (∀ (d : Nat) (lv : List (Option Value)) (st : List Value) (M : jx_M) (Q : jx_Po), jx_Ev d 103 23 lv (.ref 36 :: st) M Q ↔ jx_Ev d 103 26 lv (.int (M 36 7) :: st) M Q) ∧
  (∀ (d : Nat) (st : List Value) (M : jx_M) (Q : jx_Po) (l0 l1 l2 : Option Value) (x : Int32), jx_Ev d 103 26 [l0, l1, l2] (.int x :: st) M Q ↔ jx_Ev d 103 27 [l0, l1, some (.int x)] st M Q) ∧
  (∀ (d : Nat) (st : List Value) (M : jx_M) (Q : jx_Po) (l1 l2 : Option Value) (x : Nat), jx_Ev d 103 27 [some (.ref x), l1, l2] st M Q ↔ jx_Ev d 103 28 [some (.ref x), l1, l2] (.ref x :: st) M Q) ∧
  (∀ (d : Nat) (st : List Value) (M : jx_M) (Q : jx_Po) (l0 l2 : Option Value) (x : Int32), jx_Ev d 103 28 [l0, some (.int x), l2] st M Q ↔ jx_Ev d 103 29 [l0, some (.int x), l2] (.int x :: st) M Q) ∧
  (∀ (d : Nat) (lv : List (Option Value)) (st : List Value) (M : jx_M) (Q : jx_Po) (x : Int32), jx_Ev d 103 29 lv (.int x :: .ref 36 :: st) M Q ↔ jx_Ev d 103 32 lv st (jx_up M 36 7 x) Q) ∧
  (∀ (d : Nat) (st : List Value) (M : jx_M) (Q : jx_Po) (l0 l1 : Option Value) (x : Int32), jx_Ev d 103 32 [l0, l1, some (.int x)] st M Q ↔ jx_Ev d 103 33 [l0, l1, some (.int x)] (.int x :: st) M Q) ∧
  (∀ (d : Nat) (lv : List (Option Value)) (M : jx_M) (Q : jx_Po) (x : Int32), jx_Ev d 103 33 lv [.int x] M Q ↔ Q [.int x] M) := by
  refine ⟨?_, ?_, ?_, ?_, ?_, ?_, ?_, ?_, ?_, ?_, ?_, ?_, ?_, ?_, ?_, ?_, ?_, ?_, ?_, ?_⟩
  · exact fun d st M Q l0 l2 x => jx_ev_st (jx_fok (by decide +kernel : decode (jx_mb 103) 0 = .ok (.iload_n 1, 1))) rfl rfl rfl
  · exact fun d lv st M Q => jx_ev_st (jx_fok (by decide +kernel : decode (jx_mb 103) 1 = .ok (.iconst 0, 1))) rfl rfl rfl
  · exact fun d lv st M Q => jx_ev_st (jx_fok (by decide +kernel : decode (jx_mb 103) 2 = .ok (.iconst 3, 1))) rfl rfl rfl
  · exact fun d lv M Q a0 a1 a2 => jx_ev_ci (jx_fok (by decide +kernel : decode (jx_mb 103) 3 = .ok (.invokestatic 73, 3))) rfl (jx_ccS (As := [.int a2, .int a1, .int a0]) (rest := []) rfl rfl rfl rfl rfl) (by decide)
  · exact fun d lv st M Q x => jx_k_b1n (jx_fok (by decide +kernel : decode (jx_mb 103) 6 = .ok (.ifCond .ne 6, 3))) rfl jx_hNe
  · exact fun d lv st M Q => jx_ev_st (jx_fok (by decide +kernel : decode (jx_mb 103) 9 = .ok (.bipush (-2), 2))) rfl rfl rfl
  · exact fun d lv M Q x => jx_k_ri (jx_fok (by decide +kernel : decode (jx_mb 103) 11 = .ok (.ireturn, 1))) rfl
  · exact fun d st M Q l1 l2 x => jx_ev_st (jx_fok (by decide +kernel : decode (jx_mb 103) 12 = .ok (.aload_n 0, 1))) rfl rfl rfl
  · exact fun d lv st M Q => jx_k_gf (jx_fok (by decide +kernel : decode (jx_mb 103) 13 = .ok (.getfield 80, 3))) rfl rfl rfl
  · exact fun d lv st M Q x => jx_k_b1n (jx_fok (by decide +kernel : decode (jx_mb 103) 16 = .ok (.ifCond .ne 6, 3))) rfl jx_hNe
  · exact fun d lv st M Q => jx_ev_st (jx_fok (by decide +kernel : decode (jx_mb 103) 19 = .ok (.bipush (-3), 2))) rfl rfl rfl
  · exact fun d lv M Q x => jx_k_ri (jx_fok (by decide +kernel : decode (jx_mb 103) 21 = .ok (.ireturn, 1))) rfl
  · exact fun d st M Q l1 l2 x => jx_ev_st (jx_fok (by decide +kernel : decode (jx_mb 103) 22 = .ok (.aload_n 0, 1))) rfl rfl rfl
  · exact fun d lv st M Q => jx_k_gf (jx_fok (by decide +kernel : decode (jx_mb 103) 23 = .ok (.getfield 110, 3))) rfl rfl rfl
  · exact fun d st M Q l0 l1 l2 x => jx_ev_st (jx_fok (by decide +kernel : decode (jx_mb 103) 26 = .ok (.istore_n 2, 1))) rfl rfl rfl
  · exact fun d st M Q l1 l2 x => jx_ev_st (jx_fok (by decide +kernel : decode (jx_mb 103) 27 = .ok (.aload_n 0, 1))) rfl rfl rfl
  · exact fun d st M Q l0 l2 x => jx_ev_st (jx_fok (by decide +kernel : decode (jx_mb 103) 28 = .ok (.iload_n 1, 1))) rfl rfl rfl
  · exact fun d lv st M Q x => jx_k_pf0 (jx_fok (by decide +kernel : decode (jx_mb 103) 29 = .ok (.putfield 110, 3))) rfl rfl rfl
  · exact fun d st M Q l0 l1 x => jx_ev_st (jx_fok (by decide +kernel : decode (jx_mb 103) 32 = .ok (.iload_n 2, 1))) rfl rfl rfl
  · exact fun d lv M Q x => jx_k_ri (jx_fok (by decide +kernel : decode (jx_mb 103) 33 = .ok (.ireturn, 1))) rfl
theorem kX8_damp (d : Nat) (M : jx_M) (q : Int32 → jx_M → Prop) (a0 a1 : Value) : jx_I d 103 [a0, a1] M q ↔ jx_Ev d 103 0 [some a0, some a1, none] [] M (jx_qI q) := Iff.rfl
set_option maxRecDepth 100000 in
theorem eX8_send :
  (∀ (d : Nat) (st : List Value) (M : jx_M) (Q : jx_Po) (l1 l2 l3 : Option Value) (x : Nat), jx_Ev d 104 0 [some (.ref x), l1, l2, l3] st M Q ↔ jx_Ev d 104 1 [some (.ref x), l1, l2, l3] (.ref x :: st) M Q) ∧
  (∀ (d : Nat) (st : List Value) (M : jx_M) (Q : jx_Po) (l0 l2 l3 : Option Value) (x : Int32), jx_Ev d 104 1 [l0, some (.int x), l2, l3] st M Q ↔ jx_Ev d 104 2 [l0, some (.int x), l2, l3] (.int x :: st) M Q) ∧
  (∀ (d : Nat) (lv : List (Option Value)) (M : jx_M) (Q : jx_Po) (a0 : Int32), jx_Ev (d + 1) 104 2 lv [.int a0, .ref 36] M Q ↔ jx_I d 91 [.ref 36, .int a0] M (fun x M => jx_Ev (d + 1) 104 5 lv (.int x :: []) M Q)) ∧
  (∀ (d : Nat) (lv : List (Option Value)) (st : List Value) (M : jx_M) (Q : jx_Po) (x : Int32), jx_Ev d 104 5 lv (.int x :: st) M Q ↔ (if x = 0 then jx_Ev d 104 16 lv st M Q else jx_Ev d 104 8 lv st M Q)) ∧
  (∀ (d : Nat) (st : List Value) (M : jx_M) (Q : jx_Po) (l1 l2 l3 : Option Value) (x : Nat), jx_Ev d 104 8 [some (.ref x), l1, l2, l3] st M Q ↔ jx_Ev d 104 9 [some (.ref x), l1, l2, l3] (.ref x :: st) M Q) ∧
  (∀ (d : Nat) (st : List Value) (M : jx_M) (Q : jx_Po) (l0 l1 l3 : Option Value) (x : Int32), jx_Ev d 104 9 [l0, l1, some (.int x), l3] st M Q ↔ jx_Ev d 104 10 [l0, l1, some (.int x), l3] (.int x :: st) M Q) ∧
  (∀ (d : Nat) (lv : List (Option Value)) (M : jx_M) (Q : jx_Po) (a0 : Int32), jx_Ev (d + 1) 104 10 lv [.int a0, .ref 36] M Q ↔ jx_I d 90 [.ref 36, .int a0] M (fun x M => jx_Ev (d + 1) 104 13 lv (.int x :: []) M Q)) ∧
  (∀ (d : Nat) (lv : List (Option Value)) (st : List Value) (M : jx_M) (Q : jx_Po) (x : Int32), jx_Ev d 104 13 lv (.int x :: st) M Q ↔ (if x = 0 then jx_Ev d 104 16 lv st M Q else jx_Ev d 104 18 lv st M Q)) ∧
  (∀ (d : Nat) (lv : List (Option Value)) (st : List Value) (M : jx_M) (Q : jx_Po), jx_Ev d 104 16 lv st M Q ↔ jx_Ev d 104 17 lv (.int (-1) :: st) M Q) ∧
  (∀ (d : Nat) (lv : List (Option Value)) (M : jx_M) (Q : jx_Po) (x : Int32), jx_Ev d 104 17 lv [.int x] M Q ↔ Q [.int x] M) ∧
  (∀ (d : Nat) (st : List Value) (M : jx_M) (Q : jx_Po) (l1 l2 l3 : Option Value) (x : Nat), jx_Ev d 104 18 [some (.ref x), l1, l2, l3] st M Q ↔ jx_Ev d 104 19 [some (.ref x), l1, l2, l3] (.ref x :: st) M Q) ∧
  (∀ (d : Nat) (lv : List (Option Value)) (st : List Value) (M : jx_M) (Q : jx_Po), jx_Ev d 104 19 lv (.ref 36 :: st) M Q ↔ jx_Ev d 104 22 lv (.ref 44 :: st) M Q) ∧
  (∀ (d : Nat) (st : List Value) (M : jx_M) (Q : jx_Po) (l0 l2 l3 : Option Value) (x : Int32), jx_Ev d 104 22 [l0, some (.int x), l2, l3] st M Q ↔ jx_Ev d 104 23 [l0, some (.int x), l2, l3] (.int x :: st) M Q) ∧
  (∀ (d : Nat) (lv : List (Option Value)) (st : List Value) (M : jx_M) (Q : jx_Po) (x : Int32) (a : Nat) (ha : jx_cl a = 9), jx_Ev d 104 23 lv (.int x :: .ref a :: st) M Q ↔ (vp_in x (jx_sz a) ∧ jx_Ev d 104 24 lv (.int (M a x.toNatClampNeg) :: st) M Q)) ∧
  (∀ (d : Nat) (st : List Value) (M : jx_M) (Q : jx_Po) (l0 l1 l2 l3 : Option Value) (x : Int32), jx_Ev d 104 24 [l0, l1, l2, l3] (.int x :: st) M Q ↔ jx_Ev d 104 25 [l0, l1, l2, some (.int x)] st M Q) ∧
  (∀ (d : Nat) (st : List Value) (M : jx_M) (Q : jx_Po) (l1 l2 l3 : Option Value) (x : Nat), jx_Ev d 104 25 [some (.ref x), l1, l2, l3] st M Q ↔ jx_Ev d 104 26 [some (.ref x), l1, l2, l3] (.ref x :: st) M Q) ∧
  (∀ (d : Nat) (lv : List (Option Value)) (st : List Value) (M : jx_M) (Q : jx_Po), jx_Ev d 104 26 lv (.ref 36 :: st) M Q ↔ jx_Ev d 104 29 lv (.ref 44 :: st) M Q) ∧
  (∀ (d : Nat) (st : List Value) (M : jx_M) (Q : jx_Po) (l0 l2 l3 : Option Value) (x : Int32), jx_Ev d 104 29 [l0, some (.int x), l2, l3] st M Q ↔ jx_Ev d 104 30 [l0, some (.int x), l2, l3] (.int x :: st) M Q) ∧
  (∀ (d : Nat) (st : List Value) (M : jx_M) (Q : jx_Po) (l0 l1 l3 : Option Value) (x : Int32), jx_Ev d 104 30 [l0, l1, some (.int x), l3] st M Q ↔ jx_Ev d 104 31 [l0, l1, some (.int x), l3] (.int x :: st) M Q) ∧
  (∀ (d : Nat) (lv : List (Option Value)) (st : List Value) (M : jx_M) (Q : jx_Po) (x z : Int32) (a : Nat) (ha : jx_cl a = 9), jx_Ev d 104 31 lv (.int z :: .int x :: .ref a :: st) M Q ↔ (vp_in x (jx_sz a) ∧ jx_Ev d 104 32 lv st (jx_up M a x.toNatClampNeg z) Q)) ∧
  (∀ (d : Nat) (st : List Value) (M : jx_M) (Q : jx_Po) (l0 l1 l2 : Option Value) (x : Int32), jx_Ev d 104 32 [l0, l1, l2, some (.int x)] st M Q ↔ jx_Ev d 104 33 [l0, l1, l2, some (.int x)] (.int x :: st) M Q) ∧
  (∀ (d : Nat) (lv : List (Option Value)) (M : jx_M) (Q : jx_Po) (x : Int32), jx_Ev d 104 33 lv [.int x] M Q ↔ Q [.int x] M) := by
  refine ⟨?_, ?_, ?_, ?_, ?_, ?_, ?_, ?_, ?_, ?_, ?_, ?_, ?_, ?_, ?_, ?_, ?_, ?_, ?_, ?_, ?_, ?_⟩
  · exact fun d st M Q l1 l2 l3 x => jx_ev_st (jx_fok (by decide +kernel : decode (jx_mb 104) 0 = .ok (.aload_n 0, 1))) rfl rfl rfl
  · exact fun d st M Q l0 l2 l3 x => jx_ev_st (jx_fok (by decide +kernel : decode (jx_mb 104) 1 = .ok (.iload_n 1, 1))) rfl rfl rfl
  · exact fun d lv M Q a0 => jx_ev_ci (jx_fok (by decide +kernel : decode (jx_mb 104) 2 = .ok (.invokevirtual 148, 3))) rfl (jx_ccV (As := [.int a0]) (rest := []) rfl rfl rfl rfl rfl rfl) (by decide)
  · exact fun d lv st M Q x => jx_k_b1 (jx_fok (by decide +kernel : decode (jx_mb 104) 5 = .ok (.ifCond .eq 11, 3))) rfl jx_hEq
  · exact fun d st M Q l1 l2 l3 x => jx_ev_st (jx_fok (by decide +kernel : decode (jx_mb 104) 8 = .ok (.aload_n 0, 1))) rfl rfl rfl
  · exact fun d st M Q l0 l1 l3 x => jx_ev_st (jx_fok (by decide +kernel : decode (jx_mb 104) 9 = .ok (.iload_n 2, 1))) rfl rfl rfl
  · exact fun d lv M Q a0 => jx_ev_ci (jx_fok (by decide +kernel : decode (jx_mb 104) 10 = .ok (.invokevirtual 142, 3))) rfl (jx_ccV (As := [.int a0]) (rest := []) rfl rfl rfl rfl rfl rfl) (by decide)
  · exact fun d lv st M Q x => jx_k_b1n (jx_fok (by decide +kernel : decode (jx_mb 104) 13 = .ok (.ifCond .ne 5, 3))) rfl jx_hNe
  · exact fun d lv st M Q => jx_ev_st (jx_fok (by decide +kernel : decode (jx_mb 104) 16 = .ok (.iconst (-1), 1))) rfl rfl rfl
  · exact fun d lv M Q x => jx_k_ri (jx_fok (by decide +kernel : decode (jx_mb 104) 17 = .ok (.ireturn, 1))) rfl
  · exact fun d st M Q l1 l2 l3 x => jx_ev_st (jx_fok (by decide +kernel : decode (jx_mb 104) 18 = .ok (.aload_n 0, 1))) rfl rfl rfl
  · exact fun d lv st M Q => jx_k_gf (jx_fok (by decide +kernel : decode (jx_mb 104) 19 = .ok (.getfield 31, 3))) rfl rfl rfl
  · exact fun d st M Q l0 l2 l3 x => jx_ev_st (jx_fok (by decide +kernel : decode (jx_mb 104) 22 = .ok (.iload_n 1, 1))) rfl rfl rfl
  · exact fun d lv st M Q x a ha => jx_k_al (jx_fok (by decide +kernel : decode (jx_mb 104) 23 = .ok (.iaload, 1))) ha
  · exact fun d st M Q l0 l1 l2 l3 x => jx_ev_st (jx_fok (by decide +kernel : decode (jx_mb 104) 24 = .ok (.istore_n 3, 1))) rfl rfl rfl
  · exact fun d st M Q l1 l2 l3 x => jx_ev_st (jx_fok (by decide +kernel : decode (jx_mb 104) 25 = .ok (.aload_n 0, 1))) rfl rfl rfl
  · exact fun d lv st M Q => jx_k_gf (jx_fok (by decide +kernel : decode (jx_mb 104) 26 = .ok (.getfield 31, 3))) rfl rfl rfl
  · exact fun d st M Q l0 l2 l3 x => jx_ev_st (jx_fok (by decide +kernel : decode (jx_mb 104) 29 = .ok (.iload_n 1, 1))) rfl rfl rfl
  · exact fun d st M Q l0 l1 l3 x => jx_ev_st (jx_fok (by decide +kernel : decode (jx_mb 104) 30 = .ok (.iload_n 2, 1))) rfl rfl rfl
  · exact fun d lv st M Q x z a ha => jx_k_as (jx_fok (by decide +kernel : decode (jx_mb 104) 31 = .ok (.iastore, 1))) ha
  · exact fun d st M Q l0 l1 l2 x => jx_ev_st (jx_fok (by decide +kernel : decode (jx_mb 104) 32 = .ok (.iload_n 3, 1))) rfl rfl rfl
  · exact fun d lv M Q x => jx_k_ri (jx_fok (by decide +kernel : decode (jx_mb 104) 33 = .ok (.ireturn, 1))) rfl
theorem kX8_send (d : Nat) (M : jx_M) (q : Int32 → jx_M → Prop) (a0 a1 a2 : Value) : jx_I d 104 [a0, a1, a2] M q ↔ jx_Ev d 104 0 [some a0, some a1, some a2, none] [] M (jx_qI q) := Iff.rfl
set_option maxRecDepth 100000 in
theorem eX8_loudOf :
  (∀ (d : Nat) (st : List Value) (M : jx_M) (Q : jx_Po) (l1 l2 l3 : Option Value) (x : Nat), jx_Ev d 105 0 [some (.ref x), l1, l2, l3] st M Q ↔ jx_Ev d 105 1 [some (.ref x), l1, l2, l3] (.ref x :: st) M Q) ∧
  (∀ (d : Nat) (lv : List (Option Value)) (st : List Value) (M : jx_M) (Q : jx_Po), jx_Ev d 105 1 lv (.ref 36 :: st) M Q ↔ jx_Ev d 105 4 lv (.ref 43 :: st) M Q) ∧
  (∀ (d : Nat) (st : List Value) (M : jx_M) (Q : jx_Po) (l0 l2 l3 : Option Value) (x : Int32), jx_Ev d 105 4 [l0, some (.int x), l2, l3] st M Q ↔ jx_Ev d 105 5 [l0, some (.int x), l2, l3] (.int x :: st) M Q) ∧
  (∀ (d : Nat) (lv : List (Option Value)) (st : List Value) (M : jx_M) (Q : jx_Po) (x : Int32) (a : Nat) (ha : jx_cl a = 9), jx_Ev d 105 5 lv (.int x :: .ref a :: st) M Q ↔ (vp_in x (jx_sz a) ∧ jx_Ev d 105 6 lv (.int (M a x.toNatClampNeg) :: st) M Q)) ∧
  (∀ (d : Nat) (st : List Value) (M : jx_M) (Q : jx_Po) (l1 l2 l3 : Option Value) (x : Nat), jx_Ev d 105 6 [some (.ref x), l1, l2, l3] st M Q ↔ jx_Ev d 105 7 [some (.ref x), l1, l2, l3] (.ref x :: st) M Q) ∧
  (∀ (d : Nat) (lv : List (Option Value)) (st : List Value) (M : jx_M) (Q : jx_Po), jx_Ev d 105 7 lv (.ref 36 :: st) M Q ↔ jx_Ev d 105 10 lv (.int (M 36 7) :: st) M Q) ∧
  (∀ (d : Nat) (st : List Value) (M : jx_M) (Q : jx_Po) (l0 l1 l3 : Option Value) (x : Int32), jx_Ev d 105 10 [l0, l1, some (.int x), l3] st M Q ↔ jx_Ev d 105 11 [l0, l1, some (.int x), l3] (.int x :: st) M Q) ∧
  (∀ (d : Nat) (lv : List (Option Value)) (st : List Value) (M : jx_M) (Q : jx_Po) (x z : Int32), jx_Ev d 105 11 lv (.int z :: .int x :: st) M Q ↔ jx_Ev d 105 12 lv (.int (x * z) :: st) M Q) ∧
  (∀ (d : Nat) (lv : List (Option Value)) (st : List Value) (M : jx_M) (Q : jx_Po) (x z : Int32), jx_Ev d 105 12 lv (.int z :: .int x :: st) M Q ↔ jx_Ev d 105 13 lv (.int (x + z) :: st) M Q) ∧
  (∀ (d : Nat) (st : List Value) (M : jx_M) (Q : jx_Po) (l0 l1 l2 l3 : Option Value) (x : Int32), jx_Ev d 105 13 [l0, l1, l2, l3] (.int x :: st) M Q ↔ jx_Ev d 105 14 [l0, l1, l2, some (.int x)] st M Q) ∧
  (∀ (d : Nat) (st : List Value) (M : jx_M) (Q : jx_Po) (l1 l2 l3 : Option Value) (x : Nat), jx_Ev d 105 14 [some (.ref x), l1, l2, l3] st M Q ↔ jx_Ev d 105 15 [some (.ref x), l1, l2, l3] (.ref x :: st) M Q) ∧
  (∀ (d : Nat) (lv : List (Option Value)) (st : List Value) (M : jx_M) (Q : jx_Po), jx_Ev d 105 15 lv (.ref 36 :: st) M Q ↔ jx_Ev d 105 18 lv (.ref 42 :: st) M Q) ∧
  (∀ (d : Nat) (st : List Value) (M : jx_M) (Q : jx_Po) (l0 l2 l3 : Option Value) (x : Int32), jx_Ev d 105 18 [l0, some (.int x), l2, l3] st M Q ↔ jx_Ev d 105 19 [l0, some (.int x), l2, l3] (.int x :: st) M Q) ∧
  (∀ (d : Nat) (lv : List (Option Value)) (st : List Value) (M : jx_M) (Q : jx_Po) (x : Int32) (a : Nat) (ha : jx_cl a = 9), jx_Ev d 105 19 lv (.int x :: .ref a :: st) M Q ↔ (vp_in x (jx_sz a) ∧ jx_Ev d 105 20 lv (.int (M a x.toNatClampNeg) :: st) M Q)) ∧
  (∀ (d : Nat) (lv : List (Option Value)) (st : List Value) (M : jx_M) (Q : jx_Po) (x : Int32), jx_Ev d 105 20 lv (.int x :: st) M Q ↔ (if x = 0 then jx_Ev d 105 23 lv st M Q else jx_Ev d 105 27 lv st M Q)) ∧
  (∀ (d : Nat) (st : List Value) (M : jx_M) (Q : jx_Po) (l0 l1 l2 : Option Value) (x : Int32), jx_Ev d 105 23 [l0, l1, l2, some (.int x)] st M Q ↔ jx_Ev d 105 24 [l0, l1, l2, some (.int x)] (.int x :: st) M Q) ∧
  (∀ (d : Nat) (lv : List (Option Value)) (st : List Value) (M : jx_M) (Q : jx_Po), jx_Ev d 105 24 lv st M Q ↔ jx_Ev d 105 46 lv st M Q) ∧
  (∀ (d : Nat) (st : List Value) (M : jx_M) (Q : jx_Po) (l1 l2 l3 : Option Value) (x : Nat), jx_Ev d 105 27 [some (.ref x), l1, l2, l3] st M Q ↔ jx_Ev d 105 28 [some (.ref x), l1, l2, l3] (.ref x :: st) M Q) ∧
  (∀ (d : Nat) (lv : List (Option Value)) (st : List Value) (M : jx_M) (Q : jx_Po), jx_Ev d 105 28 lv (.ref 36 :: st) M Q ↔ jx_Ev d 105 31 lv (.ref 42 :: st) M Q) ∧
  (∀ (d : Nat) (st : List Value) (M : jx_M) (Q : jx_Po) (l0 l2 l3 : Option Value) (x : Int32), jx_Ev d 105 31 [l0, some (.int x), l2, l3] st M Q ↔ jx_Ev d 105 32 [l0, some (.int x), l2, l3] (.int x :: st) M Q) ∧
  (∀ (d : Nat) (lv : List (Option Value)) (st : List Value) (M : jx_M) (Q : jx_Po) (x : Int32) (a : Nat) (ha : jx_cl a = 9), jx_Ev d 105 32 lv (.int x :: .ref a :: st) M Q ↔ (vp_in x (jx_sz a) ∧ jx_Ev d 105 33 lv (.int (M a x.toNatClampNeg) :: st) M Q)) ∧
  (∀ (d : Nat) (lv : List (Option Value)) (st : List Value) (M : jx_M) (Q : jx_Po), jx_Ev d 105 33 lv st M Q ↔ jx_Ev d 105 34 lv (.int 1 :: st) M Q) ∧
  (∀ (d : Nat) (lv : List (Option Value)) (st : List Value) (M : jx_M) (Q : jx_Po) (x z : Int32), jx_Ev d 105 34 lv (.int z :: .int x :: st) M Q ↔ (if x = z then jx_Ev d 105 37 lv st M Q else jx_Ev d 105 43 lv st M Q)) ∧
  (∀ (d : Nat) (st : List Value) (M : jx_M) (Q : jx_Po) (l0 l1 l2 : Option Value) (x : Int32), jx_Ev d 105 37 [l0, l1, l2, some (.int x)] st M Q ↔ jx_Ev d 105 38 [l0, l1, l2, some (.int x)] (.int x :: st) M Q) ∧
  (∀ (d : Nat) (lv : List (Option Value)) (st : List Value) (M : jx_M) (Q : jx_Po), jx_Ev d 105 38 lv st M Q ↔ jx_Ev d 105 39 lv (.int 1 :: st) M Q) ∧
  (∀ (d : Nat) (lv : List (Option Value)) (st : List Value) (M : jx_M) (Q : jx_Po) (x z : Int32), jx_Ev d 105 39 lv (.int z :: .int x :: st) M Q ↔ jx_Ev d 105 40 lv (.int (x - z) :: st) M Q) ∧
  (∀ (d : Nat) (lv : List (Option Value)) (st : List Value) (M : jx_M) (Q : jx_Po), jx_Ev d 105 40 lv st M Q ↔ jx_Ev d 105 46 lv st M Q) ∧
  (∀ (d : Nat) (lv : List (Option Value)) (st : List Value) (M : jx_M) (Q : jx_Po), jx_Ev d 105 43 lv st M Q ↔ jx_Ev d 105 44 lv (.int 2 :: st) M Q) ∧
  (∀ (d : Nat) (st : List Value) (M : jx_M) (Q : jx_Po) (l0 l1 l2 : Option Value) (x : Int32), jx_Ev d 105 44 [l0, l1, l2, some (.int x)] st M Q ↔ jx_Ev d 105 45 [l0, l1, l2, some (.int x)] (.int x :: st) M Q) ∧
  (∀ (d : Nat) (lv : List (Option Value)) (st : List Value) (M : jx_M) (Q : jx_Po) (x z : Int32), jx_Ev d 105 45 lv (.int z :: .int x :: st) M Q ↔ jx_Ev d 105 46 lv (.int (x * z) :: st) M Q) ∧
  (∀ (d : Nat) (lv : List (Option Value)) (M : jx_M) (Q : jx_Po) (x : Int32), jx_Ev d 105 46 lv [.int x] M Q ↔ Q [.int x] M) := by
  refine ⟨?_, ?_, ?_, ?_, ?_, ?_, ?_, ?_, ?_, ?_, ?_, ?_, ?_, ?_, ?_, ?_, ?_, ?_, ?_, ?_, ?_, ?_, ?_, ?_, ?_, ?_, ?_, ?_, ?_, ?_, ?_⟩
  · exact fun d st M Q l1 l2 l3 x => jx_ev_st (jx_fok (by decide +kernel : decode (jx_mb 105) 0 = .ok (.aload_n 0, 1))) rfl rfl rfl
  · exact fun d lv st M Q => jx_k_gf (jx_fok (by decide +kernel : decode (jx_mb 105) 1 = .ok (.getfield 28, 3))) rfl rfl rfl
  · exact fun d st M Q l0 l2 l3 x => jx_ev_st (jx_fok (by decide +kernel : decode (jx_mb 105) 4 = .ok (.iload_n 1, 1))) rfl rfl rfl
  · exact fun d lv st M Q x a ha => jx_k_al (jx_fok (by decide +kernel : decode (jx_mb 105) 5 = .ok (.iaload, 1))) ha
  · exact fun d st M Q l1 l2 l3 x => jx_ev_st (jx_fok (by decide +kernel : decode (jx_mb 105) 6 = .ok (.aload_n 0, 1))) rfl rfl rfl
  · exact fun d lv st M Q => jx_k_gf (jx_fok (by decide +kernel : decode (jx_mb 105) 7 = .ok (.getfield 110, 3))) rfl rfl rfl
  · exact fun d st M Q l0 l1 l3 x => jx_ev_st (jx_fok (by decide +kernel : decode (jx_mb 105) 10 = .ok (.iload_n 2, 1))) rfl rfl rfl
  · exact fun d lv st M Q x z => jx_ev_st (jx_fok (by decide +kernel : decode (jx_mb 105) 11 = .ok (.imul, 1))) rfl rfl rfl
  · exact fun d lv st M Q x z => jx_ev_st (jx_fok (by decide +kernel : decode (jx_mb 105) 12 = .ok (.iadd, 1))) rfl rfl rfl
  · exact fun d st M Q l0 l1 l2 l3 x => jx_ev_st (jx_fok (by decide +kernel : decode (jx_mb 105) 13 = .ok (.istore_n 3, 1))) rfl rfl rfl
  · exact fun d st M Q l1 l2 l3 x => jx_ev_st (jx_fok (by decide +kernel : decode (jx_mb 105) 14 = .ok (.aload_n 0, 1))) rfl rfl rfl
  · exact fun d lv st M Q => jx_k_gf (jx_fok (by decide +kernel : decode (jx_mb 105) 15 = .ok (.getfield 25, 3))) rfl rfl rfl
  · exact fun d st M Q l0 l2 l3 x => jx_ev_st (jx_fok (by decide +kernel : decode (jx_mb 105) 18 = .ok (.iload_n 1, 1))) rfl rfl rfl
  · exact fun d lv st M Q x a ha => jx_k_al (jx_fok (by decide +kernel : decode (jx_mb 105) 19 = .ok (.iaload, 1))) ha
  · exact fun d lv st M Q x => jx_k_b1n (jx_fok (by decide +kernel : decode (jx_mb 105) 20 = .ok (.ifCond .ne 7, 3))) rfl jx_hNe
  · exact fun d st M Q l0 l1 l2 x => jx_ev_st (jx_fok (by decide +kernel : decode (jx_mb 105) 23 = .ok (.iload_n 3, 1))) rfl rfl rfl
  · exact fun d lv st M Q => jx_k_goto (jx_fok (by decide +kernel : decode (jx_mb 105) 24 = .ok (.goto 22, 3))) rfl
  · exact fun d st M Q l1 l2 l3 x => jx_ev_st (jx_fok (by decide +kernel : decode (jx_mb 105) 27 = .ok (.aload_n 0, 1))) rfl rfl rfl
  · exact fun d lv st M Q => jx_k_gf (jx_fok (by decide +kernel : decode (jx_mb 105) 28 = .ok (.getfield 25, 3))) rfl rfl rfl
  · exact fun d st M Q l0 l2 l3 x => jx_ev_st (jx_fok (by decide +kernel : decode (jx_mb 105) 31 = .ok (.iload_n 1, 1))) rfl rfl rfl
  · exact fun d lv st M Q x a ha => jx_k_al (jx_fok (by decide +kernel : decode (jx_mb 105) 32 = .ok (.iaload, 1))) ha
  · exact fun d lv st M Q => jx_ev_st (jx_fok (by decide +kernel : decode (jx_mb 105) 33 = .ok (.iconst 1, 1))) rfl rfl rfl
  · exact fun d lv st M Q x z => jx_k_b2n (jx_fok (by decide +kernel : decode (jx_mb 105) 34 = .ok (.if_icmp .ne 9, 3))) rfl jx_hNe
  · exact fun d st M Q l0 l1 l2 x => jx_ev_st (jx_fok (by decide +kernel : decode (jx_mb 105) 37 = .ok (.iload_n 3, 1))) rfl rfl rfl
  · exact fun d lv st M Q => jx_ev_st (jx_fok (by decide +kernel : decode (jx_mb 105) 38 = .ok (.iconst 1, 1))) rfl rfl rfl
  · exact fun d lv st M Q x z => jx_ev_st (jx_fok (by decide +kernel : decode (jx_mb 105) 39 = .ok (.isub, 1))) rfl rfl rfl
  · exact fun d lv st M Q => jx_k_goto (jx_fok (by decide +kernel : decode (jx_mb 105) 40 = .ok (.goto 6, 3))) rfl
  · exact fun d lv st M Q => jx_ev_st (jx_fok (by decide +kernel : decode (jx_mb 105) 43 = .ok (.iconst 2, 1))) rfl rfl rfl
  · exact fun d st M Q l0 l1 l2 x => jx_ev_st (jx_fok (by decide +kernel : decode (jx_mb 105) 44 = .ok (.iload_n 3, 1))) rfl rfl rfl
  · exact fun d lv st M Q x z => jx_ev_st (jx_fok (by decide +kernel : decode (jx_mb 105) 45 = .ok (.imul, 1))) rfl rfl rfl
  · exact fun d lv M Q x => jx_k_ri (jx_fok (by decide +kernel : decode (jx_mb 105) 46 = .ok (.ireturn, 1))) rfl
theorem kX8_loudOf (d : Nat) (M : jx_M) (q : Int32 → jx_M → Prop) (a0 a1 a2 : Value) : jx_I d 105 [a0, a1, a2] M q ↔ jx_Ev d 105 0 [some a0, some a1, some a2, none] [] M (jx_qI q) := Iff.rfl
set_option maxRecDepth 100000 in
theorem eX8_isMonths :
  (∀ (d : Nat) (st : List Value) (M : jx_M) (Q : jx_Po) (x : Int32), jx_Ev d 106 0 [some (.int x)] st M Q ↔ jx_Ev d 106 1 [some (.int x)] (.int x :: st) M Q) ∧
  (∀ (d : Nat) (lv : List (Option Value)) (st : List Value) (M : jx_M) (Q : jx_Po), jx_Ev d 106 1 lv st M Q ↔ jx_Ev d 106 2 lv (.int 0 :: st) M Q) ∧
  (∀ (d : Nat) (lv : List (Option Value)) (st : List Value) (M : jx_M) (Q : jx_Po), jx_Ev d 106 2 lv st M Q ↔ jx_Ev d 106 4 lv (.int 9 :: st) M Q) ∧
  (∀ (d : Nat) (lv : List (Option Value)) (M : jx_M) (Q : jx_Po) (a0 : Int32) (a1 : Int32) (a2 : Int32), jx_Ev (d + 1) 106 4 lv [.int a0, .int a1, .int a2] M Q ↔ jx_I d 86 [.int a2, .int a1, .int a0] M (fun x M => jx_Ev (d + 1) 106 7 lv (.int x :: []) M Q)) ∧
  (∀ (d : Nat) (lv : List (Option Value)) (M : jx_M) (Q : jx_Po) (x : Int32), jx_Ev d 106 7 lv [.int x] M Q ↔ ((x = 0 ∨ x = 1) ∧ Q [.int x] M)) := by
  refine ⟨?_, ?_, ?_, ?_, ?_⟩
  · exact fun d st M Q x => jx_ev_st (jx_fok (by decide +kernel : decode (jx_mb 106) 0 = .ok (.iload_n 0, 1))) rfl rfl rfl
  · exact fun d lv st M Q => jx_ev_st (jx_fok (by decide +kernel : decode (jx_mb 106) 1 = .ok (.iconst 0, 1))) rfl rfl rfl
  · exact fun d lv st M Q => jx_ev_st (jx_fok (by decide +kernel : decode (jx_mb 106) 2 = .ok (.bipush 9, 2))) rfl rfl rfl
  · exact fun d lv M Q a0 a1 a2 => jx_ev_ci (jx_fok (by decide +kernel : decode (jx_mb 106) 4 = .ok (.invokestatic 73, 3))) rfl (jx_ccS (As := [.int a2, .int a1, .int a0]) (rest := []) rfl rfl rfl rfl rfl) (by decide)
  · exact fun d lv M Q x => jx_k_rz (jx_fok (by decide +kernel : decode (jx_mb 106) 7 = .ok (.ireturn, 1))) rfl
theorem kX8_isMonths (d : Nat) (M : jx_M) (q : Int32 → jx_M → Prop) (a0 : Value) : jx_I d 106 [a0] M q ↔ jx_Ev d 106 0 [some a0] [] M (jx_qI q) := Iff.rfl
set_option maxRecDepth 100000 in
theorem eX8_loud :
  (∀ (d : Nat) (st : List Value) (M : jx_M) (Q : jx_Po) (l1 l2 : Option Value) (x : Nat), jx_Ev d 107 0 [some (.ref x), l1, l2] st M Q ↔ jx_Ev d 107 1 [some (.ref x), l1, l2] (.ref x :: st) M Q) ∧
  (∀ (d : Nat) (st : List Value) (M : jx_M) (Q : jx_Po) (l0 l2 : Option Value) (x : Int32), jx_Ev d 107 1 [l0, some (.int x), l2] st M Q ↔ jx_Ev d 107 2 [l0, some (.int x), l2] (.int x :: st) M Q) ∧
  (∀ (d : Nat) (lv : List (Option Value)) (M : jx_M) (Q : jx_Po) (a0 : Int32), jx_Ev (d + 1) 107 2 lv [.int a0, .ref 36] M Q ↔ jx_I d 91 [.ref 36, .int a0] M (fun x M => jx_Ev (d + 1) 107 5 lv (.int x :: []) M Q)) ∧
  (∀ (d : Nat) (lv : List (Option Value)) (st : List Value) (M : jx_M) (Q : jx_Po) (x : Int32), jx_Ev d 107 5 lv (.int x :: st) M Q ↔ (if x = 0 then jx_Ev d 107 8 lv st M Q else jx_Ev d 107 10 lv st M Q)) ∧
  (∀ (d : Nat) (lv : List (Option Value)) (st : List Value) (M : jx_M) (Q : jx_Po), jx_Ev d 107 8 lv st M Q ↔ jx_Ev d 107 9 lv (.int (-1) :: st) M Q) ∧
  (∀ (d : Nat) (lv : List (Option Value)) (M : jx_M) (Q : jx_Po) (x : Int32), jx_Ev d 107 9 lv [.int x] M Q ↔ Q [.int x] M) ∧
  (∀ (d : Nat) (st : List Value) (M : jx_M) (Q : jx_Po) (l0 l1 : Option Value) (x : Int32), jx_Ev d 107 10 [l0, l1, some (.int x)] st M Q ↔ jx_Ev d 107 11 [l0, l1, some (.int x)] (.int x :: st) M Q) ∧
  (∀ (d : Nat) (lv : List (Option Value)) (M : jx_M) (Q : jx_Po) (a0 : Int32), jx_Ev (d + 1) 107 11 lv [.int a0] M Q ↔ jx_I d 106 [.int a0] M (fun x M => jx_Ev (d + 1) 107 14 lv (.int x :: []) M Q)) ∧
  (∀ (d : Nat) (lv : List (Option Value)) (st : List Value) (M : jx_M) (Q : jx_Po) (x : Int32), jx_Ev d 107 14 lv (.int x :: st) M Q ↔ (if x = 0 then jx_Ev d 107 26 lv st M Q else jx_Ev d 107 17 lv st M Q)) ∧
  (∀ (d : Nat) (st : List Value) (M : jx_M) (Q : jx_Po) (l1 l2 : Option Value) (x : Nat), jx_Ev d 107 17 [some (.ref x), l1, l2] st M Q ↔ jx_Ev d 107 18 [some (.ref x), l1, l2] (.ref x :: st) M Q) ∧
  (∀ (d : Nat) (st : List Value) (M : jx_M) (Q : jx_Po) (l0 l2 : Option Value) (x : Int32), jx_Ev d 107 18 [l0, some (.int x), l2] st M Q ↔ jx_Ev d 107 19 [l0, some (.int x), l2] (.int x :: st) M Q) ∧
  (∀ (d : Nat) (st : List Value) (M : jx_M) (Q : jx_Po) (l0 l1 : Option Value) (x : Int32), jx_Ev d 107 19 [l0, l1, some (.int x)] st M Q ↔ jx_Ev d 107 20 [l0, l1, some (.int x)] (.int x :: st) M Q) ∧
  (∀ (d : Nat) (lv : List (Option Value)) (M : jx_M) (Q : jx_Po) (a0 : Int32) (a1 : Int32), jx_Ev (d + 1) 107 20 lv [.int a0, .int a1, .ref 36] M Q ↔ jx_I d 105 [.ref 36, .int a1, .int a0] M (fun x M => jx_Ev (d + 1) 107 23 lv (.int x :: []) M Q)) ∧
  (∀ (d : Nat) (lv : List (Option Value)) (st : List Value) (M : jx_M) (Q : jx_Po), jx_Ev d 107 23 lv st M Q ↔ jx_Ev d 107 28 lv st M Q) ∧
  (∀ (d : Nat) (lv : List (Option Value)) (st : List Value) (M : jx_M) (Q : jx_Po), jx_Ev d 107 26 lv st M Q ↔ jx_Ev d 107 28 lv (.int (-2) :: st) M Q) ∧
  (∀ (d : Nat) (lv : List (Option Value)) (M : jx_M) (Q : jx_Po) (x : Int32), jx_Ev d 107 28 lv [.int x] M Q ↔ Q [.int x] M) := by
  refine ⟨?_, ?_, ?_, ?_, ?_, ?_, ?_, ?_, ?_, ?_, ?_, ?_, ?_, ?_, ?_, ?_⟩
  · exact fun d st M Q l1 l2 x => jx_ev_st (jx_fok (by decide +kernel : decode (jx_mb 107) 0 = .ok (.aload_n 0, 1))) rfl rfl rfl
  · exact fun d st M Q l0 l2 x => jx_ev_st (jx_fok (by decide +kernel : decode (jx_mb 107) 1 = .ok (.iload_n 1, 1))) rfl rfl rfl
  · exact fun d lv M Q a0 => jx_ev_ci (jx_fok (by decide +kernel : decode (jx_mb 107) 2 = .ok (.invokevirtual 148, 3))) rfl (jx_ccV (As := [.int a0]) (rest := []) rfl rfl rfl rfl rfl rfl) (by decide)
  · exact fun d lv st M Q x => jx_k_b1n (jx_fok (by decide +kernel : decode (jx_mb 107) 5 = .ok (.ifCond .ne 5, 3))) rfl jx_hNe
  · exact fun d lv st M Q => jx_ev_st (jx_fok (by decide +kernel : decode (jx_mb 107) 8 = .ok (.iconst (-1), 1))) rfl rfl rfl
  · exact fun d lv M Q x => jx_k_ri (jx_fok (by decide +kernel : decode (jx_mb 107) 9 = .ok (.ireturn, 1))) rfl
  · exact fun d st M Q l0 l1 x => jx_ev_st (jx_fok (by decide +kernel : decode (jx_mb 107) 10 = .ok (.iload_n 2, 1))) rfl rfl rfl
  · exact fun d lv M Q a0 => jx_ev_ci (jx_fok (by decide +kernel : decode (jx_mb 107) 11 = .ok (.invokestatic 151, 3))) rfl (jx_ccS (As := [.int a0]) (rest := []) rfl rfl rfl rfl rfl) (by decide)
  · exact fun d lv st M Q x => jx_k_b1 (jx_fok (by decide +kernel : decode (jx_mb 107) 14 = .ok (.ifCond .eq 12, 3))) rfl jx_hEq
  · exact fun d st M Q l1 l2 x => jx_ev_st (jx_fok (by decide +kernel : decode (jx_mb 107) 17 = .ok (.aload_n 0, 1))) rfl rfl rfl
  · exact fun d st M Q l0 l2 x => jx_ev_st (jx_fok (by decide +kernel : decode (jx_mb 107) 18 = .ok (.iload_n 1, 1))) rfl rfl rfl
  · exact fun d st M Q l0 l1 x => jx_ev_st (jx_fok (by decide +kernel : decode (jx_mb 107) 19 = .ok (.iload_n 2, 1))) rfl rfl rfl
  · exact fun d lv M Q a0 a1 => jx_ev_ci (jx_fok (by decide +kernel : decode (jx_mb 107) 20 = .ok (.invokevirtual 154, 3))) rfl (jx_ccV (As := [.int a1, .int a0]) (rest := []) rfl rfl rfl rfl rfl rfl) (by decide)
  · exact fun d lv st M Q => jx_k_goto (jx_fok (by decide +kernel : decode (jx_mb 107) 23 = .ok (.goto 5, 3))) rfl
  · exact fun d lv st M Q => jx_ev_st (jx_fok (by decide +kernel : decode (jx_mb 107) 26 = .ok (.bipush (-2), 2))) rfl rfl rfl
  · exact fun d lv M Q x => jx_k_ri (jx_fok (by decide +kernel : decode (jx_mb 107) 28 = .ok (.ireturn, 1))) rfl
theorem kX8_loud (d : Nat) (M : jx_M) (q : Int32 → jx_M → Prop) (a0 a1 a2 : Value) : jx_I d 107 [a0, a1, a2] M q ↔ jx_Ev d 107 0 [some a0, some a1, some a2] [] M (jx_qI q) := Iff.rfl
set_option maxRecDepth 100000 in
theorem eX8_ownerOf :
  (∀ (d : Nat) (lv : List (Option Value)) (st : List Value) (M : jx_M) (Q : jx_Po), jx_Ev d 108 0 lv st M Q ↔ jx_Ev d 108 1 lv (.int 0 :: st) M Q) ∧
  (∀ (d : Nat) (st : List Value) (M : jx_M) (Q : jx_Po) (l0 l1 l2 l3 l4 l5 : Option Value) (x : Int32), jx_Ev d 108 1 [l0, l1, l2, l3, l4, l5] (.int x :: st) M Q ↔ jx_Ev d 108 3 [l0, l1, l2, l3, some (.int x), l5] st M Q) ∧
  (∀ (d : Nat) (st : List Value) (M : jx_M) (Q : jx_Po) (l1 l2 l3 l4 l5 : Option Value) (x : Nat), jx_Ev d 108 3 [some (.ref x), l1, l2, l3, l4, l5] st M Q ↔ jx_Ev d 108 4 [some (.ref x), l1, l2, l3, l4, l5] (.ref x :: st) M Q) ∧
  (∀ (d : Nat) (lv : List (Option Value)) (st : List Value) (M : jx_M) (Q : jx_Po), jx_Ev d 108 4 lv (.ref 36 :: st) M Q ↔ jx_Ev d 108 7 lv (.ref 44 :: st) M Q) ∧
  (∀ (d : Nat) (st : List Value) (M : jx_M) (Q : jx_Po) (l0 l2 l3 l4 l5 : Option Value) (x : Int32), jx_Ev d 108 7 [l0, some (.int x), l2, l3, l4, l5] st M Q ↔ jx_Ev d 108 8 [l0, some (.int x), l2, l3, l4, l5] (.int x :: st) M Q) ∧
  (∀ (d : Nat) (lv : List (Option Value)) (st : List Value) (M : jx_M) (Q : jx_Po) (x : Int32) (a : Nat) (ha : jx_cl a = 9), jx_Ev d 108 8 lv (.int x :: .ref a :: st) M Q ↔ (vp_in x (jx_sz a) ∧ jx_Ev d 108 9 lv (.int (M a x.toNatClampNeg) :: st) M Q)) ∧
  (∀ (d : Nat) (st : List Value) (M : jx_M) (Q : jx_Po) (l0 l1 l2 l3 l4 l5 : Option Value) (x : Int32), jx_Ev d 108 9 [l0, l1, l2, l3, l4, l5] (.int x :: st) M Q ↔ jx_Ev d 108 11 [l0, l1, l2, l3, l4, some (.int x)] st M Q) ∧
  (∀ (d : Nat) (st : List Value) (M : jx_M) (Q : jx_Po) (l0 l1 l2 l3 l4 : Option Value) (x : Int32), jx_Ev d 108 12 [l0, l1, l2, l3, l4, some (.int x)] st M Q ↔ jx_Ev d 108 14 [l0, l1, l2, l3, l4, some (.int x)] (.int x :: st) M Q) ∧
  (∀ (d : Nat) (lv : List (Option Value)) (M : jx_M) (Q : jx_Po) (a0 : Int32), jx_Ev (d + 1) 108 14 lv [.int a0, .ref 36] M Q ↔ jx_I d 90 [.ref 36, .int a0] M (fun x M => jx_Ev (d + 1) 108 17 lv (.int x :: []) M Q)) ∧
  (∀ (d : Nat) (lv : List (Option Value)) (st : List Value) (M : jx_M) (Q : jx_Po) (x : Int32), jx_Ev d 108 17 lv (.int x :: st) M Q ↔ (if x = 0 then jx_Ev d 108 79 lv st M Q else jx_Ev d 108 20 lv st M Q)) ∧
  (∀ (d : Nat) (st : List Value) (M : jx_M) (Q : jx_Po) (l0 l1 l2 l3 l5 : Option Value) (x : Int32), jx_Ev d 108 20 [l0, l1, l2, l3, some (.int x), l5] st M Q ↔ jx_Ev d 108 22 [l0, l1, l2, l3, some (.int x), l5] (.int x :: st) M Q) ∧
  (∀ (d : Nat) (st : List Value) (M : jx_M) (Q : jx_Po) (l0 l1 l2 l3 l4 : Option Value) (x : Int32), jx_Ev d 108 22 [l0, l1, l2, l3, l4, some (.int x)] st M Q ↔ jx_Ev d 108 24 [l0, l1, l2, l3, l4, some (.int x)] (.int x :: st) M Q) ∧
  (∀ (d : Nat) (lv : List (Option Value)) (st : List Value) (M : jx_M) (Q : jx_Po) (x z : Int32), jx_Ev d 108 24 lv (.int z :: .int x :: st) M Q ↔ jx_Ev d 108 25 lv (.int (x >>> (z &&& 31)) :: st) M Q) ∧
  (∀ (d : Nat) (lv : List (Option Value)) (st : List Value) (M : jx_M) (Q : jx_Po), jx_Ev d 108 25 lv st M Q ↔ jx_Ev d 108 26 lv (.int 1 :: st) M Q) ∧
  (∀ (d : Nat) (lv : List (Option Value)) (st : List Value) (M : jx_M) (Q : jx_Po) (x z : Int32), jx_Ev d 108 26 lv (.int z :: .int x :: st) M Q ↔ jx_Ev d 108 27 lv (.int (x &&& z) :: st) M Q) ∧
  (∀ (d : Nat) (lv : List (Option Value)) (st : List Value) (M : jx_M) (Q : jx_Po) (x : Int32), jx_Ev d 108 27 lv (.int x :: st) M Q ↔ (if x = 0 then jx_Ev d 108 30 lv st M Q else jx_Ev d 108 79 lv st M Q)) ∧
  (∀ (d : Nat) (st : List Value) (M : jx_M) (Q : jx_Po) (l0 l1 l2 l4 l5 : Option Value) (x : Int32), jx_Ev d 108 30 [l0, l1, l2, some (.int x), l4, l5] st M Q ↔ jx_Ev d 108 31 [l0, l1, l2, some (.int x), l4, l5] (.int x :: st) M Q) ∧
  (∀ (d : Nat) (st : List Value) (M : jx_M) (Q : jx_Po) (l0 l1 l2 l3 l4 : Option Value) (x : Int32), jx_Ev d 108 31 [l0, l1, l2, l3, l4, some (.int x)] st M Q ↔ jx_Ev d 108 33 [l0, l1, l2, l3, l4, some (.int x)] (.int x :: st) M Q) ∧
  (∀ (d : Nat) (lv : List (Option Value)) (st : List Value) (M : jx_M) (Q : jx_Po) (x z : Int32), jx_Ev d 108 33 lv (.int z :: .int x :: st) M Q ↔ jx_Ev d 108 34 lv (.int (x >>> (z &&& 31)) :: st) M Q) ∧
  (∀ (d : Nat) (lv : List (Option Value)) (st : List Value) (M : jx_M) (Q : jx_Po), jx_Ev d 108 34 lv st M Q ↔ jx_Ev d 108 35 lv (.int 1 :: st) M Q) ∧
  (∀ (d : Nat) (lv : List (Option Value)) (st : List Value) (M : jx_M) (Q : jx_Po) (x z : Int32), jx_Ev d 108 35 lv (.int z :: .int x :: st) M Q ↔ jx_Ev d 108 36 lv (.int (x &&& z) :: st) M Q) ∧
  (∀ (d : Nat) (lv : List (Option Value)) (st : List Value) (M : jx_M) (Q : jx_Po) (x : Int32), jx_Ev d 108 36 lv (.int x :: st) M Q ↔ (if x = 0 then jx_Ev d 108 39 lv st M Q else jx_Ev d 108 58 lv st M Q)) ∧
  (∀ (d : Nat) (st : List Value) (M : jx_M) (Q : jx_Po) (l1 l2 l3 l4 l5 : Option Value) (x : Nat), jx_Ev d 108 39 [some (.ref x), l1, l2, l3, l4, l5] st M Q ↔ jx_Ev d 108 40 [some (.ref x), l1, l2, l3, l4, l5] (.ref x :: st) M Q) ∧
  (∀ (d : Nat) (st : List Value) (M : jx_M) (Q : jx_Po) (l0 l2 l3 l4 l5 : Option Value) (x : Int32), jx_Ev d 108 40 [l0, some (.int x), l2, l3, l4, l5] st M Q ↔ jx_Ev d 108 41 [l0, some (.int x), l2, l3, l4, l5] (.int x :: st) M Q) ∧
  (∀ (d : Nat) (st : List Value) (M : jx_M) (Q : jx_Po) (l0 l1 l3 l4 l5 : Option Value) (x : Int32), jx_Ev d 108 41 [l0, l1, some (.int x), l3, l4, l5] st M Q ↔ jx_Ev d 108 42 [l0, l1, some (.int x), l3, l4, l5] (.int x :: st) M Q) ∧
  (∀ (d : Nat) (lv : List (Option Value)) (M : jx_M) (Q : jx_Po) (a0 : Int32) (a1 : Int32), jx_Ev (d + 1) 108 42 lv [.int a0, .int a1, .ref 36] M Q ↔ jx_I d 105 [.ref 36, .int a1, .int a0] M (fun x M => jx_Ev (d + 1) 108 45 lv (.int x :: []) M Q)) ∧
  (∀ (d : Nat) (st : List Value) (M : jx_M) (Q : jx_Po) (l1 l2 l3 l4 l5 : Option Value) (x : Nat), jx_Ev d 108 45 [some (.ref x), l1, l2, l3, l4, l5] st M Q ↔ jx_Ev d 108 46 [some (.ref x), l1, l2, l3, l4, l5] (.ref x :: st) M Q) ∧
  (∀ (d : Nat) (lv : List (Option Value)) (st : List Value) (M : jx_M) (Q : jx_Po), jx_Ev d 108 46 lv (.ref 36 :: st) M Q ↔ jx_Ev d 108 49 lv (.ref 40 :: st) M Q) ∧
  (∀ (d : Nat) (st : List Value) (M : jx_M) (Q : jx_Po) (l0 l1 l2 l3 l4 : Option Value) (x : Int32), jx_Ev d 108 49 [l0, l1, l2, l3, l4, some (.int x)] st M Q ↔ jx_Ev d 108 51 [l0, l1, l2, l3, l4, some (.int x)] (.int x :: st) M Q) ∧
  (∀ (d : Nat) (lv : List (Option Value)) (st : List Value) (M : jx_M) (Q : jx_Po) (x : Int32) (a : Nat) (ha : jx_cl a = 9), jx_Ev d 108 51 lv (.int x :: .ref a :: st) M Q ↔ (vp_in x (jx_sz a) ∧ jx_Ev d 108 52 lv (.int (M a x.toNatClampNeg) :: st) M Q)) ∧
  (∀ (d : Nat) (lv : List (Option Value)) (st : List Value) (M : jx_M) (Q : jx_Po) (x z : Int32), jx_Ev d 108 52 lv (.int z :: .int x :: st) M Q ↔ (if z < x then jx_Ev d 108 58 lv st M Q else jx_Ev d 108 55 lv st M Q)) ∧
  (∀ (d : Nat) (st : List Value) (M : jx_M) (Q : jx_Po) (l0 l1 l2 l3 l4 : Option Value) (x : Int32), jx_Ev d 108 55 [l0, l1, l2, l3, l4, some (.int x)] st M Q ↔ jx_Ev d 108 57 [l0, l1, l2, l3, l4, some (.int x)] (.int x :: st) M Q) ∧
  (∀ (d : Nat) (lv : List (Option Value)) (M : jx_M) (Q : jx_Po) (x : Int32), jx_Ev d 108 57 lv [.int x] M Q ↔ Q [.int x] M) ∧
  (∀ (d : Nat) (st : List Value) (M : jx_M) (Q : jx_Po) (l0 l1 l2 l3 l5 : Option Value) (x : Int32), jx_Ev d 108 58 [l0, l1, l2, l3, some (.int x), l5] st M Q ↔ jx_Ev d 108 60 [l0, l1, l2, l3, some (.int x), l5] (.int x :: st) M Q) ∧
  (∀ (d : Nat) (lv : List (Option Value)) (st : List Value) (M : jx_M) (Q : jx_Po), jx_Ev d 108 60 lv st M Q ↔ jx_Ev d 108 61 lv (.int 1 :: st) M Q) ∧
  (∀ (d : Nat) (st : List Value) (M : jx_M) (Q : jx_Po) (l0 l1 l2 l3 l4 : Option Value) (x : Int32), jx_Ev d 108 61 [l0, l1, l2, l3, l4, some (.int x)] st M Q ↔ jx_Ev d 108 63 [l0, l1, l2, l3, l4, some (.int x)] (.int x :: st) M Q) ∧
  (∀ (d : Nat) (lv : List (Option Value)) (st : List Value) (M : jx_M) (Q : jx_Po) (x z : Int32), jx_Ev d 108 63 lv (.int z :: .int x :: st) M Q ↔ jx_Ev d 108 64 lv (.int (x <<< (z &&& 31)) :: st) M Q) ∧
  (∀ (d : Nat) (lv : List (Option Value)) (st : List Value) (M : jx_M) (Q : jx_Po) (x z : Int32), jx_Ev d 108 64 lv (.int z :: .int x :: st) M Q ↔ jx_Ev d 108 65 lv (.int (x ||| z) :: st) M Q) ∧
  (∀ (d : Nat) (st : List Value) (M : jx_M) (Q : jx_Po) (l0 l1 l2 l3 l4 l5 : Option Value) (x : Int32), jx_Ev d 108 65 [l0, l1, l2, l3, l4, l5] (.int x :: st) M Q ↔ jx_Ev d 108 67 [l0, l1, l2, l3, some (.int x), l5] st M Q) ∧
  (∀ (d : Nat) (st : List Value) (M : jx_M) (Q : jx_Po) (l1 l2 l3 l4 l5 : Option Value) (x : Nat), jx_Ev d 108 67 [some (.ref x), l1, l2, l3, l4, l5] st M Q ↔ jx_Ev d 108 68 [some (.ref x), l1, l2, l3, l4, l5] (.ref x :: st) M Q) ∧
  (∀ (d : Nat) (lv : List (Option Value)) (st : List Value) (M : jx_M) (Q : jx_Po), jx_Ev d 108 68 lv (.ref 36 :: st) M Q ↔ jx_Ev d 108 71 lv (.ref 41 :: st) M Q) ∧
  (∀ (d : Nat) (st : List Value) (M : jx_M) (Q : jx_Po) (l0 l1 l2 l3 l4 : Option Value) (x : Int32), jx_Ev d 108 71 [l0, l1, l2, l3, l4, some (.int x)] st M Q ↔ jx_Ev d 108 73 [l0, l1, l2, l3, l4, some (.int x)] (.int x :: st) M Q) ∧
  (∀ (d : Nat) (lv : List (Option Value)) (st : List Value) (M : jx_M) (Q : jx_Po) (x : Int32) (a : Nat) (ha : jx_cl a = 9), jx_Ev d 108 73 lv (.int x :: .ref a :: st) M Q ↔ (vp_in x (jx_sz a) ∧ jx_Ev d 108 74 lv (.int (M a x.toNatClampNeg) :: st) M Q)) ∧
  (∀ (d : Nat) (st : List Value) (M : jx_M) (Q : jx_Po) (l0 l1 l2 l3 l4 l5 : Option Value) (x : Int32), jx_Ev d 108 74 [l0, l1, l2, l3, l4, l5] (.int x :: st) M Q ↔ jx_Ev d 108 76 [l0, l1, l2, l3, l4, some (.int x)] st M Q) ∧
  (∀ (d : Nat) (lv : List (Option Value)) (st : List Value) (M : jx_M) (Q : jx_Po), jx_Ev d 108 76 lv st M Q ↔ jx_Ev d 108 11 lv st M Q) ∧
  (∀ (d : Nat) (lv : List (Option Value)) (st : List Value) (M : jx_M) (Q : jx_Po), jx_Ev d 108 79 lv st M Q ↔ jx_Ev d 108 81 lv (.int (-9) :: st) M Q) ∧
  (∀ (d : Nat) (lv : List (Option Value)) (M : jx_M) (Q : jx_Po) (x : Int32), jx_Ev d 108 81 lv [.int x] M Q ↔ Q [.int x] M) := by
  refine ⟨?_, ?_, ?_, ?_, ?_, ?_, ?_, ?_, ?_, ?_, ?_, ?_, ?_, ?_, ?_, ?_, ?_, ?_, ?_, ?_, ?_, ?_, ?_, ?_, ?_, ?_, ?_, ?_, ?_, ?_, ?_, ?_, ?_, ?_, ?_, ?_, ?_, ?_, ?_, ?_, ?_, ?_, ?_, ?_, ?_, ?_, ?_⟩
  · exact fun d lv st M Q => jx_ev_st (jx_fok (by decide +kernel : decode (jx_mb 108) 0 = .ok (.iconst 0, 1))) rfl rfl rfl
  · exact fun d st M Q l0 l1 l2 l3 l4 l5 x => jx_ev_st (jx_fok (by decide +kernel : decode (jx_mb 108) 1 = .ok (.istore 4, 2))) rfl rfl rfl
  · exact fun d st M Q l1 l2 l3 l4 l5 x => jx_ev_st (jx_fok (by decide +kernel : decode (jx_mb 108) 3 = .ok (.aload_n 0, 1))) rfl rfl rfl
  · exact fun d lv st M Q => jx_k_gf (jx_fok (by decide +kernel : decode (jx_mb 108) 4 = .ok (.getfield 31, 3))) rfl rfl rfl
  · exact fun d st M Q l0 l2 l3 l4 l5 x => jx_ev_st (jx_fok (by decide +kernel : decode (jx_mb 108) 7 = .ok (.iload_n 1, 1))) rfl rfl rfl
  · exact fun d lv st M Q x a ha => jx_k_al (jx_fok (by decide +kernel : decode (jx_mb 108) 8 = .ok (.iaload, 1))) ha
  · exact fun d st M Q l0 l1 l2 l3 l4 l5 x => jx_ev_st (jx_fok (by decide +kernel : decode (jx_mb 108) 9 = .ok (.istore 5, 2))) rfl rfl rfl
  · exact fun d st M Q l0 l1 l2 l3 l4 x => jx_ev_st (jx_fok (by decide +kernel : decode (jx_mb 108) 12 = .ok (.iload 5, 2))) rfl rfl rfl
  · exact fun d lv M Q a0 => jx_ev_ci (jx_fok (by decide +kernel : decode (jx_mb 108) 14 = .ok (.invokevirtual 142, 3))) rfl (jx_ccV (As := [.int a0]) (rest := []) rfl rfl rfl rfl rfl rfl) (by decide)
  · exact fun d lv st M Q x => jx_k_b1 (jx_fok (by decide +kernel : decode (jx_mb 108) 17 = .ok (.ifCond .eq 62, 3))) rfl jx_hEq
  · exact fun d st M Q l0 l1 l2 l3 l5 x => jx_ev_st (jx_fok (by decide +kernel : decode (jx_mb 108) 20 = .ok (.iload 4, 2))) rfl rfl rfl
  · exact fun d st M Q l0 l1 l2 l3 l4 x => jx_ev_st (jx_fok (by decide +kernel : decode (jx_mb 108) 22 = .ok (.iload 5, 2))) rfl rfl rfl
  · exact fun d lv st M Q x z => jx_ev_st (jx_fok (by decide +kernel : decode (jx_mb 108) 24 = .ok (.ishr, 1))) rfl rfl rfl
  · exact fun d lv st M Q => jx_ev_st (jx_fok (by decide +kernel : decode (jx_mb 108) 25 = .ok (.iconst 1, 1))) rfl rfl rfl
  · exact fun d lv st M Q x z => jx_ev_st (jx_fok (by decide +kernel : decode (jx_mb 108) 26 = .ok (.iand, 1))) rfl rfl rfl
  · exact fun d lv st M Q x => jx_k_b1n (jx_fok (by decide +kernel : decode (jx_mb 108) 27 = .ok (.ifCond .ne 52, 3))) rfl jx_hNe
  · exact fun d st M Q l0 l1 l2 l4 l5 x => jx_ev_st (jx_fok (by decide +kernel : decode (jx_mb 108) 30 = .ok (.iload_n 3, 1))) rfl rfl rfl
  · exact fun d st M Q l0 l1 l2 l3 l4 x => jx_ev_st (jx_fok (by decide +kernel : decode (jx_mb 108) 31 = .ok (.iload 5, 2))) rfl rfl rfl
  · exact fun d lv st M Q x z => jx_ev_st (jx_fok (by decide +kernel : decode (jx_mb 108) 33 = .ok (.ishr, 1))) rfl rfl rfl
  · exact fun d lv st M Q => jx_ev_st (jx_fok (by decide +kernel : decode (jx_mb 108) 34 = .ok (.iconst 1, 1))) rfl rfl rfl
  · exact fun d lv st M Q x z => jx_ev_st (jx_fok (by decide +kernel : decode (jx_mb 108) 35 = .ok (.iand, 1))) rfl rfl rfl
  · exact fun d lv st M Q x => jx_k_b1n (jx_fok (by decide +kernel : decode (jx_mb 108) 36 = .ok (.ifCond .ne 22, 3))) rfl jx_hNe
  · exact fun d st M Q l1 l2 l3 l4 l5 x => jx_ev_st (jx_fok (by decide +kernel : decode (jx_mb 108) 39 = .ok (.aload_n 0, 1))) rfl rfl rfl
  · exact fun d st M Q l0 l2 l3 l4 l5 x => jx_ev_st (jx_fok (by decide +kernel : decode (jx_mb 108) 40 = .ok (.iload_n 1, 1))) rfl rfl rfl
  · exact fun d st M Q l0 l1 l3 l4 l5 x => jx_ev_st (jx_fok (by decide +kernel : decode (jx_mb 108) 41 = .ok (.iload_n 2, 1))) rfl rfl rfl
  · exact fun d lv M Q a0 a1 => jx_ev_ci (jx_fok (by decide +kernel : decode (jx_mb 108) 42 = .ok (.invokevirtual 154, 3))) rfl (jx_ccV (As := [.int a1, .int a0]) (rest := []) rfl rfl rfl rfl rfl rfl) (by decide)
  · exact fun d st M Q l1 l2 l3 l4 l5 x => jx_ev_st (jx_fok (by decide +kernel : decode (jx_mb 108) 45 = .ok (.aload_n 0, 1))) rfl rfl rfl
  · exact fun d lv st M Q => jx_k_gf (jx_fok (by decide +kernel : decode (jx_mb 108) 46 = .ok (.getfield 19, 3))) rfl rfl rfl
  · exact fun d st M Q l0 l1 l2 l3 l4 x => jx_ev_st (jx_fok (by decide +kernel : decode (jx_mb 108) 49 = .ok (.iload 5, 2))) rfl rfl rfl
  · exact fun d lv st M Q x a ha => jx_k_al (jx_fok (by decide +kernel : decode (jx_mb 108) 51 = .ok (.iaload, 1))) ha
  · exact fun d lv st M Q x z => jx_k_b2 (jx_fok (by decide +kernel : decode (jx_mb 108) 52 = .ok (.if_icmp .gt 6, 3))) rfl jx_hGt
  · exact fun d st M Q l0 l1 l2 l3 l4 x => jx_ev_st (jx_fok (by decide +kernel : decode (jx_mb 108) 55 = .ok (.iload 5, 2))) rfl rfl rfl
  · exact fun d lv M Q x => jx_k_ri (jx_fok (by decide +kernel : decode (jx_mb 108) 57 = .ok (.ireturn, 1))) rfl
  · exact fun d st M Q l0 l1 l2 l3 l5 x => jx_ev_st (jx_fok (by decide +kernel : decode (jx_mb 108) 58 = .ok (.iload 4, 2))) rfl rfl rfl
  · exact fun d lv st M Q => jx_ev_st (jx_fok (by decide +kernel : decode (jx_mb 108) 60 = .ok (.iconst 1, 1))) rfl rfl rfl
  · exact fun d st M Q l0 l1 l2 l3 l4 x => jx_ev_st (jx_fok (by decide +kernel : decode (jx_mb 108) 61 = .ok (.iload 5, 2))) rfl rfl rfl
  · exact fun d lv st M Q x z => jx_ev_st (jx_fok (by decide +kernel : decode (jx_mb 108) 63 = .ok (.ishl, 1))) rfl rfl rfl
  · exact fun d lv st M Q x z => jx_ev_st (jx_fok (by decide +kernel : decode (jx_mb 108) 64 = .ok (.ior, 1))) rfl rfl rfl
  · exact fun d st M Q l0 l1 l2 l3 l4 l5 x => jx_ev_st (jx_fok (by decide +kernel : decode (jx_mb 108) 65 = .ok (.istore 4, 2))) rfl rfl rfl
  · exact fun d st M Q l1 l2 l3 l4 l5 x => jx_ev_st (jx_fok (by decide +kernel : decode (jx_mb 108) 67 = .ok (.aload_n 0, 1))) rfl rfl rfl
  · exact fun d lv st M Q => jx_k_gf (jx_fok (by decide +kernel : decode (jx_mb 108) 68 = .ok (.getfield 22, 3))) rfl rfl rfl
  · exact fun d st M Q l0 l1 l2 l3 l4 x => jx_ev_st (jx_fok (by decide +kernel : decode (jx_mb 108) 71 = .ok (.iload 5, 2))) rfl rfl rfl
  · exact fun d lv st M Q x a ha => jx_k_al (jx_fok (by decide +kernel : decode (jx_mb 108) 73 = .ok (.iaload, 1))) ha
  · exact fun d st M Q l0 l1 l2 l3 l4 l5 x => jx_ev_st (jx_fok (by decide +kernel : decode (jx_mb 108) 74 = .ok (.istore 5, 2))) rfl rfl rfl
  · exact fun d lv st M Q => jx_k_goto (jx_fok (by decide +kernel : decode (jx_mb 108) 76 = .ok (.goto (-65), 3))) rfl
  · exact fun d lv st M Q => jx_ev_st (jx_fok (by decide +kernel : decode (jx_mb 108) 79 = .ok (.bipush (-9), 2))) rfl rfl rfl
  · exact fun d lv M Q x => jx_k_ri (jx_fok (by decide +kernel : decode (jx_mb 108) 81 = .ok (.ireturn, 1))) rfl
theorem eX8_ownerOf_11 (d : Nat) (st : List Value) (M : jx_M) (Q : jx_Po) (l1 l2 l3 l4 l5 : Option Value) (x : Nat) : jx_Ev d 108 11 [some (.ref x), l1, l2, l3, l4, l5] st M Q ↔ jx_Ev d 108 12 [some (.ref x), l1, l2, l3, l4, l5] (.ref x :: st) M Q := jx_ev_st (jx_fok (by decide +kernel : decode (jx_mb 108) 11 = .ok (.aload_n 0, 1))) rfl rfl rfl
theorem kX8_ownerOf (d : Nat) (M : jx_M) (q : Int32 → jx_M → Prop) (a0 a1 a2 a3 : Value) : jx_I d 108 [a0, a1, a2, a3] M q ↔ jx_Ev d 108 0 [some a0, some a1, some a2, some a3, none, none] [] M (jx_qI q) := Iff.rfl
set_option maxRecDepth 100000 in
theorem eX8_owner :
  (∀ (d : Nat) (st : List Value) (M : jx_M) (Q : jx_Po) (l1 l2 : Option Value) (x : Nat), jx_Ev d 109 0 [some (.ref x), l1, l2] st M Q ↔ jx_Ev d 109 1 [some (.ref x), l1, l2] (.ref x :: st) M Q) ∧
  (∀ (d : Nat) (st : List Value) (M : jx_M) (Q : jx_Po) (l0 l2 : Option Value) (x : Int32), jx_Ev d 109 1 [l0, some (.int x), l2] st M Q ↔ jx_Ev d 109 2 [l0, some (.int x), l2] (.int x :: st) M Q) ∧
  (∀ (d : Nat) (lv : List (Option Value)) (M : jx_M) (Q : jx_Po) (a0 : Int32), jx_Ev (d + 1) 109 2 lv [.int a0, .ref 36] M Q ↔ jx_I d 91 [.ref 36, .int a0] M (fun x M => jx_Ev (d + 1) 109 5 lv (.int x :: []) M Q)) ∧
  (∀ (d : Nat) (lv : List (Option Value)) (st : List Value) (M : jx_M) (Q : jx_Po) (x : Int32), jx_Ev d 109 5 lv (.int x :: st) M Q ↔ (if x = 0 then jx_Ev d 109 8 lv st M Q else jx_Ev d 109 10 lv st M Q)) ∧
  (∀ (d : Nat) (lv : List (Option Value)) (st : List Value) (M : jx_M) (Q : jx_Po), jx_Ev d 109 8 lv st M Q ↔ jx_Ev d 109 9 lv (.int (-1) :: st) M Q) ∧
  (∀ (d : Nat) (lv : List (Option Value)) (M : jx_M) (Q : jx_Po) (x : Int32), jx_Ev d 109 9 lv [.int x] M Q ↔ Q [.int x] M) ∧
  (∀ (d : Nat) (st : List Value) (M : jx_M) (Q : jx_Po) (l0 l1 : Option Value) (x : Int32), jx_Ev d 109 10 [l0, l1, some (.int x)] st M Q ↔ jx_Ev d 109 11 [l0, l1, some (.int x)] (.int x :: st) M Q) ∧
  (∀ (d : Nat) (lv : List (Option Value)) (M : jx_M) (Q : jx_Po) (a0 : Int32), jx_Ev (d + 1) 109 11 lv [.int a0] M Q ↔ jx_I d 106 [.int a0] M (fun x M => jx_Ev (d + 1) 109 14 lv (.int x :: []) M Q)) ∧
  (∀ (d : Nat) (lv : List (Option Value)) (st : List Value) (M : jx_M) (Q : jx_Po) (x : Int32), jx_Ev d 109 14 lv (.int x :: st) M Q ↔ (if x = 0 then jx_Ev d 109 27 lv st M Q else jx_Ev d 109 17 lv st M Q)) ∧
  (∀ (d : Nat) (st : List Value) (M : jx_M) (Q : jx_Po) (l1 l2 : Option Value) (x : Nat), jx_Ev d 109 17 [some (.ref x), l1, l2] st M Q ↔ jx_Ev d 109 18 [some (.ref x), l1, l2] (.ref x :: st) M Q) ∧
  (∀ (d : Nat) (st : List Value) (M : jx_M) (Q : jx_Po) (l0 l2 : Option Value) (x : Int32), jx_Ev d 109 18 [l0, some (.int x), l2] st M Q ↔ jx_Ev d 109 19 [l0, some (.int x), l2] (.int x :: st) M Q) ∧
  (∀ (d : Nat) (st : List Value) (M : jx_M) (Q : jx_Po) (l0 l1 : Option Value) (x : Int32), jx_Ev d 109 19 [l0, l1, some (.int x)] st M Q ↔ jx_Ev d 109 20 [l0, l1, some (.int x)] (.int x :: st) M Q) ∧
  (∀ (d : Nat) (lv : List (Option Value)) (st : List Value) (M : jx_M) (Q : jx_Po), jx_Ev d 109 20 lv st M Q ↔ jx_Ev d 109 21 lv (.int 0 :: st) M Q) ∧
  (∀ (d : Nat) (lv : List (Option Value)) (M : jx_M) (Q : jx_Po) (a0 : Int32) (a1 : Int32) (a2 : Int32), jx_Ev (d + 1) 109 21 lv [.int a0, .int a1, .int a2, .ref 36] M Q ↔ jx_I d 108 [.ref 36, .int a2, .int a1, .int a0] M (fun x M => jx_Ev (d + 1) 109 24 lv (.int x :: []) M Q)) ∧
  (∀ (d : Nat) (lv : List (Option Value)) (st : List Value) (M : jx_M) (Q : jx_Po), jx_Ev d 109 24 lv st M Q ↔ jx_Ev d 109 29 lv st M Q) ∧
  (∀ (d : Nat) (lv : List (Option Value)) (st : List Value) (M : jx_M) (Q : jx_Po), jx_Ev d 109 27 lv st M Q ↔ jx_Ev d 109 29 lv (.int (-2) :: st) M Q) ∧
  (∀ (d : Nat) (lv : List (Option Value)) (M : jx_M) (Q : jx_Po) (x : Int32), jx_Ev d 109 29 lv [.int x] M Q ↔ Q [.int x] M) := by
  refine ⟨?_, ?_, ?_, ?_, ?_, ?_, ?_, ?_, ?_, ?_, ?_, ?_, ?_, ?_, ?_, ?_, ?_⟩
  · exact fun d st M Q l1 l2 x => jx_ev_st (jx_fok (by decide +kernel : decode (jx_mb 109) 0 = .ok (.aload_n 0, 1))) rfl rfl rfl
  · exact fun d st M Q l0 l2 x => jx_ev_st (jx_fok (by decide +kernel : decode (jx_mb 109) 1 = .ok (.iload_n 1, 1))) rfl rfl rfl
  · exact fun d lv M Q a0 => jx_ev_ci (jx_fok (by decide +kernel : decode (jx_mb 109) 2 = .ok (.invokevirtual 148, 3))) rfl (jx_ccV (As := [.int a0]) (rest := []) rfl rfl rfl rfl rfl rfl) (by decide)
  · exact fun d lv st M Q x => jx_k_b1n (jx_fok (by decide +kernel : decode (jx_mb 109) 5 = .ok (.ifCond .ne 5, 3))) rfl jx_hNe
  · exact fun d lv st M Q => jx_ev_st (jx_fok (by decide +kernel : decode (jx_mb 109) 8 = .ok (.iconst (-1), 1))) rfl rfl rfl
  · exact fun d lv M Q x => jx_k_ri (jx_fok (by decide +kernel : decode (jx_mb 109) 9 = .ok (.ireturn, 1))) rfl
  · exact fun d st M Q l0 l1 x => jx_ev_st (jx_fok (by decide +kernel : decode (jx_mb 109) 10 = .ok (.iload_n 2, 1))) rfl rfl rfl
  · exact fun d lv M Q a0 => jx_ev_ci (jx_fok (by decide +kernel : decode (jx_mb 109) 11 = .ok (.invokestatic 151, 3))) rfl (jx_ccS (As := [.int a0]) (rest := []) rfl rfl rfl rfl rfl) (by decide)
  · exact fun d lv st M Q x => jx_k_b1 (jx_fok (by decide +kernel : decode (jx_mb 109) 14 = .ok (.ifCond .eq 13, 3))) rfl jx_hEq
  · exact fun d st M Q l1 l2 x => jx_ev_st (jx_fok (by decide +kernel : decode (jx_mb 109) 17 = .ok (.aload_n 0, 1))) rfl rfl rfl
  · exact fun d st M Q l0 l2 x => jx_ev_st (jx_fok (by decide +kernel : decode (jx_mb 109) 18 = .ok (.iload_n 1, 1))) rfl rfl rfl
  · exact fun d st M Q l0 l1 x => jx_ev_st (jx_fok (by decide +kernel : decode (jx_mb 109) 19 = .ok (.iload_n 2, 1))) rfl rfl rfl
  · exact fun d lv st M Q => jx_ev_st (jx_fok (by decide +kernel : decode (jx_mb 109) 20 = .ok (.iconst 0, 1))) rfl rfl rfl
  · exact fun d lv M Q a0 a1 a2 => jx_ev_ci (jx_fok (by decide +kernel : decode (jx_mb 109) 21 = .ok (.invokevirtual 158, 3))) rfl (jx_ccV (As := [.int a2, .int a1, .int a0]) (rest := []) rfl rfl rfl rfl rfl rfl) (by decide)
  · exact fun d lv st M Q => jx_k_goto (jx_fok (by decide +kernel : decode (jx_mb 109) 24 = .ok (.goto 5, 3))) rfl
  · exact fun d lv st M Q => jx_ev_st (jx_fok (by decide +kernel : decode (jx_mb 109) 27 = .ok (.bipush (-2), 2))) rfl rfl rfl
  · exact fun d lv M Q x => jx_k_ri (jx_fok (by decide +kernel : decode (jx_mb 109) 29 = .ok (.ireturn, 1))) rfl
theorem kX8_owner (d : Nat) (M : jx_M) (q : Int32 → jx_M → Prop) (a0 a1 a2 : Value) : jx_I d 109 [a0, a1, a2] M q ↔ jx_Ev d 109 0 [some a0, some a1, some a2] [] M (jx_qI q) := Iff.rfl
set_option maxRecDepth 100000 in
theorem eX8_last :
  (∀ (d : Nat) (st : List Value) (M : jx_M) (Q : jx_Po) (l1 l2 : Option Value) (x : Nat), jx_Ev d 110 0 [some (.ref x), l1, l2] st M Q ↔ jx_Ev d 110 1 [some (.ref x), l1, l2] (.ref x :: st) M Q) ∧
  (∀ (d : Nat) (st : List Value) (M : jx_M) (Q : jx_Po) (l0 l2 : Option Value) (x : Int32), jx_Ev d 110 1 [l0, some (.int x), l2] st M Q ↔ jx_Ev d 110 2 [l0, some (.int x), l2] (.int x :: st) M Q) ∧
  (∀ (d : Nat) (lv : List (Option Value)) (M : jx_M) (Q : jx_Po) (a0 : Int32), jx_Ev (d + 1) 110 2 lv [.int a0, .ref 36] M Q ↔ jx_I d 91 [.ref 36, .int a0] M (fun x M => jx_Ev (d + 1) 110 5 lv (.int x :: []) M Q)) ∧
  (∀ (d : Nat) (lv : List (Option Value)) (st : List Value) (M : jx_M) (Q : jx_Po) (x : Int32), jx_Ev d 110 5 lv (.int x :: st) M Q ↔ (if x = 0 then jx_Ev d 110 8 lv st M Q else jx_Ev d 110 10 lv st M Q)) ∧
  (∀ (d : Nat) (lv : List (Option Value)) (st : List Value) (M : jx_M) (Q : jx_Po), jx_Ev d 110 8 lv st M Q ↔ jx_Ev d 110 9 lv (.int (-1) :: st) M Q) ∧
  (∀ (d : Nat) (lv : List (Option Value)) (M : jx_M) (Q : jx_Po) (x : Int32), jx_Ev d 110 9 lv [.int x] M Q ↔ Q [.int x] M) ∧
  (∀ (d : Nat) (lv : List (Option Value)) (st : List Value) (M : jx_M) (Q : jx_Po), jx_Ev d 110 10 lv st M Q ↔ jx_Ev d 110 12 lv (.int 9 :: st) M Q) ∧
  (∀ (d : Nat) (st : List Value) (M : jx_M) (Q : jx_Po) (l0 l1 l2 : Option Value) (x : Int32), jx_Ev d 110 12 [l0, l1, l2] (.int x :: st) M Q ↔ jx_Ev d 110 13 [l0, l1, some (.int x)] st M Q) ∧
  (∀ (d : Nat) (lv : List (Option Value)) (st : List Value) (M : jx_M) (Q : jx_Po) (x : Int32), jx_Ev d 110 14 lv (.int x :: st) M Q ↔ (if x < 0 then jx_Ev d 110 37 lv st M Q else jx_Ev d 110 17 lv st M Q)) ∧
  (∀ (d : Nat) (st : List Value) (M : jx_M) (Q : jx_Po) (l1 l2 : Option Value) (x : Nat), jx_Ev d 110 17 [some (.ref x), l1, l2] st M Q ↔ jx_Ev d 110 18 [some (.ref x), l1, l2] (.ref x :: st) M Q) ∧
  (∀ (d : Nat) (st : List Value) (M : jx_M) (Q : jx_Po) (l0 l2 : Option Value) (x : Int32), jx_Ev d 110 18 [l0, some (.int x), l2] st M Q ↔ jx_Ev d 110 19 [l0, some (.int x), l2] (.int x :: st) M Q) ∧
  (∀ (d : Nat) (st : List Value) (M : jx_M) (Q : jx_Po) (l0 l1 : Option Value) (x : Int32), jx_Ev d 110 19 [l0, l1, some (.int x)] st M Q ↔ jx_Ev d 110 20 [l0, l1, some (.int x)] (.int x :: st) M Q) ∧
  (∀ (d : Nat) (lv : List (Option Value)) (st : List Value) (M : jx_M) (Q : jx_Po), jx_Ev d 110 20 lv st M Q ↔ jx_Ev d 110 21 lv (.int 0 :: st) M Q) ∧
  (∀ (d : Nat) (lv : List (Option Value)) (M : jx_M) (Q : jx_Po) (a0 : Int32) (a1 : Int32) (a2 : Int32), jx_Ev (d + 1) 110 21 lv [.int a0, .int a1, .int a2, .ref 36] M Q ↔ jx_I d 108 [.ref 36, .int a2, .int a1, .int a0] M (fun x M => jx_Ev (d + 1) 110 24 lv (.int x :: []) M Q)) ∧
  (∀ (d : Nat) (lv : List (Option Value)) (st : List Value) (M : jx_M) (Q : jx_Po), jx_Ev d 110 24 lv st M Q ↔ jx_Ev d 110 26 lv (.int (-9) :: st) M Q) ∧
  (∀ (d : Nat) (lv : List (Option Value)) (st : List Value) (M : jx_M) (Q : jx_Po) (x z : Int32), jx_Ev d 110 26 lv (.int z :: .int x :: st) M Q ↔ (if x = z then jx_Ev d 110 31 lv st M Q else jx_Ev d 110 29 lv st M Q)) ∧
  (∀ (d : Nat) (st : List Value) (M : jx_M) (Q : jx_Po) (l0 l1 : Option Value) (x : Int32), jx_Ev d 110 29 [l0, l1, some (.int x)] st M Q ↔ jx_Ev d 110 30 [l0, l1, some (.int x)] (.int x :: st) M Q) ∧
  (∀ (d : Nat) (lv : List (Option Value)) (M : jx_M) (Q : jx_Po) (x : Int32), jx_Ev d 110 30 lv [.int x] M Q ↔ Q [.int x] M) ∧
  (∀ (d : Nat) (st : List Value) (M : jx_M) (Q : jx_Po) (l0 l1 : Option Value) (x : Int32), jx_Ev d 110 31 [l0, l1, some (.int x)] st M Q ↔ jx_Ev d 110 34 [l0, l1, some (.int (x + (-1)))] st M Q) ∧
  (∀ (d : Nat) (lv : List (Option Value)) (st : List Value) (M : jx_M) (Q : jx_Po), jx_Ev d 110 34 lv st M Q ↔ jx_Ev d 110 13 lv st M Q) ∧
  (∀ (d : Nat) (lv : List (Option Value)) (st : List Value) (M : jx_M) (Q : jx_Po), jx_Ev d 110 37 lv st M Q ↔ jx_Ev d 110 39 lv (.int (-9) :: st) M Q) ∧
  (∀ (d : Nat) (lv : List (Option Value)) (M : jx_M) (Q : jx_Po) (x : Int32), jx_Ev d 110 39 lv [.int x] M Q ↔ Q [.int x] M) := by
  refine ⟨?_, ?_, ?_, ?_, ?_, ?_, ?_, ?_, ?_, ?_, ?_, ?_, ?_, ?_, ?_, ?_, ?_, ?_, ?_, ?_, ?_, ?_⟩
  · exact fun d st M Q l1 l2 x => jx_ev_st (jx_fok (by decide +kernel : decode (jx_mb 110) 0 = .ok (.aload_n 0, 1))) rfl rfl rfl
  · exact fun d st M Q l0 l2 x => jx_ev_st (jx_fok (by decide +kernel : decode (jx_mb 110) 1 = .ok (.iload_n 1, 1))) rfl rfl rfl
  · exact fun d lv M Q a0 => jx_ev_ci (jx_fok (by decide +kernel : decode (jx_mb 110) 2 = .ok (.invokevirtual 148, 3))) rfl (jx_ccV (As := [.int a0]) (rest := []) rfl rfl rfl rfl rfl rfl) (by decide)
  · exact fun d lv st M Q x => jx_k_b1n (jx_fok (by decide +kernel : decode (jx_mb 110) 5 = .ok (.ifCond .ne 5, 3))) rfl jx_hNe
  · exact fun d lv st M Q => jx_ev_st (jx_fok (by decide +kernel : decode (jx_mb 110) 8 = .ok (.iconst (-1), 1))) rfl rfl rfl
  · exact fun d lv M Q x => jx_k_ri (jx_fok (by decide +kernel : decode (jx_mb 110) 9 = .ok (.ireturn, 1))) rfl
  · exact fun d lv st M Q => jx_ev_st (jx_fok (by decide +kernel : decode (jx_mb 110) 10 = .ok (.bipush 9, 2))) rfl rfl rfl
  · exact fun d st M Q l0 l1 l2 x => jx_ev_st (jx_fok (by decide +kernel : decode (jx_mb 110) 12 = .ok (.istore_n 2, 1))) rfl rfl rfl
  · exact fun d lv st M Q x => jx_k_b1 (jx_fok (by decide +kernel : decode (jx_mb 110) 14 = .ok (.ifCond .lt 23, 3))) rfl jx_hLt
  · exact fun d st M Q l1 l2 x => jx_ev_st (jx_fok (by decide +kernel : decode (jx_mb 110) 17 = .ok (.aload_n 0, 1))) rfl rfl rfl
  · exact fun d st M Q l0 l2 x => jx_ev_st (jx_fok (by decide +kernel : decode (jx_mb 110) 18 = .ok (.iload_n 1, 1))) rfl rfl rfl
  · exact fun d st M Q l0 l1 x => jx_ev_st (jx_fok (by decide +kernel : decode (jx_mb 110) 19 = .ok (.iload_n 2, 1))) rfl rfl rfl
  · exact fun d lv st M Q => jx_ev_st (jx_fok (by decide +kernel : decode (jx_mb 110) 20 = .ok (.iconst 0, 1))) rfl rfl rfl
  · exact fun d lv M Q a0 a1 a2 => jx_ev_ci (jx_fok (by decide +kernel : decode (jx_mb 110) 21 = .ok (.invokevirtual 158, 3))) rfl (jx_ccV (As := [.int a2, .int a1, .int a0]) (rest := []) rfl rfl rfl rfl rfl rfl) (by decide)
  · exact fun d lv st M Q => jx_ev_st (jx_fok (by decide +kernel : decode (jx_mb 110) 24 = .ok (.bipush (-9), 2))) rfl rfl rfl
  · exact fun d lv st M Q x z => jx_k_b2 (jx_fok (by decide +kernel : decode (jx_mb 110) 26 = .ok (.if_icmp .eq 5, 3))) rfl jx_hEq
  · exact fun d st M Q l0 l1 x => jx_ev_st (jx_fok (by decide +kernel : decode (jx_mb 110) 29 = .ok (.iload_n 2, 1))) rfl rfl rfl
  · exact fun d lv M Q x => jx_k_ri (jx_fok (by decide +kernel : decode (jx_mb 110) 30 = .ok (.ireturn, 1))) rfl
  · exact fun d st M Q l0 l1 x => jx_ev_st (jx_fok (by decide +kernel : decode (jx_mb 110) 31 = .ok (.iinc 2 (-1), 3))) rfl rfl rfl
  · exact fun d lv st M Q => jx_k_goto (jx_fok (by decide +kernel : decode (jx_mb 110) 34 = .ok (.goto (-21), 3))) rfl
  · exact fun d lv st M Q => jx_ev_st (jx_fok (by decide +kernel : decode (jx_mb 110) 37 = .ok (.bipush (-9), 2))) rfl rfl rfl
  · exact fun d lv M Q x => jx_k_ri (jx_fok (by decide +kernel : decode (jx_mb 110) 39 = .ok (.ireturn, 1))) rfl
theorem eX8_last_13 (d : Nat) (st : List Value) (M : jx_M) (Q : jx_Po) (l0 l1 : Option Value) (x : Int32) : jx_Ev d 110 13 [l0, l1, some (.int x)] st M Q ↔ jx_Ev d 110 14 [l0, l1, some (.int x)] (.int x :: st) M Q := jx_ev_st (jx_fok (by decide +kernel : decode (jx_mb 110) 13 = .ok (.iload_n 2, 1))) rfl rfl rfl
theorem kX8_last (d : Nat) (M : jx_M) (q : Int32 → jx_M → Prop) (a0 a1 : Value) : jx_I d 110 [a0, a1] M q ↔ jx_Ev d 110 0 [some a0, some a1, none] [] M (jx_qI q) := Iff.rfl
set_option maxRecDepth 100000 in
theorem eX8_harmTo :
  (∀ (d : Nat) (lv : List (Option Value)) (st : List Value) (M : jx_M) (Q : jx_Po), jx_Ev d 111 0 lv st M Q ↔ jx_Ev d 111 1 lv (.int 0 :: st) M Q) ∧
  (∀ (d : Nat) (st : List Value) (M : jx_M) (Q : jx_Po) (l0 l1 l2 l3 l4 l5 : Option Value) (x : Int32), jx_Ev d 111 1 [l0, l1, l2, l3, l4, l5] (.int x :: st) M Q ↔ jx_Ev d 111 2 [l0, l1, some (.int x), l3, l4, l5] st M Q) ∧
  (∀ (d : Nat) (lv : List (Option Value)) (st : List Value) (M : jx_M) (Q : jx_Po), jx_Ev d 111 2 lv st M Q ↔ jx_Ev d 111 3 lv (.int 0 :: st) M Q) ∧
  (∀ (d : Nat) (st : List Value) (M : jx_M) (Q : jx_Po) (l0 l1 l2 l3 l4 l5 : Option Value) (x : Int32), jx_Ev d 111 3 [l0, l1, l2, l3, l4, l5] (.int x :: st) M Q ↔ jx_Ev d 111 4 [l0, l1, l2, some (.int x), l4, l5] st M Q) ∧
  (∀ (d : Nat) (lv : List (Option Value)) (st : List Value) (M : jx_M) (Q : jx_Po), jx_Ev d 111 5 lv st M Q ↔ jx_Ev d 111 6 lv (.int 4 :: st) M Q) ∧
  (∀ (d : Nat) (lv : List (Option Value)) (st : List Value) (M : jx_M) (Q : jx_Po) (x z : Int32), jx_Ev d 111 6 lv (.int z :: .int x :: st) M Q ↔ (if z ≤ x then jx_Ev d 111 101 lv st M Q else jx_Ev d 111 9 lv st M Q)) ∧
  (∀ (d : Nat) (lv : List (Option Value)) (st : List Value) (M : jx_M) (Q : jx_Po), jx_Ev d 111 9 lv st M Q ↔ jx_Ev d 111 10 lv (.int 0 :: st) M Q) ∧
  (∀ (d : Nat) (st : List Value) (M : jx_M) (Q : jx_Po) (l0 l1 l2 l3 l4 l5 : Option Value) (x : Int32), jx_Ev d 111 10 [l0, l1, l2, l3, l4, l5] (.int x :: st) M Q ↔ jx_Ev d 111 12 [l0, l1, l2, l3, some (.int x), l5] st M Q) ∧
  (∀ (d : Nat) (lv : List (Option Value)) (st : List Value) (M : jx_M) (Q : jx_Po), jx_Ev d 111 12 lv st M Q ↔ jx_Ev d 111 13 lv (.int 0 :: st) M Q) ∧
  (∀ (d : Nat) (st : List Value) (M : jx_M) (Q : jx_Po) (l0 l1 l2 l3 l4 l5 : Option Value) (x : Int32), jx_Ev d 111 13 [l0, l1, l2, l3, l4, l5] (.int x :: st) M Q ↔ jx_Ev d 111 15 [l0, l1, l2, l3, l4, some (.int x)] st M Q) ∧
  (∀ (d : Nat) (st : List Value) (M : jx_M) (Q : jx_Po) (l1 l2 l3 l4 l5 : Option Value) (x : Nat), jx_Ev d 111 17 [some (.ref x), l1, l2, l3, l4, l5] st M Q ↔ jx_Ev d 111 18 [some (.ref x), l1, l2, l3, l4, l5] (.ref x :: st) M Q) ∧
  (∀ (d : Nat) (lv : List (Option Value)) (st : List Value) (M : jx_M) (Q : jx_Po), jx_Ev d 111 18 lv (.ref 36 :: st) M Q ↔ jx_Ev d 111 21 lv (.int (M 36 6) :: st) M Q) ∧
  (∀ (d : Nat) (lv : List (Option Value)) (st : List Value) (M : jx_M) (Q : jx_Po) (x z : Int32), jx_Ev d 111 21 lv (.int z :: .int x :: st) M Q ↔ (if z ≤ x then jx_Ev d 111 68 lv st M Q else jx_Ev d 111 24 lv st M Q)) ∧
  (∀ (d : Nat) (st : List Value) (M : jx_M) (Q : jx_Po) (l0 l1 l2 l3 l5 : Option Value) (x : Int32), jx_Ev d 111 24 [l0, l1, l2, l3, some (.int x), l5] st M Q ↔ jx_Ev d 111 26 [l0, l1, l2, l3, some (.int x), l5] (.int x :: st) M Q) ∧
  (∀ (d : Nat) (st : List Value) (M : jx_M) (Q : jx_Po) (l1 l2 l3 l4 l5 : Option Value) (x : Nat), jx_Ev d 111 26 [some (.ref x), l1, l2, l3, l4, l5] st M Q ↔ jx_Ev d 111 27 [some (.ref x), l1, l2, l3, l4, l5] (.ref x :: st) M Q) ∧
  (∀ (d : Nat) (lv : List (Option Value)) (st : List Value) (M : jx_M) (Q : jx_Po), jx_Ev d 111 27 lv (.ref 36 :: st) M Q ↔ jx_Ev d 111 30 lv (.ref 44 :: st) M Q) ∧
  (∀ (d : Nat) (st : List Value) (M : jx_M) (Q : jx_Po) (l0 l1 l2 l3 l4 : Option Value) (x : Int32), jx_Ev d 111 30 [l0, l1, l2, l3, l4, some (.int x)] st M Q ↔ jx_Ev d 111 32 [l0, l1, l2, l3, l4, some (.int x)] (.int x :: st) M Q) ∧
  (∀ (d : Nat) (lv : List (Option Value)) (st : List Value) (M : jx_M) (Q : jx_Po) (x : Int32) (a : Nat) (ha : jx_cl a = 9), jx_Ev d 111 32 lv (.int x :: .ref a :: st) M Q ↔ (vp_in x (jx_sz a) ∧ jx_Ev d 111 33 lv (.int (M a x.toNatClampNeg) :: st) M Q)) ∧
  (∀ (d : Nat) (st : List Value) (M : jx_M) (Q : jx_Po) (l0 l2 l3 l4 l5 : Option Value) (x : Int32), jx_Ev d 111 33 [l0, some (.int x), l2, l3, l4, l5] st M Q ↔ jx_Ev d 111 34 [l0, some (.int x), l2, l3, l4, l5] (.int x :: st) M Q) ∧
  (∀ (d : Nat) (lv : List (Option Value)) (st : List Value) (M : jx_M) (Q : jx_Po) (x z : Int32), jx_Ev d 111 34 lv (.int z :: .int x :: st) M Q ↔ (if x = z then jx_Ev d 111 37 lv st M Q else jx_Ev d 111 58 lv st M Q)) ∧
  (∀ (d : Nat) (st : List Value) (M : jx_M) (Q : jx_Po) (l1 l2 l3 l4 l5 : Option Value) (x : Nat), jx_Ev d 111 37 [some (.ref x), l1, l2, l3, l4, l5] st M Q ↔ jx_Ev d 111 38 [some (.ref x), l1, l2, l3, l4, l5] (.ref x :: st) M Q) ∧
  (∀ (d : Nat) (lv : List (Option Value)) (st : List Value) (M : jx_M) (Q : jx_Po), jx_Ev d 111 38 lv (.ref 36 :: st) M Q ↔ jx_Ev d 111 41 lv (.ref 50 :: st) M Q) ∧
  (∀ (d : Nat) (st : List Value) (M : jx_M) (Q : jx_Po) (l0 l1 l2 l3 l4 : Option Value) (x : Int32), jx_Ev d 111 41 [l0, l1, l2, l3, l4, some (.int x)] st M Q ↔ jx_Ev d 111 43 [l0, l1, l2, l3, l4, some (.int x)] (.int x :: st) M Q) ∧
  (∀ (d : Nat) (lv : List (Option Value)) (st : List Value) (M : jx_M) (Q : jx_Po) (x : Int32) (a : Nat) (ha : jx_cl a = 9), jx_Ev d 111 43 lv (.int x :: .ref a :: st) M Q ↔ (vp_in x (jx_sz a) ∧ jx_Ev d 111 44 lv (.int (M a x.toNatClampNeg) :: st) M Q)) ∧
  (∀ (d : Nat) (st : List Value) (M : jx_M) (Q : jx_Po) (l0 l1 l2 l4 l5 : Option Value) (x : Int32), jx_Ev d 111 44 [l0, l1, l2, some (.int x), l4, l5] st M Q ↔ jx_Ev d 111 45 [l0, l1, l2, some (.int x), l4, l5] (.int x :: st) M Q) ∧
  (∀ (d : Nat) (lv : List (Option Value)) (st : List Value) (M : jx_M) (Q : jx_Po) (x z : Int32), jx_Ev d 111 45 lv (.int z :: .int x :: st) M Q ↔ (if x = z then jx_Ev d 111 48 lv st M Q else jx_Ev d 111 58 lv st M Q)) ∧
  (∀ (d : Nat) (st : List Value) (M : jx_M) (Q : jx_Po) (l1 l2 l3 l4 l5 : Option Value) (x : Nat), jx_Ev d 111 48 [some (.ref x), l1, l2, l3, l4, l5] st M Q ↔ jx_Ev d 111 49 [some (.ref x), l1, l2, l3, l4, l5] (.ref x :: st) M Q) ∧
  (∀ (d : Nat) (st : List Value) (M : jx_M) (Q : jx_Po) (l0 l1 l2 l3 l4 : Option Value) (x : Int32), jx_Ev d 111 49 [l0, l1, l2, l3, l4, some (.int x)] st M Q ↔ jx_Ev d 111 51 [l0, l1, l2, l3, l4, some (.int x)] (.int x :: st) M Q) ∧
  (∀ (d : Nat) (st : List Value) (M : jx_M) (Q : jx_Po) (l0 l1 l2 l4 l5 : Option Value) (x : Int32), jx_Ev d 111 51 [l0, l1, l2, some (.int x), l4, l5] st M Q ↔ jx_Ev d 111 52 [l0, l1, l2, some (.int x), l4, l5] (.int x :: st) M Q) ∧
  (∀ (d : Nat) (lv : List (Option Value)) (M : jx_M) (Q : jx_Po) (a0 : Int32) (a1 : Int32) (a3 : Int32), jx_Ev (d + 1) 111 52 lv [.int a0, .int a1, .ref 36, .int a3] M Q ↔ jx_I d 105 [.ref 36, .int a1, .int a0] M (fun x M => jx_Ev (d + 1) 111 55 lv (.int x :: [.int a3]) M Q)) ∧
  (∀ (d : Nat) (lv : List (Option Value)) (st : List Value) (M : jx_M) (Q : jx_Po), jx_Ev d 111 55 lv st M Q ↔ jx_Ev d 111 59 lv st M Q) ∧
  (∀ (d : Nat) (lv : List (Option Value)) (st : List Value) (M : jx_M) (Q : jx_Po), jx_Ev d 111 58 lv st M Q ↔ jx_Ev d 111 59 lv (.int 0 :: st) M Q) ∧
  (∀ (d : Nat) (lv : List (Option Value)) (st : List Value) (M : jx_M) (Q : jx_Po) (x z : Int32), jx_Ev d 111 59 lv (.int z :: .int x :: st) M Q ↔ jx_Ev d 111 60 lv (.int (x + z) :: st) M Q) ∧
  (∀ (d : Nat) (st : List Value) (M : jx_M) (Q : jx_Po) (l0 l1 l2 l3 l4 l5 : Option Value) (x : Int32), jx_Ev d 111 60 [l0, l1, l2, l3, l4, l5] (.int x :: st) M Q ↔ jx_Ev d 111 62 [l0, l1, l2, l3, some (.int x), l5] st M Q) ∧
  (∀ (d : Nat) (st : List Value) (M : jx_M) (Q : jx_Po) (l0 l1 l2 l3 l4 : Option Value) (x : Int32), jx_Ev d 111 62 [l0, l1, l2, l3, l4, some (.int x)] st M Q ↔ jx_Ev d 111 65 [l0, l1, l2, l3, l4, some (.int (x + 1))] st M Q) ∧
  (∀ (d : Nat) (lv : List (Option Value)) (st : List Value) (M : jx_M) (Q : jx_Po), jx_Ev d 111 65 lv st M Q ↔ jx_Ev d 111 15 lv st M Q) ∧
  (∀ (d : Nat) (st : List Value) (M : jx_M) (Q : jx_Po) (l0 l1 l3 l4 l5 : Option Value) (x : Int32), jx_Ev d 111 68 [l0, l1, some (.int x), l3, l4, l5] st M Q ↔ jx_Ev d 111 69 [l0, l1, some (.int x), l3, l4, l5] (.int x :: st) M Q) ∧
  (∀ (d : Nat) (st : List Value) (M : jx_M) (Q : jx_Po) (l0 l1 l2 l3 l5 : Option Value) (x : Int32), jx_Ev d 111 69 [l0, l1, l2, l3, some (.int x), l5] st M Q ↔ jx_Ev d 111 71 [l0, l1, l2, l3, some (.int x), l5] (.int x :: st) M Q) ∧
  (∀ (d : Nat) (st : List Value) (M : jx_M) (Q : jx_Po) (l1 l2 l3 l4 l5 : Option Value) (x : Nat), jx_Ev d 111 71 [some (.ref x), l1, l2, l3, l4, l5] st M Q ↔ jx_Ev d 111 72 [some (.ref x), l1, l2, l3, l4, l5] (.ref x :: st) M Q) ∧
  (∀ (d : Nat) (lv : List (Option Value)) (st : List Value) (M : jx_M) (Q : jx_Po), jx_Ev d 111 72 lv (.ref 36 :: st) M Q ↔ jx_Ev d 111 75 lv (.ref 40 :: st) M Q) ∧
  (∀ (d : Nat) (st : List Value) (M : jx_M) (Q : jx_Po) (l0 l2 l3 l4 l5 : Option Value) (x : Int32), jx_Ev d 111 75 [l0, some (.int x), l2, l3, l4, l5] st M Q ↔ jx_Ev d 111 76 [l0, some (.int x), l2, l3, l4, l5] (.int x :: st) M Q) ∧
  (∀ (d : Nat) (lv : List (Option Value)) (st : List Value) (M : jx_M) (Q : jx_Po) (x : Int32) (a : Nat) (ha : jx_cl a = 9), jx_Ev d 111 76 lv (.int x :: .ref a :: st) M Q ↔ (vp_in x (jx_sz a) ∧ jx_Ev d 111 77 lv (.int (M a x.toNatClampNeg) :: st) M Q)) ∧
  (∀ (d : Nat) (lv : List (Option Value)) (st : List Value) (M : jx_M) (Q : jx_Po) (x z : Int32), jx_Ev d 111 77 lv (.int z :: .int x :: st) M Q ↔ (if x ≤ z then jx_Ev d 111 92 lv st M Q else jx_Ev d 111 80 lv st M Q)) ∧
  (∀ (d : Nat) (st : List Value) (M : jx_M) (Q : jx_Po) (l0 l1 l2 l3 l5 : Option Value) (x : Int32), jx_Ev d 111 80 [l0, l1, l2, l3, some (.int x), l5] st M Q ↔ jx_Ev d 111 82 [l0, l1, l2, l3, some (.int x), l5] (.int x :: st) M Q) ∧
  (∀ (d : Nat) (st : List Value) (M : jx_M) (Q : jx_Po) (l1 l2 l3 l4 l5 : Option Value) (x : Nat), jx_Ev d 111 82 [some (.ref x), l1, l2, l3, l4, l5] st M Q ↔ jx_Ev d 111 83 [some (.ref x), l1, l2, l3, l4, l5] (.ref x :: st) M Q) ∧
  (∀ (d : Nat) (lv : List (Option Value)) (st : List Value) (M : jx_M) (Q : jx_Po), jx_Ev d 111 83 lv (.ref 36 :: st) M Q ↔ jx_Ev d 111 86 lv (.ref 40 :: st) M Q) ∧
  (∀ (d : Nat) (st : List Value) (M : jx_M) (Q : jx_Po) (l0 l2 l3 l4 l5 : Option Value) (x : Int32), jx_Ev d 111 86 [l0, some (.int x), l2, l3, l4, l5] st M Q ↔ jx_Ev d 111 87 [l0, some (.int x), l2, l3, l4, l5] (.int x :: st) M Q) ∧
  (∀ (d : Nat) (lv : List (Option Value)) (st : List Value) (M : jx_M) (Q : jx_Po) (x : Int32) (a : Nat) (ha : jx_cl a = 9), jx_Ev d 111 87 lv (.int x :: .ref a :: st) M Q ↔ (vp_in x (jx_sz a) ∧ jx_Ev d 111 88 lv (.int (M a x.toNatClampNeg) :: st) M Q)) ∧
  (∀ (d : Nat) (lv : List (Option Value)) (st : List Value) (M : jx_M) (Q : jx_Po) (x z : Int32), jx_Ev d 111 88 lv (.int z :: .int x :: st) M Q ↔ jx_Ev d 111 89 lv (.int (x - z) :: st) M Q) ∧
  (∀ (d : Nat) (lv : List (Option Value)) (st : List Value) (M : jx_M) (Q : jx_Po), jx_Ev d 111 89 lv st M Q ↔ jx_Ev d 111 93 lv st M Q) ∧
  (∀ (d : Nat) (lv : List (Option Value)) (st : List Value) (M : jx_M) (Q : jx_Po), jx_Ev d 111 92 lv st M Q ↔ jx_Ev d 111 93 lv (.int 0 :: st) M Q) ∧
  (∀ (d : Nat) (lv : List (Option Value)) (st : List Value) (M : jx_M) (Q : jx_Po) (x z : Int32), jx_Ev d 111 93 lv (.int z :: .int x :: st) M Q ↔ jx_Ev d 111 94 lv (.int (x + z) :: st) M Q) ∧
  (∀ (d : Nat) (st : List Value) (M : jx_M) (Q : jx_Po) (l0 l1 l2 l3 l4 l5 : Option Value) (x : Int32), jx_Ev d 111 94 [l0, l1, l2, l3, l4, l5] (.int x :: st) M Q ↔ jx_Ev d 111 95 [l0, l1, some (.int x), l3, l4, l5] st M Q) ∧
  (∀ (d : Nat) (st : List Value) (M : jx_M) (Q : jx_Po) (l0 l1 l2 l4 l5 : Option Value) (x : Int32), jx_Ev d 111 95 [l0, l1, l2, some (.int x), l4, l5] st M Q ↔ jx_Ev d 111 98 [l0, l1, l2, some (.int (x + 1)), l4, l5] st M Q) ∧
  (∀ (d : Nat) (lv : List (Option Value)) (st : List Value) (M : jx_M) (Q : jx_Po), jx_Ev d 111 98 lv st M Q ↔ jx_Ev d 111 4 lv st M Q) ∧
  (∀ (d : Nat) (st : List Value) (M : jx_M) (Q : jx_Po) (l0 l1 l3 l4 l5 : Option Value) (x : Int32), jx_Ev d 111 101 [l0, l1, some (.int x), l3, l4, l5] st M Q ↔ jx_Ev d 111 102 [l0, l1, some (.int x), l3, l4, l5] (.int x :: st) M Q) ∧
  (∀ (d : Nat) (lv : List (Option Value)) (M : jx_M) (Q : jx_Po) (x : Int32), jx_Ev d 111 102 lv [.int x] M Q ↔ Q [.int x] M) := by
  refine ⟨?_, ?_, ?_, ?_, ?_, ?_, ?_, ?_, ?_, ?_, ?_, ?_, ?_, ?_, ?_, ?_, ?_, ?_, ?_, ?_, ?_, ?_, ?_, ?_, ?_, ?_, ?_, ?_, ?_, ?_, ?_, ?_, ?_, ?_, ?_, ?_, ?_, ?_, ?_, ?_, ?_, ?_, ?_, ?_, ?_, ?_, ?_, ?_, ?_, ?_, ?_, ?_, ?_, ?_, ?_, ?_, ?_⟩
  · exact fun d lv st M Q => jx_ev_st (jx_fok (by decide +kernel : decode (jx_mb 111) 0 = .ok (.iconst 0, 1))) rfl rfl rfl
  · exact fun d st M Q l0 l1 l2 l3 l4 l5 x => jx_ev_st (jx_fok (by decide +kernel : decode (jx_mb 111) 1 = .ok (.istore_n 2, 1))) rfl rfl rfl
  · exact fun d lv st M Q => jx_ev_st (jx_fok (by decide +kernel : decode (jx_mb 111) 2 = .ok (.iconst 0, 1))) rfl rfl rfl
  · exact fun d st M Q l0 l1 l2 l3 l4 l5 x => jx_ev_st (jx_fok (by decide +kernel : decode (jx_mb 111) 3 = .ok (.istore_n 3, 1))) rfl rfl rfl
  · exact fun d lv st M Q => jx_ev_st (jx_fok (by decide +kernel : decode (jx_mb 111) 5 = .ok (.iconst 4, 1))) rfl rfl rfl
  · exact fun d lv st M Q x z => jx_k_b2 (jx_fok (by decide +kernel : decode (jx_mb 111) 6 = .ok (.if_icmp .ge 95, 3))) rfl jx_hGe
  · exact fun d lv st M Q => jx_ev_st (jx_fok (by decide +kernel : decode (jx_mb 111) 9 = .ok (.iconst 0, 1))) rfl rfl rfl
  · exact fun d st M Q l0 l1 l2 l3 l4 l5 x => jx_ev_st (jx_fok (by decide +kernel : decode (jx_mb 111) 10 = .ok (.istore 4, 2))) rfl rfl rfl
  · exact fun d lv st M Q => jx_ev_st (jx_fok (by decide +kernel : decode (jx_mb 111) 12 = .ok (.iconst 0, 1))) rfl rfl rfl
  · exact fun d st M Q l0 l1 l2 l3 l4 l5 x => jx_ev_st (jx_fok (by decide +kernel : decode (jx_mb 111) 13 = .ok (.istore 5, 2))) rfl rfl rfl
  · exact fun d st M Q l1 l2 l3 l4 l5 x => jx_ev_st (jx_fok (by decide +kernel : decode (jx_mb 111) 17 = .ok (.aload_n 0, 1))) rfl rfl rfl
  · exact fun d lv st M Q => jx_k_gf (jx_fok (by decide +kernel : decode (jx_mb 111) 18 = .ok (.getfield 80, 3))) rfl rfl rfl
  · exact fun d lv st M Q x z => jx_k_b2 (jx_fok (by decide +kernel : decode (jx_mb 111) 21 = .ok (.if_icmp .ge 47, 3))) rfl jx_hGe
  · exact fun d st M Q l0 l1 l2 l3 l5 x => jx_ev_st (jx_fok (by decide +kernel : decode (jx_mb 111) 24 = .ok (.iload 4, 2))) rfl rfl rfl
  · exact fun d st M Q l1 l2 l3 l4 l5 x => jx_ev_st (jx_fok (by decide +kernel : decode (jx_mb 111) 26 = .ok (.aload_n 0, 1))) rfl rfl rfl
  · exact fun d lv st M Q => jx_k_gf (jx_fok (by decide +kernel : decode (jx_mb 111) 27 = .ok (.getfield 31, 3))) rfl rfl rfl
  · exact fun d st M Q l0 l1 l2 l3 l4 x => jx_ev_st (jx_fok (by decide +kernel : decode (jx_mb 111) 30 = .ok (.iload 5, 2))) rfl rfl rfl
  · exact fun d lv st M Q x a ha => jx_k_al (jx_fok (by decide +kernel : decode (jx_mb 111) 32 = .ok (.iaload, 1))) ha
  · exact fun d st M Q l0 l2 l3 l4 l5 x => jx_ev_st (jx_fok (by decide +kernel : decode (jx_mb 111) 33 = .ok (.iload_n 1, 1))) rfl rfl rfl
  · exact fun d lv st M Q x z => jx_k_b2n (jx_fok (by decide +kernel : decode (jx_mb 111) 34 = .ok (.if_icmp .ne 24, 3))) rfl jx_hNe
  · exact fun d st M Q l1 l2 l3 l4 l5 x => jx_ev_st (jx_fok (by decide +kernel : decode (jx_mb 111) 37 = .ok (.aload_n 0, 1))) rfl rfl rfl
  · exact fun d lv st M Q => jx_k_gf (jx_fok (by decide +kernel : decode (jx_mb 111) 38 = .ok (.getfield 49, 3))) rfl rfl rfl
  · exact fun d st M Q l0 l1 l2 l3 l4 x => jx_ev_st (jx_fok (by decide +kernel : decode (jx_mb 111) 41 = .ok (.iload 5, 2))) rfl rfl rfl
  · exact fun d lv st M Q x a ha => jx_k_al (jx_fok (by decide +kernel : decode (jx_mb 111) 43 = .ok (.iaload, 1))) ha
  · exact fun d st M Q l0 l1 l2 l4 l5 x => jx_ev_st (jx_fok (by decide +kernel : decode (jx_mb 111) 44 = .ok (.iload_n 3, 1))) rfl rfl rfl
  · exact fun d lv st M Q x z => jx_k_b2n (jx_fok (by decide +kernel : decode (jx_mb 111) 45 = .ok (.if_icmp .ne 13, 3))) rfl jx_hNe
  · exact fun d st M Q l1 l2 l3 l4 l5 x => jx_ev_st (jx_fok (by decide +kernel : decode (jx_mb 111) 48 = .ok (.aload_n 0, 1))) rfl rfl rfl
  · exact fun d st M Q l0 l1 l2 l3 l4 x => jx_ev_st (jx_fok (by decide +kernel : decode (jx_mb 111) 49 = .ok (.iload 5, 2))) rfl rfl rfl
  · exact fun d st M Q l0 l1 l2 l4 l5 x => jx_ev_st (jx_fok (by decide +kernel : decode (jx_mb 111) 51 = .ok (.iload_n 3, 1))) rfl rfl rfl
  · exact fun d lv M Q a0 a1 a3 => jx_ev_ci (jx_fok (by decide +kernel : decode (jx_mb 111) 52 = .ok (.invokevirtual 154, 3))) rfl (jx_ccV (As := [.int a1, .int a0]) (rest := [.int a3]) rfl rfl rfl rfl rfl rfl) (by decide)
  · exact fun d lv st M Q => jx_k_goto (jx_fok (by decide +kernel : decode (jx_mb 111) 55 = .ok (.goto 4, 3))) rfl
  · exact fun d lv st M Q => jx_ev_st (jx_fok (by decide +kernel : decode (jx_mb 111) 58 = .ok (.iconst 0, 1))) rfl rfl rfl
  · exact fun d lv st M Q x z => jx_ev_st (jx_fok (by decide +kernel : decode (jx_mb 111) 59 = .ok (.iadd, 1))) rfl rfl rfl
  · exact fun d st M Q l0 l1 l2 l3 l4 l5 x => jx_ev_st (jx_fok (by decide +kernel : decode (jx_mb 111) 60 = .ok (.istore 4, 2))) rfl rfl rfl
  · exact fun d st M Q l0 l1 l2 l3 l4 x => jx_ev_st (jx_fok (by decide +kernel : decode (jx_mb 111) 62 = .ok (.iinc 5 1, 3))) rfl rfl rfl
  · exact fun d lv st M Q => jx_k_goto (jx_fok (by decide +kernel : decode (jx_mb 111) 65 = .ok (.goto (-50), 3))) rfl
  · exact fun d st M Q l0 l1 l3 l4 l5 x => jx_ev_st (jx_fok (by decide +kernel : decode (jx_mb 111) 68 = .ok (.iload_n 2, 1))) rfl rfl rfl
  · exact fun d st M Q l0 l1 l2 l3 l5 x => jx_ev_st (jx_fok (by decide +kernel : decode (jx_mb 111) 69 = .ok (.iload 4, 2))) rfl rfl rfl
  · exact fun d st M Q l1 l2 l3 l4 l5 x => jx_ev_st (jx_fok (by decide +kernel : decode (jx_mb 111) 71 = .ok (.aload_n 0, 1))) rfl rfl rfl
  · exact fun d lv st M Q => jx_k_gf (jx_fok (by decide +kernel : decode (jx_mb 111) 72 = .ok (.getfield 19, 3))) rfl rfl rfl
  · exact fun d st M Q l0 l2 l3 l4 l5 x => jx_ev_st (jx_fok (by decide +kernel : decode (jx_mb 111) 75 = .ok (.iload_n 1, 1))) rfl rfl rfl
  · exact fun d lv st M Q x a ha => jx_k_al (jx_fok (by decide +kernel : decode (jx_mb 111) 76 = .ok (.iaload, 1))) ha
  · exact fun d lv st M Q x z => jx_k_b2 (jx_fok (by decide +kernel : decode (jx_mb 111) 77 = .ok (.if_icmp .le 15, 3))) rfl jx_hLe
  · exact fun d st M Q l0 l1 l2 l3 l5 x => jx_ev_st (jx_fok (by decide +kernel : decode (jx_mb 111) 80 = .ok (.iload 4, 2))) rfl rfl rfl
  · exact fun d st M Q l1 l2 l3 l4 l5 x => jx_ev_st (jx_fok (by decide +kernel : decode (jx_mb 111) 82 = .ok (.aload_n 0, 1))) rfl rfl rfl
  · exact fun d lv st M Q => jx_k_gf (jx_fok (by decide +kernel : decode (jx_mb 111) 83 = .ok (.getfield 19, 3))) rfl rfl rfl
  · exact fun d st M Q l0 l2 l3 l4 l5 x => jx_ev_st (jx_fok (by decide +kernel : decode (jx_mb 111) 86 = .ok (.iload_n 1, 1))) rfl rfl rfl
  · exact fun d lv st M Q x a ha => jx_k_al (jx_fok (by decide +kernel : decode (jx_mb 111) 87 = .ok (.iaload, 1))) ha
  · exact fun d lv st M Q x z => jx_ev_st (jx_fok (by decide +kernel : decode (jx_mb 111) 88 = .ok (.isub, 1))) rfl rfl rfl
  · exact fun d lv st M Q => jx_k_goto (jx_fok (by decide +kernel : decode (jx_mb 111) 89 = .ok (.goto 4, 3))) rfl
  · exact fun d lv st M Q => jx_ev_st (jx_fok (by decide +kernel : decode (jx_mb 111) 92 = .ok (.iconst 0, 1))) rfl rfl rfl
  · exact fun d lv st M Q x z => jx_ev_st (jx_fok (by decide +kernel : decode (jx_mb 111) 93 = .ok (.iadd, 1))) rfl rfl rfl
  · exact fun d st M Q l0 l1 l2 l3 l4 l5 x => jx_ev_st (jx_fok (by decide +kernel : decode (jx_mb 111) 94 = .ok (.istore_n 2, 1))) rfl rfl rfl
  · exact fun d st M Q l0 l1 l2 l4 l5 x => jx_ev_st (jx_fok (by decide +kernel : decode (jx_mb 111) 95 = .ok (.iinc 3 1, 3))) rfl rfl rfl
  · exact fun d lv st M Q => jx_k_goto (jx_fok (by decide +kernel : decode (jx_mb 111) 98 = .ok (.goto (-94), 3))) rfl
  · exact fun d st M Q l0 l1 l3 l4 l5 x => jx_ev_st (jx_fok (by decide +kernel : decode (jx_mb 111) 101 = .ok (.iload_n 2, 1))) rfl rfl rfl
  · exact fun d lv M Q x => jx_k_ri (jx_fok (by decide +kernel : decode (jx_mb 111) 102 = .ok (.ireturn, 1))) rfl
theorem eX8_harmTo_4 (d : Nat) (st : List Value) (M : jx_M) (Q : jx_Po) (l0 l1 l2 l4 l5 : Option Value) (x : Int32) : jx_Ev d 111 4 [l0, l1, l2, some (.int x), l4, l5] st M Q ↔ jx_Ev d 111 5 [l0, l1, l2, some (.int x), l4, l5] (.int x :: st) M Q := jx_ev_st (jx_fok (by decide +kernel : decode (jx_mb 111) 4 = .ok (.iload_n 3, 1))) rfl rfl rfl
theorem eX8_harmTo_15 (d : Nat) (st : List Value) (M : jx_M) (Q : jx_Po) (l0 l1 l2 l3 l4 : Option Value) (x : Int32) : jx_Ev d 111 15 [l0, l1, l2, l3, l4, some (.int x)] st M Q ↔ jx_Ev d 111 17 [l0, l1, l2, l3, l4, some (.int x)] (.int x :: st) M Q := jx_ev_st (jx_fok (by decide +kernel : decode (jx_mb 111) 15 = .ok (.iload 5, 2))) rfl rfl rfl
theorem kX8_harmTo (d : Nat) (M : jx_M) (q : Int32 → jx_M → Prop) (a0 a1 : Value) : jx_I d 111 [a0, a1] M q ↔ jx_Ev d 111 0 [some a0, some a1, none, none, none, none] [] M (jx_qI q) := Iff.rfl
set_option maxRecDepth 100000 in
theorem eX8_open :
  (∀ (d : Nat) (st : List Value) (M : jx_M) (Q : jx_Po) (l1 l2 l3 l4 l5 l6 l7 : Option Value) (x : Nat), jx_Ev d 112 0 [some (.ref x), l1, l2, l3, l4, l5, l6, l7] st M Q ↔ jx_Ev d 112 1 [some (.ref x), l1, l2, l3, l4, l5, l6, l7] (.ref x :: st) M Q) ∧
  (∀ (d : Nat) (lv : List (Option Value)) (st : List Value) (M : jx_M) (Q : jx_Po), jx_Ev d 112 1 lv st M Q ↔ jx_Ev d 112 2 lv (.int 0 :: st) M Q) ∧
  (∀ (d : Nat) (lv : List (Option Value)) (st : List Value) (M : jx_M) (Q : jx_Po) (x : Int32), jx_Ev d 112 2 lv (.int x :: .ref 36 :: st) M Q ↔ jx_Ev d 112 5 lv st (jx_up M 36 0 x) Q) ∧
  (∀ (d : Nat) (st : List Value) (M : jx_M) (Q : jx_Po) (l0 l2 l3 l4 l5 l6 l7 : Option Value) (x : Int32), jx_Ev d 112 5 [l0, some (.int x), l2, l3, l4, l5, l6, l7] st M Q ↔ jx_Ev d 112 6 [l0, some (.int x), l2, l3, l4, l5, l6, l7] (.int x :: st) M Q) ∧
  (∀ (d : Nat) (lv : List (Option Value)) (M : jx_M) (Q : jx_Po) (a0 : Int32), jx_Ev (d + 1) 112 6 lv [.int a0] M Q ↔ jx_I d 87 [.int a0] M (fun x M => jx_Ev (d + 1) 112 9 lv (.int x :: []) M Q)) ∧
  (∀ (d : Nat) (lv : List (Option Value)) (st : List Value) (M : jx_M) (Q : jx_Po) (x : Int32), jx_Ev d 112 9 lv (.int x :: st) M Q ↔ (if x = 0 then jx_Ev d 112 12 lv st M Q else jx_Ev d 112 14 lv st M Q)) ∧
  (∀ (d : Nat) (lv : List (Option Value)) (st : List Value) (M : jx_M) (Q : jx_Po), jx_Ev d 112 12 lv st M Q ↔ jx_Ev d 112 13 lv (.int (-1) :: st) M Q) ∧
  (∀ (d : Nat) (lv : List (Option Value)) (M : jx_M) (Q : jx_Po) (x : Int32), jx_Ev d 112 13 lv [.int x] M Q ↔ Q [.int x] M) ∧
  (∀ (d : Nat) (st : List Value) (M : jx_M) (Q : jx_Po) (l0 l1 l3 l4 l5 l6 l7 : Option Value) (x : Int32), jx_Ev d 112 14 [l0, l1, some (.int x), l3, l4, l5, l6, l7] st M Q ↔ jx_Ev d 112 15 [l0, l1, some (.int x), l3, l4, l5, l6, l7] (.int x :: st) M Q) ∧
  (∀ (d : Nat) (lv : List (Option Value)) (M : jx_M) (Q : jx_Po) (a0 : Int32), jx_Ev (d + 1) 112 15 lv [.int a0] M Q ↔ jx_I d 88 [.int a0] M (fun x M => jx_Ev (d + 1) 112 18 lv (.int x :: []) M Q)) ∧
  (∀ (d : Nat) (lv : List (Option Value)) (st : List Value) (M : jx_M) (Q : jx_Po) (x : Int32), jx_Ev d 112 18 lv (.int x :: st) M Q ↔ (if x = 0 then jx_Ev d 112 43 lv st M Q else jx_Ev d 112 21 lv st M Q)) ∧
  (∀ (d : Nat) (st : List Value) (M : jx_M) (Q : jx_Po) (l0 l1 l2 l3 l4 l6 l7 : Option Value) (x : Int32), jx_Ev d 112 21 [l0, l1, l2, l3, l4, some (.int x), l6, l7] st M Q ↔ jx_Ev d 112 23 [l0, l1, l2, l3, l4, some (.int x), l6, l7] (.int x :: st) M Q) ∧
  (∀ (d : Nat) (lv : List (Option Value)) (st : List Value) (M : jx_M) (Q : jx_Po), jx_Ev d 112 23 lv st M Q ↔ jx_Ev d 112 24 lv (.int 0 :: st) M Q) ∧
  (∀ (d : Nat) (lv : List (Option Value)) (st : List Value) (M : jx_M) (Q : jx_Po), jx_Ev d 112 24 lv st M Q ↔ jx_Ev d 112 25 lv (.int 2 :: st) M Q) ∧
  (∀ (d : Nat) (lv : List (Option Value)) (M : jx_M) (Q : jx_Po) (a0 : Int32) (a1 : Int32) (a2 : Int32), jx_Ev (d + 1) 112 25 lv [.int a0, .int a1, .int a2] M Q ↔ jx_I d 86 [.int a2, .int a1, .int a0] M (fun x M => jx_Ev (d + 1) 112 28 lv (.int x :: []) M Q)) ∧
  (∀ (d : Nat) (lv : List (Option Value)) (st : List Value) (M : jx_M) (Q : jx_Po) (x : Int32), jx_Ev d 112 28 lv (.int x :: st) M Q ↔ (if x = 0 then jx_Ev d 112 31 lv st M Q else jx_Ev d 112 46 lv st M Q)) ∧
  (∀ (d : Nat) (st : List Value) (M : jx_M) (Q : jx_Po) (l0 l1 l2 l3 l4 l6 l7 : Option Value) (x : Int32), jx_Ev d 112 31 [l0, l1, l2, l3, l4, some (.int x), l6, l7] st M Q ↔ jx_Ev d 112 33 [l0, l1, l2, l3, l4, some (.int x), l6, l7] (.int x :: st) M Q) ∧
  (∀ (d : Nat) (lv : List (Option Value)) (st : List Value) (M : jx_M) (Q : jx_Po), jx_Ev d 112 33 lv st M Q ↔ jx_Ev d 112 35 lv (.int 10 :: st) M Q) ∧
  (∀ (d : Nat) (lv : List (Option Value)) (st : List Value) (M : jx_M) (Q : jx_Po), jx_Ev d 112 35 lv st M Q ↔ jx_Ev d 112 37 lv (.int 14 :: st) M Q) ∧
  (∀ (d : Nat) (lv : List (Option Value)) (M : jx_M) (Q : jx_Po) (a0 : Int32) (a1 : Int32) (a2 : Int32), jx_Ev (d + 1) 112 37 lv [.int a0, .int a1, .int a2] M Q ↔ jx_I d 86 [.int a2, .int a1, .int a0] M (fun x M => jx_Ev (d + 1) 112 40 lv (.int x :: []) M Q)) ∧
  (∀ (d : Nat) (lv : List (Option Value)) (st : List Value) (M : jx_M) (Q : jx_Po) (x : Int32), jx_Ev d 112 40 lv (.int x :: st) M Q ↔ (if x = 0 then jx_Ev d 112 43 lv st M Q else jx_Ev d 112 46 lv st M Q)) ∧
  (∀ (d : Nat) (lv : List (Option Value)) (st : List Value) (M : jx_M) (Q : jx_Po), jx_Ev d 112 43 lv st M Q ↔ jx_Ev d 112 45 lv (.int (-2) :: st) M Q) ∧
  (∀ (d : Nat) (lv : List (Option Value)) (M : jx_M) (Q : jx_Po) (x : Int32), jx_Ev d 112 45 lv [.int x] M Q ↔ Q [.int x] M) ∧
  (∀ (d : Nat) (st : List Value) (M : jx_M) (Q : jx_Po) (l1 l2 l3 l4 l5 l6 l7 : Option Value) (x : Nat), jx_Ev d 112 46 [some (.ref x), l1, l2, l3, l4, l5, l6, l7] st M Q ↔ jx_Ev d 112 47 [some (.ref x), l1, l2, l3, l4, l5, l6, l7] (.ref x :: st) M Q) ∧
  (∀ (d : Nat) (st : List Value) (M : jx_M) (Q : jx_Po) (l0 l2 l3 l4 l5 l6 l7 : Option Value) (x : Int32), jx_Ev d 112 47 [l0, some (.int x), l2, l3, l4, l5, l6, l7] st M Q ↔ jx_Ev d 112 48 [l0, some (.int x), l2, l3, l4, l5, l6, l7] (.int x :: st) M Q) ∧
  (∀ (d : Nat) (st : List Value) (M : jx_M) (Q : jx_Po) (l0 l1 l3 l4 l5 l6 l7 : Option Value) (x : Int32), jx_Ev d 112 48 [l0, l1, some (.int x), l3, l4, l5, l6, l7] st M Q ↔ jx_Ev d 112 49 [l0, l1, some (.int x), l3, l4, l5, l6, l7] (.int x :: st) M Q) ∧
  (∀ (d : Nat) (st : List Value) (M : jx_M) (Q : jx_Po) (l0 l1 l2 l4 l5 l6 l7 : Option Value) (x : Int32), jx_Ev d 112 49 [l0, l1, l2, some (.int x), l4, l5, l6, l7] st M Q ↔ jx_Ev d 112 50 [l0, l1, l2, some (.int x), l4, l5, l6, l7] (.int x :: st) M Q) ∧
  (∀ (d : Nat) (st : List Value) (M : jx_M) (Q : jx_Po) (l0 l1 l2 l3 l5 l6 l7 : Option Value) (x : Int32), jx_Ev d 112 50 [l0, l1, l2, l3, some (.int x), l5, l6, l7] st M Q ↔ jx_Ev d 112 52 [l0, l1, l2, l3, some (.int x), l5, l6, l7] (.int x :: st) M Q) ∧
  (∀ (d : Nat) (lv : List (Option Value)) (M : jx_M) (Q : jx_Po) (a0 : Int32) (a1 : Int32) (a2 : Int32) (a3 : Int32), jx_Ev (d + 1) 112 52 lv [.int a0, .int a1, .int a2, .int a3, .ref 36] M Q ↔ jx_I d 89 [.ref 36, .int a3, .int a2, .int a1, .int a0] M (fun x M => jx_Ev (d + 1) 112 55 lv (.int x :: []) M Q)) ∧
  (∀ (d : Nat) (st : List Value) (M : jx_M) (Q : jx_Po) (l0 l1 l2 l3 l4 l5 l6 l7 : Option Value) (x : Int32), jx_Ev d 112 55 [l0, l1, l2, l3, l4, l5, l6, l7] (.int x :: st) M Q ↔ jx_Ev d 112 57 [l0, l1, l2, l3, l4, l5, some (.int x), l7] st M Q) ∧
  (∀ (d : Nat) (st : List Value) (M : jx_M) (Q : jx_Po) (l0 l1 l2 l3 l4 l5 l7 : Option Value) (x : Int32), jx_Ev d 112 57 [l0, l1, l2, l3, l4, l5, some (.int x), l7] st M Q ↔ jx_Ev d 112 59 [l0, l1, l2, l3, l4, l5, some (.int x), l7] (.int x :: st) M Q) ∧
  (∀ (d : Nat) (lv : List (Option Value)) (st : List Value) (M : jx_M) (Q : jx_Po) (x : Int32), jx_Ev d 112 59 lv (.int x :: st) M Q ↔ (if x = 0 then jx_Ev d 112 69 lv st M Q else jx_Ev d 112 62 lv st M Q)) ∧
  (∀ (d : Nat) (st : List Value) (M : jx_M) (Q : jx_Po) (l1 l2 l3 l4 l5 l6 l7 : Option Value) (x : Nat), jx_Ev d 112 62 [some (.ref x), l1, l2, l3, l4, l5, l6, l7] st M Q ↔ jx_Ev d 112 63 [some (.ref x), l1, l2, l3, l4, l5, l6, l7] (.ref x :: st) M Q) ∧
  (∀ (d : Nat) (st : List Value) (M : jx_M) (Q : jx_Po) (l0 l1 l2 l3 l4 l5 l7 : Option Value) (x : Int32), jx_Ev d 112 63 [l0, l1, l2, l3, l4, l5, some (.int x), l7] st M Q ↔ jx_Ev d 112 65 [l0, l1, l2, l3, l4, l5, some (.int x), l7] (.int x :: st) M Q) ∧
  (∀ (d : Nat) (lv : List (Option Value)) (M : jx_M) (Q : jx_Po) (a0 : Int32), jx_Ev (d + 1) 112 65 lv [.int a0, .ref 36] M Q ↔ jx_I d 84 [.ref 36, .int a0] M (fun x M => jx_Ev (d + 1) 112 68 lv (.int x :: []) M Q)) ∧
  (∀ (d : Nat) (lv : List (Option Value)) (M : jx_M) (Q : jx_Po) (x : Int32), jx_Ev d 112 68 lv [.int x] M Q ↔ Q [.int x] M) ∧
  (∀ (d : Nat) (st : List Value) (M : jx_M) (Q : jx_Po) (l1 l2 l3 l4 l5 l6 l7 : Option Value) (x : Nat), jx_Ev d 112 69 [some (.ref x), l1, l2, l3, l4, l5, l6, l7] st M Q ↔ jx_Ev d 112 70 [some (.ref x), l1, l2, l3, l4, l5, l6, l7] (.ref x :: st) M Q) ∧
  (∀ (d : Nat) (lv : List (Option Value)) (st : List Value) (M : jx_M) (Q : jx_Po), jx_Ev d 112 70 lv (.ref 36 :: st) M Q ↔ jx_Ev d 112 73 lv (.int (M 36 6) :: st) M Q) ∧
  (∀ (d : Nat) (lv : List (Option Value)) (st : List Value) (M : jx_M) (Q : jx_Po) (x : Int32), jx_Ev d 112 73 lv (.int x :: st) M Q ↔ (if x = 0 then jx_Ev d 112 76 lv st M Q else jx_Ev d 112 79 lv st M Q)) ∧
  (∀ (d : Nat) (lv : List (Option Value)) (st : List Value) (M : jx_M) (Q : jx_Po), jx_Ev d 112 76 lv st M Q ↔ jx_Ev d 112 78 lv (.int (-3) :: st) M Q) ∧
  (∀ (d : Nat) (lv : List (Option Value)) (M : jx_M) (Q : jx_Po) (x : Int32), jx_Ev d 112 78 lv [.int x] M Q ↔ Q [.int x] M) ∧
  (∀ (d : Nat) (st : List Value) (M : jx_M) (Q : jx_Po) (l0 l1 l2 l3 l5 l6 l7 : Option Value) (x : Int32), jx_Ev d 112 79 [l0, l1, l2, l3, some (.int x), l5, l6, l7] st M Q ↔ jx_Ev d 112 81 [l0, l1, l2, l3, some (.int x), l5, l6, l7] (.int x :: st) M Q) ∧
  (∀ (d : Nat) (st : List Value) (M : jx_M) (Q : jx_Po) (l1 l2 l3 l4 l5 l6 l7 : Option Value) (x : Nat), jx_Ev d 112 81 [some (.ref x), l1, l2, l3, l4, l5, l6, l7] st M Q ↔ jx_Ev d 112 82 [some (.ref x), l1, l2, l3, l4, l5, l6, l7] (.ref x :: st) M Q) ∧
  (∀ (d : Nat) (lv : List (Option Value)) (st : List Value) (M : jx_M) (Q : jx_Po), jx_Ev d 112 82 lv (.ref 36 :: st) M Q ↔ jx_Ev d 112 85 lv (.int (M 36 6) :: st) M Q) ∧
  (∀ (d : Nat) (lv : List (Option Value)) (st : List Value) (M : jx_M) (Q : jx_Po) (x z : Int32), jx_Ev d 112 85 lv (.int z :: .int x :: st) M Q ↔ (if x = z then jx_Ev d 112 91 lv st M Q else jx_Ev d 112 88 lv st M Q)) ∧
  (∀ (d : Nat) (lv : List (Option Value)) (st : List Value) (M : jx_M) (Q : jx_Po), jx_Ev d 112 88 lv st M Q ↔ jx_Ev d 112 90 lv (.int (-2) :: st) M Q) ∧
  (∀ (d : Nat) (lv : List (Option Value)) (M : jx_M) (Q : jx_Po) (x : Int32), jx_Ev d 112 90 lv [.int x] M Q ↔ Q [.int x] M) ∧
  (∀ (d : Nat) (lv : List (Option Value)) (st : List Value) (M : jx_M) (Q : jx_Po), jx_Ev d 112 91 lv st M Q ↔ jx_Ev d 112 92 lv (.int 0 :: st) M Q) ∧
  (∀ (d : Nat) (st : List Value) (M : jx_M) (Q : jx_Po) (l0 l1 l2 l3 l4 l5 l6 l7 : Option Value) (x : Int32), jx_Ev d 112 92 [l0, l1, l2, l3, l4, l5, l6, l7] (.int x :: st) M Q ↔ jx_Ev d 112 94 [l0, l1, l2, l3, l4, l5, l6, some (.int x)] st M Q) ∧
  (∀ (d : Nat) (st : List Value) (M : jx_M) (Q : jx_Po) (l0 l1 l2 l3 l5 l6 l7 : Option Value) (x : Int32), jx_Ev d 112 96 [l0, l1, l2, l3, some (.int x), l5, l6, l7] st M Q ↔ jx_Ev d 112 98 [l0, l1, l2, l3, some (.int x), l5, l6, l7] (.int x :: st) M Q) ∧
  (∀ (d : Nat) (lv : List (Option Value)) (st : List Value) (M : jx_M) (Q : jx_Po) (x z : Int32), jx_Ev d 112 98 lv (.int z :: .int x :: st) M Q ↔ (if z ≤ x then jx_Ev d 112 146 lv st M Q else jx_Ev d 112 101 lv st M Q)) ∧
  (∀ (d : Nat) (st : List Value) (M : jx_M) (Q : jx_Po) (l1 l2 l3 l4 l5 l6 l7 : Option Value) (x : Nat), jx_Ev d 112 101 [some (.ref x), l1, l2, l3, l4, l5, l6, l7] st M Q ↔ jx_Ev d 112 102 [some (.ref x), l1, l2, l3, l4, l5, l6, l7] (.ref x :: st) M Q) ∧
  (∀ (d : Nat) (lv : List (Option Value)) (st : List Value) (M : jx_M) (Q : jx_Po), jx_Ev d 112 102 lv (.ref 36 :: st) M Q ↔ jx_Ev d 112 105 lv (.ref 50 :: st) M Q) ∧
  (∀ (d : Nat) (st : List Value) (M : jx_M) (Q : jx_Po) (l0 l1 l2 l3 l4 l5 l6 : Option Value) (x : Int32), jx_Ev d 112 105 [l0, l1, l2, l3, l4, l5, l6, some (.int x)] st M Q ↔ jx_Ev d 112 107 [l0, l1, l2, l3, l4, l5, l6, some (.int x)] (.int x :: st) M Q) ∧
  (∀ (d : Nat) (st : List Value) (M : jx_M) (Q : jx_Po) (l1 l2 l3 l4 l5 l6 l7 : Option Value) (x : Nat), jx_Ev d 112 107 [some (.ref x), l1, l2, l3, l4, l5, l6, l7] st M Q ↔ jx_Ev d 112 108 [some (.ref x), l1, l2, l3, l4, l5, l6, l7] (.ref x :: st) M Q) ∧
  (∀ (d : Nat) (lv : List (Option Value)) (st : List Value) (M : jx_M) (Q : jx_Po), jx_Ev d 112 108 lv (.ref 36 :: st) M Q ↔ jx_Ev d 112 111 lv (.ref 39 :: st) M Q) ∧
  (∀ (d : Nat) (lv : List (Option Value)) (st : List Value) (M : jx_M) (Q : jx_Po), jx_Ev d 112 111 lv st M Q ↔ jx_Ev d 112 113 lv (.int 60 :: st) M Q) ∧
  (∀ (d : Nat) (st : List Value) (M : jx_M) (Q : jx_Po) (l0 l2 l3 l4 l5 l6 l7 : Option Value) (x : Int32), jx_Ev d 112 113 [l0, some (.int x), l2, l3, l4, l5, l6, l7] st M Q ↔ jx_Ev d 112 114 [l0, some (.int x), l2, l3, l4, l5, l6, l7] (.int x :: st) M Q) ∧
  (∀ (d : Nat) (lv : List (Option Value)) (st : List Value) (M : jx_M) (Q : jx_Po) (x z : Int32), jx_Ev d 112 114 lv (.int z :: .int x :: st) M Q ↔ jx_Ev d 112 115 lv (.int (x * z) :: st) M Q) ∧
  (∀ (d : Nat) (st : List Value) (M : jx_M) (Q : jx_Po) (l0 l1 l2 l4 l5 l6 l7 : Option Value) (x : Int32), jx_Ev d 112 115 [l0, l1, l2, some (.int x), l4, l5, l6, l7] st M Q ↔ jx_Ev d 112 116 [l0, l1, l2, some (.int x), l4, l5, l6, l7] (.int x :: st) M Q) ∧
  (∀ (d : Nat) (lv : List (Option Value)) (st : List Value) (M : jx_M) (Q : jx_Po) (x z : Int32), jx_Ev d 112 116 lv (.int z :: .int x :: st) M Q ↔ jx_Ev d 112 117 lv (.int (x + z) :: st) M Q) ∧
  (∀ (d : Nat) (st : List Value) (M : jx_M) (Q : jx_Po) (l0 l1 l2 l3 l4 l5 l6 : Option Value) (x : Int32), jx_Ev d 112 117 [l0, l1, l2, l3, l4, l5, l6, some (.int x)] st M Q ↔ jx_Ev d 112 119 [l0, l1, l2, l3, l4, l5, l6, some (.int x)] (.int x :: st) M Q) ∧
  (∀ (d : Nat) (lv : List (Option Value)) (st : List Value) (M : jx_M) (Q : jx_Po) (x z : Int32), jx_Ev d 112 119 lv (.int z :: .int x :: st) M Q ↔ jx_Ev d 112 120 lv (.int (x + z) :: st) M Q) ∧
  (∀ (d : Nat) (lv : List (Option Value)) (st : List Value) (M : jx_M) (Q : jx_Po) (x : Int32) (a : Nat) (ha : jx_cl a = 9), jx_Ev d 112 120 lv (.int x :: .ref a :: st) M Q ↔ (vp_in x (jx_sz a) ∧ jx_Ev d 112 121 lv (.int (M a x.toNatClampNeg) :: st) M Q)) ∧
  (∀ (d : Nat) (lv : List (Option Value)) (st : List Value) (M : jx_M) (Q : jx_Po) (x z : Int32) (a : Nat) (ha : jx_cl a = 9), jx_Ev d 112 121 lv (.int z :: .int x :: .ref a :: st) M Q ↔ (vp_in x (jx_sz a) ∧ jx_Ev d 112 122 lv st (jx_up M a x.toNatClampNeg z) Q)) ∧
  (∀ (d : Nat) (st : List Value) (M : jx_M) (Q : jx_Po) (l1 l2 l3 l4 l5 l6 l7 : Option Value) (x : Nat), jx_Ev d 112 122 [some (.ref x), l1, l2, l3, l4, l5, l6, l7] st M Q ↔ jx_Ev d 112 123 [some (.ref x), l1, l2, l3, l4, l5, l6, l7] (.ref x :: st) M Q) ∧
  (∀ (d : Nat) (lv : List (Option Value)) (st : List Value) (M : jx_M) (Q : jx_Po), jx_Ev d 112 123 lv (.ref 36 :: st) M Q ↔ jx_Ev d 112 126 lv (.ref 50 :: st) M Q) ∧
  (∀ (d : Nat) (st : List Value) (M : jx_M) (Q : jx_Po) (l0 l1 l2 l3 l4 l5 l6 : Option Value) (x : Int32), jx_Ev d 112 126 [l0, l1, l2, l3, l4, l5, l6, some (.int x)] st M Q ↔ jx_Ev d 112 128 [l0, l1, l2, l3, l4, l5, l6, some (.int x)] (.int x :: st) M Q) ∧
  (∀ (d : Nat) (lv : List (Option Value)) (st : List Value) (M : jx_M) (Q : jx_Po) (x : Int32) (a : Nat) (ha : jx_cl a = 9), jx_Ev d 112 128 lv (.int x :: .ref a :: st) M Q ↔ (vp_in x (jx_sz a) ∧ jx_Ev d 112 129 lv (.int (M a x.toNatClampNeg) :: st) M Q)) ∧
  (∀ (d : Nat) (lv : List (Option Value)) (st : List Value) (M : jx_M) (Q : jx_Po), jx_Ev d 112 129 lv st M Q ↔ jx_Ev d 112 130 lv (.int 0 :: st) M Q) ∧
  (∀ (d : Nat) (lv : List (Option Value)) (st : List Value) (M : jx_M) (Q : jx_Po), jx_Ev d 112 130 lv st M Q ↔ jx_Ev d 112 131 lv (.int 3 :: st) M Q) ∧
  (∀ (d : Nat) (lv : List (Option Value)) (M : jx_M) (Q : jx_Po) (a0 : Int32) (a1 : Int32) (a2 : Int32), jx_Ev (d + 1) 112 131 lv [.int a0, .int a1, .int a2] M Q ↔ jx_I d 86 [.int a2, .int a1, .int a0] M (fun x M => jx_Ev (d + 1) 112 134 lv (.int x :: []) M Q)) ∧
  (∀ (d : Nat) (lv : List (Option Value)) (st : List Value) (M : jx_M) (Q : jx_Po) (x : Int32), jx_Ev d 112 134 lv (.int x :: st) M Q ↔ (if x = 0 then jx_Ev d 112 137 lv st M Q else jx_Ev d 112 140 lv st M Q)) ∧
  (∀ (d : Nat) (lv : List (Option Value)) (st : List Value) (M : jx_M) (Q : jx_Po), jx_Ev d 112 137 lv st M Q ↔ jx_Ev d 112 139 lv (.int (-2) :: st) M Q) ∧
  (∀ (d : Nat) (lv : List (Option Value)) (M : jx_M) (Q : jx_Po) (x : Int32), jx_Ev d 112 139 lv [.int x] M Q ↔ Q [.int x] M) ∧
  (∀ (d : Nat) (st : List Value) (M : jx_M) (Q : jx_Po) (l0 l1 l2 l3 l4 l5 l6 : Option Value) (x : Int32), jx_Ev d 112 140 [l0, l1, l2, l3, l4, l5, l6, some (.int x)] st M Q ↔ jx_Ev d 112 143 [l0, l1, l2, l3, l4, l5, l6, some (.int (x + 1))] st M Q) ∧
  (∀ (d : Nat) (lv : List (Option Value)) (st : List Value) (M : jx_M) (Q : jx_Po), jx_Ev d 112 143 lv st M Q ↔ jx_Ev d 112 94 lv st M Q) ∧
  (∀ (d : Nat) (st : List Value) (M : jx_M) (Q : jx_Po) (l1 l2 l3 l4 l5 l6 l7 : Option Value) (x : Nat), jx_Ev d 112 146 [some (.ref x), l1, l2, l3, l4, l5, l6, l7] st M Q ↔ jx_Ev d 112 147 [some (.ref x), l1, l2, l3, l4, l5, l6, l7] (.ref x :: st) M Q) ∧
  (∀ (d : Nat) (st : List Value) (M : jx_M) (Q : jx_Po) (l0 l1 l2 l3 l4 l6 l7 : Option Value) (x : Int32), jx_Ev d 112 147 [l0, l1, l2, l3, l4, some (.int x), l6, l7] st M Q ↔ jx_Ev d 112 149 [l0, l1, l2, l3, l4, some (.int x), l6, l7] (.int x :: st) M Q) ∧
  (∀ (d : Nat) (lv : List (Option Value)) (M : jx_M) (Q : jx_Po) (a0 : Int32), jx_Ev (d + 1) 112 149 lv [.int a0, .ref 36] M Q ↔ jx_I d 113 [.ref 36, .int a0] M (fun x M => jx_Ev (d + 1) 112 152 lv (.int x :: []) M Q)) ∧
  (∀ (d : Nat) (lv : List (Option Value)) (M : jx_M) (Q : jx_Po) (x : Int32), jx_Ev d 112 152 lv [.int x] M Q ↔ Q [.int x] M) := by
  refine ⟨?_, ?_, ?_, ?_, ?_, ?_, ?_, ?_, ?_, ?_, ?_, ?_, ?_, ?_, ?_, ?_, ?_, ?_, ?_, ?_, ?_, ?_, ?_, ?_, ?_, ?_, ?_, ?_, ?_, ?_, ?_, ?_, ?_, ?_, ?_, ?_, ?_, ?_, ?_, ?_, ?_, ?_, ?_, ?_, ?_, ?_, ?_, ?_, ?_, ?_, ?_, ?_, ?_, ?_, ?_, ?_, ?_, ?_, ?_, ?_, ?_, ?_, ?_, ?_, ?_, ?_, ?_, ?_, ?_, ?_, ?_, ?_, ?_, ?_, ?_, ?_, ?_, ?_, ?_, ?_, ?_⟩
  · exact fun d st M Q l1 l2 l3 l4 l5 l6 l7 x => jx_ev_st (jx_fok (by decide +kernel : decode (jx_mb 112) 0 = .ok (.aload_n 0, 1))) rfl rfl rfl
  · exact fun d lv st M Q => jx_ev_st (jx_fok (by decide +kernel : decode (jx_mb 112) 1 = .ok (.iconst 0, 1))) rfl rfl rfl
  · exact fun d lv st M Q x => jx_k_pf0 (jx_fok (by decide +kernel : decode (jx_mb 112) 2 = .ok (.putfield 67, 3))) rfl rfl rfl
  · exact fun d st M Q l0 l2 l3 l4 l5 l6 l7 x => jx_ev_st (jx_fok (by decide +kernel : decode (jx_mb 112) 5 = .ok (.iload_n 1, 1))) rfl rfl rfl
  · exact fun d lv M Q a0 => jx_ev_ci (jx_fok (by decide +kernel : decode (jx_mb 112) 6 = .ok (.invokestatic 86, 3))) rfl (jx_ccS (As := [.int a0]) (rest := []) rfl rfl rfl rfl rfl) (by decide)
  · exact fun d lv st M Q x => jx_k_b1n (jx_fok (by decide +kernel : decode (jx_mb 112) 9 = .ok (.ifCond .ne 5, 3))) rfl jx_hNe
  · exact fun d lv st M Q => jx_ev_st (jx_fok (by decide +kernel : decode (jx_mb 112) 12 = .ok (.iconst (-1), 1))) rfl rfl rfl
  · exact fun d lv M Q x => jx_k_ri (jx_fok (by decide +kernel : decode (jx_mb 112) 13 = .ok (.ireturn, 1))) rfl
  · exact fun d st M Q l0 l1 l3 l4 l5 l6 l7 x => jx_ev_st (jx_fok (by decide +kernel : decode (jx_mb 112) 14 = .ok (.iload_n 2, 1))) rfl rfl rfl
  · exact fun d lv M Q a0 => jx_ev_ci (jx_fok (by decide +kernel : decode (jx_mb 112) 15 = .ok (.invokestatic 90, 3))) rfl (jx_ccS (As := [.int a0]) (rest := []) rfl rfl rfl rfl rfl) (by decide)
  · exact fun d lv st M Q x => jx_k_b1 (jx_fok (by decide +kernel : decode (jx_mb 112) 18 = .ok (.ifCond .eq 25, 3))) rfl jx_hEq
  · exact fun d st M Q l0 l1 l2 l3 l4 l6 l7 x => jx_ev_st (jx_fok (by decide +kernel : decode (jx_mb 112) 21 = .ok (.iload 5, 2))) rfl rfl rfl
  · exact fun d lv st M Q => jx_ev_st (jx_fok (by decide +kernel : decode (jx_mb 112) 23 = .ok (.iconst 0, 1))) rfl rfl rfl
  · exact fun d lv st M Q => jx_ev_st (jx_fok (by decide +kernel : decode (jx_mb 112) 24 = .ok (.iconst 2, 1))) rfl rfl rfl
  · exact fun d lv M Q a0 a1 a2 => jx_ev_ci (jx_fok (by decide +kernel : decode (jx_mb 112) 25 = .ok (.invokestatic 73, 3))) rfl (jx_ccS (As := [.int a2, .int a1, .int a0]) (rest := []) rfl rfl rfl rfl rfl) (by decide)
  · exact fun d lv st M Q x => jx_k_b1n (jx_fok (by decide +kernel : decode (jx_mb 112) 28 = .ok (.ifCond .ne 18, 3))) rfl jx_hNe
  · exact fun d st M Q l0 l1 l2 l3 l4 l6 l7 x => jx_ev_st (jx_fok (by decide +kernel : decode (jx_mb 112) 31 = .ok (.iload 5, 2))) rfl rfl rfl
  · exact fun d lv st M Q => jx_ev_st (jx_fok (by decide +kernel : decode (jx_mb 112) 33 = .ok (.bipush 10, 2))) rfl rfl rfl
  · exact fun d lv st M Q => jx_ev_st (jx_fok (by decide +kernel : decode (jx_mb 112) 35 = .ok (.bipush 14, 2))) rfl rfl rfl
  · exact fun d lv M Q a0 a1 a2 => jx_ev_ci (jx_fok (by decide +kernel : decode (jx_mb 112) 37 = .ok (.invokestatic 73, 3))) rfl (jx_ccS (As := [.int a2, .int a1, .int a0]) (rest := []) rfl rfl rfl rfl rfl) (by decide)
  · exact fun d lv st M Q x => jx_k_b1n (jx_fok (by decide +kernel : decode (jx_mb 112) 40 = .ok (.ifCond .ne 6, 3))) rfl jx_hNe
  · exact fun d lv st M Q => jx_ev_st (jx_fok (by decide +kernel : decode (jx_mb 112) 43 = .ok (.bipush (-2), 2))) rfl rfl rfl
  · exact fun d lv M Q x => jx_k_ri (jx_fok (by decide +kernel : decode (jx_mb 112) 45 = .ok (.ireturn, 1))) rfl
  · exact fun d st M Q l1 l2 l3 l4 l5 l6 l7 x => jx_ev_st (jx_fok (by decide +kernel : decode (jx_mb 112) 46 = .ok (.aload_n 0, 1))) rfl rfl rfl
  · exact fun d st M Q l0 l2 l3 l4 l5 l6 l7 x => jx_ev_st (jx_fok (by decide +kernel : decode (jx_mb 112) 47 = .ok (.iload_n 1, 1))) rfl rfl rfl
  · exact fun d st M Q l0 l1 l3 l4 l5 l6 l7 x => jx_ev_st (jx_fok (by decide +kernel : decode (jx_mb 112) 48 = .ok (.iload_n 2, 1))) rfl rfl rfl
  · exact fun d st M Q l0 l1 l2 l4 l5 l6 l7 x => jx_ev_st (jx_fok (by decide +kernel : decode (jx_mb 112) 49 = .ok (.iload_n 3, 1))) rfl rfl rfl
  · exact fun d st M Q l0 l1 l2 l3 l5 l6 l7 x => jx_ev_st (jx_fok (by decide +kernel : decode (jx_mb 112) 50 = .ok (.iload 4, 2))) rfl rfl rfl
  · exact fun d lv M Q a0 a1 a2 a3 => jx_ev_ci (jx_fok (by decide +kernel : decode (jx_mb 112) 52 = .ok (.invokevirtual 93, 3))) rfl (jx_ccV (As := [.int a3, .int a2, .int a1, .int a0]) (rest := []) rfl rfl rfl rfl rfl rfl) (by decide)
  · exact fun d st M Q l0 l1 l2 l3 l4 l5 l6 l7 x => jx_ev_st (jx_fok (by decide +kernel : decode (jx_mb 112) 55 = .ok (.istore 6, 2))) rfl rfl rfl
  · exact fun d st M Q l0 l1 l2 l3 l4 l5 l7 x => jx_ev_st (jx_fok (by decide +kernel : decode (jx_mb 112) 57 = .ok (.iload 6, 2))) rfl rfl rfl
  · exact fun d lv st M Q x => jx_k_b1 (jx_fok (by decide +kernel : decode (jx_mb 112) 59 = .ok (.ifCond .eq 10, 3))) rfl jx_hEq
  · exact fun d st M Q l1 l2 l3 l4 l5 l6 l7 x => jx_ev_st (jx_fok (by decide +kernel : decode (jx_mb 112) 62 = .ok (.aload_n 0, 1))) rfl rfl rfl
  · exact fun d st M Q l0 l1 l2 l3 l4 l5 l7 x => jx_ev_st (jx_fok (by decide +kernel : decode (jx_mb 112) 63 = .ok (.iload 6, 2))) rfl rfl rfl
  · exact fun d lv M Q a0 => jx_ev_ci (jx_fok (by decide +kernel : decode (jx_mb 112) 65 = .ok (.invokevirtual 97, 3))) rfl (jx_ccV (As := [.int a0]) (rest := []) rfl rfl rfl rfl rfl rfl) (by decide)
  · exact fun d lv M Q x => jx_k_ri (jx_fok (by decide +kernel : decode (jx_mb 112) 68 = .ok (.ireturn, 1))) rfl
  · exact fun d st M Q l1 l2 l3 l4 l5 l6 l7 x => jx_ev_st (jx_fok (by decide +kernel : decode (jx_mb 112) 69 = .ok (.aload_n 0, 1))) rfl rfl rfl
  · exact fun d lv st M Q => jx_k_gf (jx_fok (by decide +kernel : decode (jx_mb 112) 70 = .ok (.getfield 80, 3))) rfl rfl rfl
  · exact fun d lv st M Q x => jx_k_b1n (jx_fok (by decide +kernel : decode (jx_mb 112) 73 = .ok (.ifCond .ne 6, 3))) rfl jx_hNe
  · exact fun d lv st M Q => jx_ev_st (jx_fok (by decide +kernel : decode (jx_mb 112) 76 = .ok (.bipush (-3), 2))) rfl rfl rfl
  · exact fun d lv M Q x => jx_k_ri (jx_fok (by decide +kernel : decode (jx_mb 112) 78 = .ok (.ireturn, 1))) rfl
  · exact fun d st M Q l0 l1 l2 l3 l5 l6 l7 x => jx_ev_st (jx_fok (by decide +kernel : decode (jx_mb 112) 79 = .ok (.iload 4, 2))) rfl rfl rfl
  · exact fun d st M Q l1 l2 l3 l4 l5 l6 l7 x => jx_ev_st (jx_fok (by decide +kernel : decode (jx_mb 112) 81 = .ok (.aload_n 0, 1))) rfl rfl rfl
  · exact fun d lv st M Q => jx_k_gf (jx_fok (by decide +kernel : decode (jx_mb 112) 82 = .ok (.getfield 80, 3))) rfl rfl rfl
  · exact fun d lv st M Q x z => jx_k_b2 (jx_fok (by decide +kernel : decode (jx_mb 112) 85 = .ok (.if_icmp .eq 6, 3))) rfl jx_hEq
  · exact fun d lv st M Q => jx_ev_st (jx_fok (by decide +kernel : decode (jx_mb 112) 88 = .ok (.bipush (-2), 2))) rfl rfl rfl
  · exact fun d lv M Q x => jx_k_ri (jx_fok (by decide +kernel : decode (jx_mb 112) 90 = .ok (.ireturn, 1))) rfl
  · exact fun d lv st M Q => jx_ev_st (jx_fok (by decide +kernel : decode (jx_mb 112) 91 = .ok (.iconst 0, 1))) rfl rfl rfl
  · exact fun d st M Q l0 l1 l2 l3 l4 l5 l6 l7 x => jx_ev_st (jx_fok (by decide +kernel : decode (jx_mb 112) 92 = .ok (.istore 7, 2))) rfl rfl rfl
  · exact fun d st M Q l0 l1 l2 l3 l5 l6 l7 x => jx_ev_st (jx_fok (by decide +kernel : decode (jx_mb 112) 96 = .ok (.iload 4, 2))) rfl rfl rfl
  · exact fun d lv st M Q x z => jx_k_b2 (jx_fok (by decide +kernel : decode (jx_mb 112) 98 = .ok (.if_icmp .ge 48, 3))) rfl jx_hGe
  · exact fun d st M Q l1 l2 l3 l4 l5 l6 l7 x => jx_ev_st (jx_fok (by decide +kernel : decode (jx_mb 112) 101 = .ok (.aload_n 0, 1))) rfl rfl rfl
  · exact fun d lv st M Q => jx_k_gf (jx_fok (by decide +kernel : decode (jx_mb 112) 102 = .ok (.getfield 49, 3))) rfl rfl rfl
  · exact fun d st M Q l0 l1 l2 l3 l4 l5 l6 x => jx_ev_st (jx_fok (by decide +kernel : decode (jx_mb 112) 105 = .ok (.iload 7, 2))) rfl rfl rfl
  · exact fun d st M Q l1 l2 l3 l4 l5 l6 l7 x => jx_ev_st (jx_fok (by decide +kernel : decode (jx_mb 112) 107 = .ok (.aload_n 0, 1))) rfl rfl rfl
  · exact fun d lv st M Q => jx_k_gf (jx_fok (by decide +kernel : decode (jx_mb 112) 108 = .ok (.getfield 16, 3))) rfl rfl rfl
  · exact fun d lv st M Q => jx_ev_st (jx_fok (by decide +kernel : decode (jx_mb 112) 111 = .ok (.bipush 60, 2))) rfl rfl rfl
  · exact fun d st M Q l0 l2 l3 l4 l5 l6 l7 x => jx_ev_st (jx_fok (by decide +kernel : decode (jx_mb 112) 113 = .ok (.iload_n 1, 1))) rfl rfl rfl
  · exact fun d lv st M Q x z => jx_ev_st (jx_fok (by decide +kernel : decode (jx_mb 112) 114 = .ok (.imul, 1))) rfl rfl rfl
  · exact fun d st M Q l0 l1 l2 l4 l5 l6 l7 x => jx_ev_st (jx_fok (by decide +kernel : decode (jx_mb 112) 115 = .ok (.iload_n 3, 1))) rfl rfl rfl
  · exact fun d lv st M Q x z => jx_ev_st (jx_fok (by decide +kernel : decode (jx_mb 112) 116 = .ok (.iadd, 1))) rfl rfl rfl
  · exact fun d st M Q l0 l1 l2 l3 l4 l5 l6 x => jx_ev_st (jx_fok (by decide +kernel : decode (jx_mb 112) 117 = .ok (.iload 7, 2))) rfl rfl rfl
  · exact fun d lv st M Q x z => jx_ev_st (jx_fok (by decide +kernel : decode (jx_mb 112) 119 = .ok (.iadd, 1))) rfl rfl rfl
  · exact fun d lv st M Q x a ha => jx_k_al (jx_fok (by decide +kernel : decode (jx_mb 112) 120 = .ok (.iaload, 1))) ha
  · exact fun d lv st M Q x z a ha => jx_k_as (jx_fok (by decide +kernel : decode (jx_mb 112) 121 = .ok (.iastore, 1))) ha
  · exact fun d st M Q l1 l2 l3 l4 l5 l6 l7 x => jx_ev_st (jx_fok (by decide +kernel : decode (jx_mb 112) 122 = .ok (.aload_n 0, 1))) rfl rfl rfl
  · exact fun d lv st M Q => jx_k_gf (jx_fok (by decide +kernel : decode (jx_mb 112) 123 = .ok (.getfield 49, 3))) rfl rfl rfl
  · exact fun d st M Q l0 l1 l2 l3 l4 l5 l6 x => jx_ev_st (jx_fok (by decide +kernel : decode (jx_mb 112) 126 = .ok (.iload 7, 2))) rfl rfl rfl
  · exact fun d lv st M Q x a ha => jx_k_al (jx_fok (by decide +kernel : decode (jx_mb 112) 128 = .ok (.iaload, 1))) ha
  · exact fun d lv st M Q => jx_ev_st (jx_fok (by decide +kernel : decode (jx_mb 112) 129 = .ok (.iconst 0, 1))) rfl rfl rfl
  · exact fun d lv st M Q => jx_ev_st (jx_fok (by decide +kernel : decode (jx_mb 112) 130 = .ok (.iconst 3, 1))) rfl rfl rfl
  · exact fun d lv M Q a0 a1 a2 => jx_ev_ci (jx_fok (by decide +kernel : decode (jx_mb 112) 131 = .ok (.invokestatic 73, 3))) rfl (jx_ccS (As := [.int a2, .int a1, .int a0]) (rest := []) rfl rfl rfl rfl rfl) (by decide)
  · exact fun d lv st M Q x => jx_k_b1n (jx_fok (by decide +kernel : decode (jx_mb 112) 134 = .ok (.ifCond .ne 6, 3))) rfl jx_hNe
  · exact fun d lv st M Q => jx_ev_st (jx_fok (by decide +kernel : decode (jx_mb 112) 137 = .ok (.bipush (-2), 2))) rfl rfl rfl
  · exact fun d lv M Q x => jx_k_ri (jx_fok (by decide +kernel : decode (jx_mb 112) 139 = .ok (.ireturn, 1))) rfl
  · exact fun d st M Q l0 l1 l2 l3 l4 l5 l6 x => jx_ev_st (jx_fok (by decide +kernel : decode (jx_mb 112) 140 = .ok (.iinc 7 1, 3))) rfl rfl rfl
  · exact fun d lv st M Q => jx_k_goto (jx_fok (by decide +kernel : decode (jx_mb 112) 143 = .ok (.goto (-49), 3))) rfl
  · exact fun d st M Q l1 l2 l3 l4 l5 l6 l7 x => jx_ev_st (jx_fok (by decide +kernel : decode (jx_mb 112) 146 = .ok (.aload_n 0, 1))) rfl rfl rfl
  · exact fun d st M Q l0 l1 l2 l3 l4 l6 l7 x => jx_ev_st (jx_fok (by decide +kernel : decode (jx_mb 112) 147 = .ok (.iload 5, 2))) rfl rfl rfl
  · exact fun d lv M Q a0 => jx_ev_ci (jx_fok (by decide +kernel : decode (jx_mb 112) 149 = .ok (.invokevirtual 161, 3))) rfl (jx_ccV (As := [.int a0]) (rest := []) rfl rfl rfl rfl rfl rfl) (by decide)
  · exact fun d lv M Q x => jx_k_ri (jx_fok (by decide +kernel : decode (jx_mb 112) 152 = .ok (.ireturn, 1))) rfl
theorem eX8_open_94 (d : Nat) (st : List Value) (M : jx_M) (Q : jx_Po) (l0 l1 l2 l3 l4 l5 l6 : Option Value) (x : Int32) : jx_Ev d 112 94 [l0, l1, l2, l3, l4, l5, l6, some (.int x)] st M Q ↔ jx_Ev d 112 96 [l0, l1, l2, l3, l4, l5, l6, some (.int x)] (.int x :: st) M Q := jx_ev_st (jx_fok (by decide +kernel : decode (jx_mb 112) 94 = .ok (.iload 7, 2))) rfl rfl rfl
theorem kX8_open (d : Nat) (M : jx_M) (q : Int32 → jx_M → Prop) (a0 a1 a2 a3 a4 a5 : Value) : jx_I d 112 [a0, a1, a2, a3, a4, a5] M q ↔ jx_Ev d 112 0 [some a0, some a1, some a2, some a3, some a4, some a5, none, none] [] M (jx_qI q) := Iff.rfl
set_option maxRecDepth 100000 in
theorem eX8_tellOpen :
  (∀ (d : Nat) (lv : List (Option Value)) (st : List Value) (M : jx_M) (Q : jx_Po), jx_Ev d 113 0 lv st M Q ↔ jx_Ev d 113 1 lv (.int 0 :: st) M Q) ∧
  (∀ (d : Nat) (st : List Value) (M : jx_M) (Q : jx_Po) (l0 l1 l2 l3 l4 l5 l6 : Option Value) (x : Int32), jx_Ev d 113 1 [l0, l1, l2, l3, l4, l5, l6] (.int x :: st) M Q ↔ jx_Ev d 113 2 [l0, l1, some (.int x), l3, l4, l5, l6] st M Q) ∧
  (∀ (d : Nat) (st : List Value) (M : jx_M) (Q : jx_Po) (l0 l2 l3 l4 l5 l6 : Option Value) (x : Int32), jx_Ev d 113 2 [l0, some (.int x), l2, l3, l4, l5, l6] st M Q ↔ jx_Ev d 113 3 [l0, some (.int x), l2, l3, l4, l5, l6] (.int x :: st) M Q) ∧
  (∀ (d : Nat) (lv : List (Option Value)) (st : List Value) (M : jx_M) (Q : jx_Po), jx_Ev d 113 3 lv st M Q ↔ jx_Ev d 113 4 lv (.int 1 :: st) M Q) ∧
  (∀ (d : Nat) (lv : List (Option Value)) (st : List Value) (M : jx_M) (Q : jx_Po) (x z : Int32), jx_Ev d 113 4 lv (.int z :: .int x :: st) M Q ↔ (if x = z then jx_Ev d 113 7 lv st M Q else jx_Ev d 113 36 lv st M Q)) ∧
  (∀ (d : Nat) (lv : List (Option Value)) (st : List Value) (M : jx_M) (Q : jx_Po), jx_Ev d 113 7 lv st M Q ↔ jx_Ev d 113 8 lv (.int 0 :: st) M Q) ∧
  (∀ (d : Nat) (st : List Value) (M : jx_M) (Q : jx_Po) (l0 l1 l2 l3 l4 l5 l6 : Option Value) (x : Int32), jx_Ev d 113 8 [l0, l1, l2, l3, l4, l5, l6] (.int x :: st) M Q ↔ jx_Ev d 113 9 [l0, l1, l2, some (.int x), l4, l5, l6] st M Q) ∧
  (∀ (d : Nat) (st : List Value) (M : jx_M) (Q : jx_Po) (l1 l2 l3 l4 l5 l6 : Option Value) (x : Nat), jx_Ev d 113 10 [some (.ref x), l1, l2, l3, l4, l5, l6] st M Q ↔ jx_Ev d 113 11 [some (.ref x), l1, l2, l3, l4, l5, l6] (.ref x :: st) M Q) ∧
  (∀ (d : Nat) (lv : List (Option Value)) (st : List Value) (M : jx_M) (Q : jx_Po), jx_Ev d 113 11 lv (.ref 36 :: st) M Q ↔ jx_Ev d 113 14 lv (.int (M 36 6) :: st) M Q) ∧
  (∀ (d : Nat) (lv : List (Option Value)) (st : List Value) (M : jx_M) (Q : jx_Po) (x z : Int32), jx_Ev d 113 14 lv (.int z :: .int x :: st) M Q ↔ (if z ≤ x then jx_Ev d 113 34 lv st M Q else jx_Ev d 113 17 lv st M Q)) ∧
  (∀ (d : Nat) (st : List Value) (M : jx_M) (Q : jx_Po) (l0 l1 l3 l4 l5 l6 : Option Value) (x : Int32), jx_Ev d 113 17 [l0, l1, some (.int x), l3, l4, l5, l6] st M Q ↔ jx_Ev d 113 18 [l0, l1, some (.int x), l3, l4, l5, l6] (.int x :: st) M Q) ∧
  (∀ (d : Nat) (lv : List (Option Value)) (st : List Value) (M : jx_M) (Q : jx_Po), jx_Ev d 113 18 lv st M Q ↔ jx_Ev d 113 19 lv (.int 1 :: st) M Q) ∧
  (∀ (d : Nat) (st : List Value) (M : jx_M) (Q : jx_Po) (l1 l2 l3 l4 l5 l6 : Option Value) (x : Nat), jx_Ev d 113 19 [some (.ref x), l1, l2, l3, l4, l5, l6] st M Q ↔ jx_Ev d 113 20 [some (.ref x), l1, l2, l3, l4, l5, l6] (.ref x :: st) M Q) ∧
  (∀ (d : Nat) (lv : List (Option Value)) (st : List Value) (M : jx_M) (Q : jx_Po), jx_Ev d 113 20 lv (.ref 36 :: st) M Q ↔ jx_Ev d 113 23 lv (.ref 50 :: st) M Q) ∧
  (∀ (d : Nat) (st : List Value) (M : jx_M) (Q : jx_Po) (l0 l1 l2 l4 l5 l6 : Option Value) (x : Int32), jx_Ev d 113 23 [l0, l1, l2, some (.int x), l4, l5, l6] st M Q ↔ jx_Ev d 113 24 [l0, l1, l2, some (.int x), l4, l5, l6] (.int x :: st) M Q) ∧
  (∀ (d : Nat) (lv : List (Option Value)) (st : List Value) (M : jx_M) (Q : jx_Po) (x : Int32) (a : Nat) (ha : jx_cl a = 9), jx_Ev d 113 24 lv (.int x :: .ref a :: st) M Q ↔ (vp_in x (jx_sz a) ∧ jx_Ev d 113 25 lv (.int (M a x.toNatClampNeg) :: st) M Q)) ∧
  (∀ (d : Nat) (lv : List (Option Value)) (st : List Value) (M : jx_M) (Q : jx_Po) (x z : Int32), jx_Ev d 113 25 lv (.int z :: .int x :: st) M Q ↔ jx_Ev d 113 26 lv (.int (x <<< (z &&& 31)) :: st) M Q) ∧
  (∀ (d : Nat) (lv : List (Option Value)) (st : List Value) (M : jx_M) (Q : jx_Po) (x z : Int32), jx_Ev d 113 26 lv (.int z :: .int x :: st) M Q ↔ jx_Ev d 113 27 lv (.int (x ||| z) :: st) M Q) ∧
  (∀ (d : Nat) (st : List Value) (M : jx_M) (Q : jx_Po) (l0 l1 l2 l3 l4 l5 l6 : Option Value) (x : Int32), jx_Ev d 113 27 [l0, l1, l2, l3, l4, l5, l6] (.int x :: st) M Q ↔ jx_Ev d 113 28 [l0, l1, some (.int x), l3, l4, l5, l6] st M Q) ∧
  (∀ (d : Nat) (st : List Value) (M : jx_M) (Q : jx_Po) (l0 l1 l2 l4 l5 l6 : Option Value) (x : Int32), jx_Ev d 113 28 [l0, l1, l2, some (.int x), l4, l5, l6] st M Q ↔ jx_Ev d 113 31 [l0, l1, l2, some (.int (x + 1)), l4, l5, l6] st M Q) ∧
  (∀ (d : Nat) (lv : List (Option Value)) (st : List Value) (M : jx_M) (Q : jx_Po), jx_Ev d 113 31 lv st M Q ↔ jx_Ev d 113 9 lv st M Q) ∧
  (∀ (d : Nat) (st : List Value) (M : jx_M) (Q : jx_Po) (l0 l1 l3 l4 l5 l6 : Option Value) (x : Int32), jx_Ev d 113 34 [l0, l1, some (.int x), l3, l4, l5, l6] st M Q ↔ jx_Ev d 113 35 [l0, l1, some (.int x), l3, l4, l5, l6] (.int x :: st) M Q) ∧
  (∀ (d : Nat) (lv : List (Option Value)) (M : jx_M) (Q : jx_Po) (x : Int32), jx_Ev d 113 35 lv [.int x] M Q ↔ Q [.int x] M) ∧
  (∀ (d : Nat) (st : List Value) (M : jx_M) (Q : jx_Po) (l0 l2 l3 l4 l5 l6 : Option Value) (x : Int32), jx_Ev d 113 36 [l0, some (.int x), l2, l3, l4, l5, l6] st M Q ↔ jx_Ev d 113 37 [l0, some (.int x), l2, l3, l4, l5, l6] (.int x :: st) M Q) ∧
  (∀ (d : Nat) (lv : List (Option Value)) (st : List Value) (M : jx_M) (Q : jx_Po), jx_Ev d 113 37 lv st M Q ↔ jx_Ev d 113 39 lv (.int 10 :: st) M Q) ∧
  (∀ (d : Nat) (lv : List (Option Value)) (st : List Value) (M : jx_M) (Q : jx_Po) (x z : Int32), jx_Ev d 113 39 lv (.int z :: .int x :: st) M Q ↔ (if x < z then jx_Ev d 113 67 lv st M Q else jx_Ev d 113 42 lv st M Q)) ∧
  (∀ (d : Nat) (st : List Value) (M : jx_M) (Q : jx_Po) (l1 l2 l3 l4 l5 l6 : Option Value) (x : Nat), jx_Ev d 113 42 [some (.ref x), l1, l2, l3, l4, l5, l6] st M Q ↔ jx_Ev d 113 43 [some (.ref x), l1, l2, l3, l4, l5, l6] (.ref x :: st) M Q) ∧
  (∀ (d : Nat) (st : List Value) (M : jx_M) (Q : jx_Po) (l0 l2 l3 l4 l5 l6 : Option Value) (x : Int32), jx_Ev d 113 43 [l0, some (.int x), l2, l3, l4, l5, l6] st M Q ↔ jx_Ev d 113 44 [l0, some (.int x), l2, l3, l4, l5, l6] (.int x :: st) M Q) ∧
  (∀ (d : Nat) (lv : List (Option Value)) (st : List Value) (M : jx_M) (Q : jx_Po), jx_Ev d 113 44 lv st M Q ↔ jx_Ev d 113 46 lv (.int 10 :: st) M Q) ∧
  (∀ (d : Nat) (lv : List (Option Value)) (st : List Value) (M : jx_M) (Q : jx_Po) (x z : Int32), jx_Ev d 113 46 lv (.int z :: .int x :: st) M Q ↔ jx_Ev d 113 47 lv (.int (x - z) :: st) M Q) ∧
  (∀ (d : Nat) (lv : List (Option Value)) (M : jx_M) (Q : jx_Po) (a0 : Int32), jx_Ev (d + 1) 113 47 lv [.int a0, .ref 36] M Q ↔ jx_I d 90 [.ref 36, .int a0] M (fun x M => jx_Ev (d + 1) 113 50 lv (.int x :: []) M Q)) ∧
  (∀ (d : Nat) (lv : List (Option Value)) (st : List Value) (M : jx_M) (Q : jx_Po) (x : Int32), jx_Ev d 113 50 lv (.int x :: st) M Q ↔ (if x = 0 then jx_Ev d 113 64 lv st M Q else jx_Ev d 113 53 lv st M Q)) ∧
  (∀ (d : Nat) (st : List Value) (M : jx_M) (Q : jx_Po) (l1 l2 l3 l4 l5 l6 : Option Value) (x : Nat), jx_Ev d 113 53 [some (.ref x), l1, l2, l3, l4, l5, l6] st M Q ↔ jx_Ev d 113 54 [some (.ref x), l1, l2, l3, l4, l5, l6] (.ref x :: st) M Q) ∧
  (∀ (d : Nat) (st : List Value) (M : jx_M) (Q : jx_Po) (l0 l2 l3 l4 l5 l6 : Option Value) (x : Int32), jx_Ev d 113 54 [l0, some (.int x), l2, l3, l4, l5, l6] st M Q ↔ jx_Ev d 113 55 [l0, some (.int x), l2, l3, l4, l5, l6] (.int x :: st) M Q) ∧
  (∀ (d : Nat) (lv : List (Option Value)) (st : List Value) (M : jx_M) (Q : jx_Po), jx_Ev d 113 55 lv st M Q ↔ jx_Ev d 113 57 lv (.int 10 :: st) M Q) ∧
  (∀ (d : Nat) (lv : List (Option Value)) (st : List Value) (M : jx_M) (Q : jx_Po) (x z : Int32), jx_Ev d 113 57 lv (.int z :: .int x :: st) M Q ↔ jx_Ev d 113 58 lv (.int (x - z) :: st) M Q) ∧
  (∀ (d : Nat) (lv : List (Option Value)) (M : jx_M) (Q : jx_Po) (a0 : Int32), jx_Ev (d + 1) 113 58 lv [.int a0, .ref 36] M Q ↔ jx_I d 111 [.ref 36, .int a0] M (fun x M => jx_Ev (d + 1) 113 61 lv (.int x :: []) M Q)) ∧
  (∀ (d : Nat) (lv : List (Option Value)) (st : List Value) (M : jx_M) (Q : jx_Po), jx_Ev d 113 61 lv st M Q ↔ jx_Ev d 113 66 lv st M Q) ∧
  (∀ (d : Nat) (lv : List (Option Value)) (st : List Value) (M : jx_M) (Q : jx_Po), jx_Ev d 113 64 lv st M Q ↔ jx_Ev d 113 66 lv (.int (-9) :: st) M Q) ∧
  (∀ (d : Nat) (lv : List (Option Value)) (M : jx_M) (Q : jx_Po) (x : Int32), jx_Ev d 113 66 lv [.int x] M Q ↔ Q [.int x] M) ∧
  (∀ (d : Nat) (lv : List (Option Value)) (st : List Value) (M : jx_M) (Q : jx_Po), jx_Ev d 113 67 lv st M Q ↔ jx_Ev d 113 68 lv (.int 0 :: st) M Q) ∧
  (∀ (d : Nat) (st : List Value) (M : jx_M) (Q : jx_Po) (l0 l1 l2 l3 l4 l5 l6 : Option Value) (x : Int32), jx_Ev d 113 68 [l0, l1, l2, l3, l4, l5, l6] (.int x :: st) M Q ↔ jx_Ev d 113 69 [l0, l1, l2, some (.int x), l4, l5, l6] st M Q) ∧
  (∀ (d : Nat) (lv : List (Option Value)) (st : List Value) (M : jx_M) (Q : jx_Po), jx_Ev d 113 69 lv st M Q ↔ jx_Ev d 113 71 lv (.int (-9) :: st) M Q) ∧
  (∀ (d : Nat) (st : List Value) (M : jx_M) (Q : jx_Po) (l0 l1 l2 l3 l4 l5 l6 : Option Value) (x : Int32), jx_Ev d 113 71 [l0, l1, l2, l3, l4, l5, l6] (.int x :: st) M Q ↔ jx_Ev d 113 73 [l0, l1, l2, l3, some (.int x), l5, l6] st M Q) ∧
  (∀ (d : Nat) (lv : List (Option Value)) (st : List Value) (M : jx_M) (Q : jx_Po), jx_Ev d 113 73 lv st M Q ↔ jx_Ev d 113 74 lv (.int 0 :: st) M Q) ∧
  (∀ (d : Nat) (st : List Value) (M : jx_M) (Q : jx_Po) (l0 l1 l2 l3 l4 l5 l6 : Option Value) (x : Int32), jx_Ev d 113 74 [l0, l1, l2, l3, l4, l5, l6] (.int x :: st) M Q ↔ jx_Ev d 113 76 [l0, l1, l2, l3, l4, some (.int x), l6] st M Q) ∧
  (∀ (d : Nat) (st : List Value) (M : jx_M) (Q : jx_Po) (l1 l2 l3 l4 l5 l6 : Option Value) (x : Nat), jx_Ev d 113 78 [some (.ref x), l1, l2, l3, l4, l5, l6] st M Q ↔ jx_Ev d 113 79 [some (.ref x), l1, l2, l3, l4, l5, l6] (.ref x :: st) M Q) ∧
  (∀ (d : Nat) (lv : List (Option Value)) (st : List Value) (M : jx_M) (Q : jx_Po), jx_Ev d 113 79 lv (.ref 36 :: st) M Q ↔ jx_Ev d 113 82 lv (.int (M 36 5) :: st) M Q) ∧
  (∀ (d : Nat) (lv : List (Option Value)) (st : List Value) (M : jx_M) (Q : jx_Po) (x z : Int32), jx_Ev d 113 82 lv (.int z :: .int x :: st) M Q ↔ (if z ≤ x then jx_Ev d 113 132 lv st M Q else jx_Ev d 113 85 lv st M Q)) ∧
  (∀ (d : Nat) (st : List Value) (M : jx_M) (Q : jx_Po) (l1 l2 l3 l4 l5 l6 : Option Value) (x : Nat), jx_Ev d 113 85 [some (.ref x), l1, l2, l3, l4, l5, l6] st M Q ↔ jx_Ev d 113 86 [some (.ref x), l1, l2, l3, l4, l5, l6] (.ref x :: st) M Q) ∧
  (∀ (d : Nat) (st : List Value) (M : jx_M) (Q : jx_Po) (l0 l1 l2 l3 l4 l6 : Option Value) (x : Int32), jx_Ev d 113 86 [l0, l1, l2, l3, l4, some (.int x), l6] st M Q ↔ jx_Ev d 113 88 [l0, l1, l2, l3, l4, some (.int x), l6] (.int x :: st) M Q) ∧
  (∀ (d : Nat) (lv : List (Option Value)) (M : jx_M) (Q : jx_Po) (a0 : Int32), jx_Ev (d + 1) 113 88 lv [.int a0, .ref 36] M Q ↔ jx_I d 111 [.ref 36, .int a0] M (fun x M => jx_Ev (d + 1) 113 91 lv (.int x :: []) M Q)) ∧
  (∀ (d : Nat) (st : List Value) (M : jx_M) (Q : jx_Po) (l0 l1 l2 l3 l4 l5 l6 : Option Value) (x : Int32), jx_Ev d 113 91 [l0, l1, l2, l3, l4, l5, l6] (.int x :: st) M Q ↔ jx_Ev d 113 93 [l0, l1, l2, l3, l4, l5, some (.int x)] st M Q) ∧
  (∀ (d : Nat) (st : List Value) (M : jx_M) (Q : jx_Po) (l0 l1 l3 l4 l5 l6 : Option Value) (x : Int32), jx_Ev d 113 93 [l0, l1, some (.int x), l3, l4, l5, l6] st M Q ↔ jx_Ev d 113 94 [l0, l1, some (.int x), l3, l4, l5, l6] (.int x :: st) M Q) ∧
  (∀ (d : Nat) (st : List Value) (M : jx_M) (Q : jx_Po) (l0 l1 l2 l3 l4 l5 : Option Value) (x : Int32), jx_Ev d 113 94 [l0, l1, l2, l3, l4, l5, some (.int x)] st M Q ↔ jx_Ev d 113 96 [l0, l1, l2, l3, l4, l5, some (.int x)] (.int x :: st) M Q) ∧
  (∀ (d : Nat) (lv : List (Option Value)) (st : List Value) (M : jx_M) (Q : jx_Po) (x z : Int32), jx_Ev d 113 96 lv (.int z :: .int x :: st) M Q ↔ jx_Ev d 113 97 lv (.int (x + z) :: st) M Q) ∧
  (∀ (d : Nat) (st : List Value) (M : jx_M) (Q : jx_Po) (l0 l1 l2 l3 l4 l5 l6 : Option Value) (x : Int32), jx_Ev d 113 97 [l0, l1, l2, l3, l4, l5, l6] (.int x :: st) M Q ↔ jx_Ev d 113 98 [l0, l1, some (.int x), l3, l4, l5, l6] st M Q) ∧
  (∀ (d : Nat) (st : List Value) (M : jx_M) (Q : jx_Po) (l0 l1 l2 l3 l4 l5 : Option Value) (x : Int32), jx_Ev d 113 98 [l0, l1, l2, l3, l4, l5, some (.int x)] st M Q ↔ jx_Ev d 113 100 [l0, l1, l2, l3, l4, l5, some (.int x)] (.int x :: st) M Q) ∧
  (∀ (d : Nat) (st : List Value) (M : jx_M) (Q : jx_Po) (l0 l1 l2 l4 l5 l6 : Option Value) (x : Int32), jx_Ev d 113 100 [l0, l1, l2, some (.int x), l4, l5, l6] st M Q ↔ jx_Ev d 113 101 [l0, l1, l2, some (.int x), l4, l5, l6] (.int x :: st) M Q) ∧
  (∀ (d : Nat) (lv : List (Option Value)) (st : List Value) (M : jx_M) (Q : jx_Po) (x z : Int32), jx_Ev d 113 101 lv (.int z :: .int x :: st) M Q ↔ (if x ≤ z then jx_Ev d 113 109 lv st M Q else jx_Ev d 113 104 lv st M Q)) ∧
  (∀ (d : Nat) (st : List Value) (M : jx_M) (Q : jx_Po) (l0 l1 l2 l3 l4 l6 : Option Value) (x : Int32), jx_Ev d 113 104 [l0, l1, l2, l3, l4, some (.int x), l6] st M Q ↔ jx_Ev d 113 106 [l0, l1, l2, l3, l4, some (.int x), l6] (.int x :: st) M Q) ∧
  (∀ (d : Nat) (lv : List (Option Value)) (st : List Value) (M : jx_M) (Q : jx_Po), jx_Ev d 113 106 lv st M Q ↔ jx_Ev d 113 111 lv st M Q) ∧
  (∀ (d : Nat) (st : List Value) (M : jx_M) (Q : jx_Po) (l0 l1 l2 l3 l5 l6 : Option Value) (x : Int32), jx_Ev d 113 109 [l0, l1, l2, l3, some (.int x), l5, l6] st M Q ↔ jx_Ev d 113 111 [l0, l1, l2, l3, some (.int x), l5, l6] (.int x :: st) M Q) ∧
  (∀ (d : Nat) (st : List Value) (M : jx_M) (Q : jx_Po) (l0 l1 l2 l3 l4 l5 l6 : Option Value) (x : Int32), jx_Ev d 113 111 [l0, l1, l2, l3, l4, l5, l6] (.int x :: st) M Q ↔ jx_Ev d 113 113 [l0, l1, l2, l3, some (.int x), l5, l6] st M Q) ∧
  (∀ (d : Nat) (st : List Value) (M : jx_M) (Q : jx_Po) (l0 l1 l2 l3 l4 l5 : Option Value) (x : Int32), jx_Ev d 113 113 [l0, l1, l2, l3, l4, l5, some (.int x)] st M Q ↔ jx_Ev d 113 115 [l0, l1, l2, l3, l4, l5, some (.int x)] (.int x :: st) M Q) ∧
  (∀ (d : Nat) (st : List Value) (M : jx_M) (Q : jx_Po) (l0 l1 l2 l4 l5 l6 : Option Value) (x : Int32), jx_Ev d 113 115 [l0, l1, l2, some (.int x), l4, l5, l6] st M Q ↔ jx_Ev d 113 116 [l0, l1, l2, some (.int x), l4, l5, l6] (.int x :: st) M Q) ∧
  (∀ (d : Nat) (lv : List (Option Value)) (st : List Value) (M : jx_M) (Q : jx_Po) (x z : Int32), jx_Ev d 113 116 lv (.int z :: .int x :: st) M Q ↔ (if x ≤ z then jx_Ev d 113 124 lv st M Q else jx_Ev d 113 119 lv st M Q)) ∧
  (∀ (d : Nat) (st : List Value) (M : jx_M) (Q : jx_Po) (l0 l1 l2 l3 l4 l5 : Option Value) (x : Int32), jx_Ev d 113 119 [l0, l1, l2, l3, l4, l5, some (.int x)] st M Q ↔ jx_Ev d 113 121 [l0, l1, l2, l3, l4, l5, some (.int x)] (.int x :: st) M Q) ∧
  (∀ (d : Nat) (lv : List (Option Value)) (st : List Value) (M : jx_M) (Q : jx_Po), jx_Ev d 113 121 lv st M Q ↔ jx_Ev d 113 125 lv st M Q) ∧
  (∀ (d : Nat) (st : List Value) (M : jx_M) (Q : jx_Po) (l0 l1 l2 l4 l5 l6 : Option Value) (x : Int32), jx_Ev d 113 124 [l0, l1, l2, some (.int x), l4, l5, l6] st M Q ↔ jx_Ev d 113 125 [l0, l1, l2, some (.int x), l4, l5, l6] (.int x :: st) M Q) ∧
  (∀ (d : Nat) (st : List Value) (M : jx_M) (Q : jx_Po) (l0 l1 l2 l3 l4 l5 l6 : Option Value) (x : Int32), jx_Ev d 113 125 [l0, l1, l2, l3, l4, l5, l6] (.int x :: st) M Q ↔ jx_Ev d 113 126 [l0, l1, l2, some (.int x), l4, l5, l6] st M Q) ∧
  (∀ (d : Nat) (st : List Value) (M : jx_M) (Q : jx_Po) (l0 l1 l2 l3 l4 l6 : Option Value) (x : Int32), jx_Ev d 113 126 [l0, l1, l2, l3, l4, some (.int x), l6] st M Q ↔ jx_Ev d 113 129 [l0, l1, l2, l3, l4, some (.int (x + 1)), l6] st M Q) ∧
  (∀ (d : Nat) (lv : List (Option Value)) (st : List Value) (M : jx_M) (Q : jx_Po), jx_Ev d 113 129 lv st M Q ↔ jx_Ev d 113 76 lv st M Q) ∧
  (∀ (d : Nat) (st : List Value) (M : jx_M) (Q : jx_Po) (l0 l2 l3 l4 l5 l6 : Option Value) (x : Int32), jx_Ev d 113 132 [l0, some (.int x), l2, l3, l4, l5, l6] st M Q ↔ jx_Ev d 113 133 [l0, some (.int x), l2, l3, l4, l5, l6] (.int x :: st) M Q) ∧
  (∀ (d : Nat) (lv : List (Option Value)) (st : List Value) (M : jx_M) (Q : jx_Po) (x : Int32), jx_Ev d 113 133 lv (.int x :: st) M Q ↔ (if x = 0 then jx_Ev d 113 136 lv st M Q else jx_Ev d 113 140 lv st M Q)) ∧
  (∀ (d : Nat) (st : List Value) (M : jx_M) (Q : jx_Po) (l0 l1 l3 l4 l5 l6 : Option Value) (x : Int32), jx_Ev d 113 136 [l0, l1, some (.int x), l3, l4, l5, l6] st M Q ↔ jx_Ev d 113 137 [l0, l1, some (.int x), l3, l4, l5, l6] (.int x :: st) M Q) ∧
  (∀ (d : Nat) (lv : List (Option Value)) (st : List Value) (M : jx_M) (Q : jx_Po), jx_Ev d 113 137 lv st M Q ↔ jx_Ev d 113 142 lv st M Q) ∧
  (∀ (d : Nat) (st : List Value) (M : jx_M) (Q : jx_Po) (l0 l1 l2 l3 l5 l6 : Option Value) (x : Int32), jx_Ev d 113 140 [l0, l1, l2, l3, some (.int x), l5, l6] st M Q ↔ jx_Ev d 113 142 [l0, l1, l2, l3, some (.int x), l5, l6] (.int x :: st) M Q) ∧
  (∀ (d : Nat) (lv : List (Option Value)) (M : jx_M) (Q : jx_Po) (x : Int32), jx_Ev d 113 142 lv [.int x] M Q ↔ Q [.int x] M) := by
  refine ⟨?_, ?_, ?_, ?_, ?_, ?_, ?_, ?_, ?_, ?_, ?_, ?_, ?_, ?_, ?_, ?_, ?_, ?_, ?_, ?_, ?_, ?_, ?_, ?_, ?_, ?_, ?_, ?_, ?_, ?_, ?_, ?_, ?_, ?_, ?_, ?_, ?_, ?_, ?_, ?_, ?_, ?_, ?_, ?_, ?_, ?_, ?_, ?_, ?_, ?_, ?_, ?_, ?_, ?_, ?_, ?_, ?_, ?_, ?_, ?_, ?_, ?_, ?_, ?_, ?_, ?_, ?_, ?_, ?_, ?_, ?_, ?_, ?_, ?_, ?_, ?_, ?_, ?_, ?_⟩
  · exact fun d lv st M Q => jx_ev_st (jx_fok (by decide +kernel : decode (jx_mb 113) 0 = .ok (.iconst 0, 1))) rfl rfl rfl
  · exact fun d st M Q l0 l1 l2 l3 l4 l5 l6 x => jx_ev_st (jx_fok (by decide +kernel : decode (jx_mb 113) 1 = .ok (.istore_n 2, 1))) rfl rfl rfl
  · exact fun d st M Q l0 l2 l3 l4 l5 l6 x => jx_ev_st (jx_fok (by decide +kernel : decode (jx_mb 113) 2 = .ok (.iload_n 1, 1))) rfl rfl rfl
  · exact fun d lv st M Q => jx_ev_st (jx_fok (by decide +kernel : decode (jx_mb 113) 3 = .ok (.iconst 1, 1))) rfl rfl rfl
  · exact fun d lv st M Q x z => jx_k_b2n (jx_fok (by decide +kernel : decode (jx_mb 113) 4 = .ok (.if_icmp .ne 32, 3))) rfl jx_hNe
  · exact fun d lv st M Q => jx_ev_st (jx_fok (by decide +kernel : decode (jx_mb 113) 7 = .ok (.iconst 0, 1))) rfl rfl rfl
  · exact fun d st M Q l0 l1 l2 l3 l4 l5 l6 x => jx_ev_st (jx_fok (by decide +kernel : decode (jx_mb 113) 8 = .ok (.istore_n 3, 1))) rfl rfl rfl
  · exact fun d st M Q l1 l2 l3 l4 l5 l6 x => jx_ev_st (jx_fok (by decide +kernel : decode (jx_mb 113) 10 = .ok (.aload_n 0, 1))) rfl rfl rfl
  · exact fun d lv st M Q => jx_k_gf (jx_fok (by decide +kernel : decode (jx_mb 113) 11 = .ok (.getfield 80, 3))) rfl rfl rfl
  · exact fun d lv st M Q x z => jx_k_b2 (jx_fok (by decide +kernel : decode (jx_mb 113) 14 = .ok (.if_icmp .ge 20, 3))) rfl jx_hGe
  · exact fun d st M Q l0 l1 l3 l4 l5 l6 x => jx_ev_st (jx_fok (by decide +kernel : decode (jx_mb 113) 17 = .ok (.iload_n 2, 1))) rfl rfl rfl
  · exact fun d lv st M Q => jx_ev_st (jx_fok (by decide +kernel : decode (jx_mb 113) 18 = .ok (.iconst 1, 1))) rfl rfl rfl
  · exact fun d st M Q l1 l2 l3 l4 l5 l6 x => jx_ev_st (jx_fok (by decide +kernel : decode (jx_mb 113) 19 = .ok (.aload_n 0, 1))) rfl rfl rfl
  · exact fun d lv st M Q => jx_k_gf (jx_fok (by decide +kernel : decode (jx_mb 113) 20 = .ok (.getfield 49, 3))) rfl rfl rfl
  · exact fun d st M Q l0 l1 l2 l4 l5 l6 x => jx_ev_st (jx_fok (by decide +kernel : decode (jx_mb 113) 23 = .ok (.iload_n 3, 1))) rfl rfl rfl
  · exact fun d lv st M Q x a ha => jx_k_al (jx_fok (by decide +kernel : decode (jx_mb 113) 24 = .ok (.iaload, 1))) ha
  · exact fun d lv st M Q x z => jx_ev_st (jx_fok (by decide +kernel : decode (jx_mb 113) 25 = .ok (.ishl, 1))) rfl rfl rfl
  · exact fun d lv st M Q x z => jx_ev_st (jx_fok (by decide +kernel : decode (jx_mb 113) 26 = .ok (.ior, 1))) rfl rfl rfl
  · exact fun d st M Q l0 l1 l2 l3 l4 l5 l6 x => jx_ev_st (jx_fok (by decide +kernel : decode (jx_mb 113) 27 = .ok (.istore_n 2, 1))) rfl rfl rfl
  · exact fun d st M Q l0 l1 l2 l4 l5 l6 x => jx_ev_st (jx_fok (by decide +kernel : decode (jx_mb 113) 28 = .ok (.iinc 3 1, 3))) rfl rfl rfl
  · exact fun d lv st M Q => jx_k_goto (jx_fok (by decide +kernel : decode (jx_mb 113) 31 = .ok (.goto (-22), 3))) rfl
  · exact fun d st M Q l0 l1 l3 l4 l5 l6 x => jx_ev_st (jx_fok (by decide +kernel : decode (jx_mb 113) 34 = .ok (.iload_n 2, 1))) rfl rfl rfl
  · exact fun d lv M Q x => jx_k_ri (jx_fok (by decide +kernel : decode (jx_mb 113) 35 = .ok (.ireturn, 1))) rfl
  · exact fun d st M Q l0 l2 l3 l4 l5 l6 x => jx_ev_st (jx_fok (by decide +kernel : decode (jx_mb 113) 36 = .ok (.iload_n 1, 1))) rfl rfl rfl
  · exact fun d lv st M Q => jx_ev_st (jx_fok (by decide +kernel : decode (jx_mb 113) 37 = .ok (.bipush 10, 2))) rfl rfl rfl
  · exact fun d lv st M Q x z => jx_k_b2 (jx_fok (by decide +kernel : decode (jx_mb 113) 39 = .ok (.if_icmp .lt 28, 3))) rfl jx_hLt
  · exact fun d st M Q l1 l2 l3 l4 l5 l6 x => jx_ev_st (jx_fok (by decide +kernel : decode (jx_mb 113) 42 = .ok (.aload_n 0, 1))) rfl rfl rfl
  · exact fun d st M Q l0 l2 l3 l4 l5 l6 x => jx_ev_st (jx_fok (by decide +kernel : decode (jx_mb 113) 43 = .ok (.iload_n 1, 1))) rfl rfl rfl
  · exact fun d lv st M Q => jx_ev_st (jx_fok (by decide +kernel : decode (jx_mb 113) 44 = .ok (.bipush 10, 2))) rfl rfl rfl
  · exact fun d lv st M Q x z => jx_ev_st (jx_fok (by decide +kernel : decode (jx_mb 113) 46 = .ok (.isub, 1))) rfl rfl rfl
  · exact fun d lv M Q a0 => jx_ev_ci (jx_fok (by decide +kernel : decode (jx_mb 113) 47 = .ok (.invokevirtual 142, 3))) rfl (jx_ccV (As := [.int a0]) (rest := []) rfl rfl rfl rfl rfl rfl) (by decide)
  · exact fun d lv st M Q x => jx_k_b1 (jx_fok (by decide +kernel : decode (jx_mb 113) 50 = .ok (.ifCond .eq 14, 3))) rfl jx_hEq
  · exact fun d st M Q l1 l2 l3 l4 l5 l6 x => jx_ev_st (jx_fok (by decide +kernel : decode (jx_mb 113) 53 = .ok (.aload_n 0, 1))) rfl rfl rfl
  · exact fun d st M Q l0 l2 l3 l4 l5 l6 x => jx_ev_st (jx_fok (by decide +kernel : decode (jx_mb 113) 54 = .ok (.iload_n 1, 1))) rfl rfl rfl
  · exact fun d lv st M Q => jx_ev_st (jx_fok (by decide +kernel : decode (jx_mb 113) 55 = .ok (.bipush 10, 2))) rfl rfl rfl
  · exact fun d lv st M Q x z => jx_ev_st (jx_fok (by decide +kernel : decode (jx_mb 113) 57 = .ok (.isub, 1))) rfl rfl rfl
  · exact fun d lv M Q a0 => jx_ev_ci (jx_fok (by decide +kernel : decode (jx_mb 113) 58 = .ok (.invokevirtual 164, 3))) rfl (jx_ccV (As := [.int a0]) (rest := []) rfl rfl rfl rfl rfl rfl) (by decide)
  · exact fun d lv st M Q => jx_k_goto (jx_fok (by decide +kernel : decode (jx_mb 113) 61 = .ok (.goto 5, 3))) rfl
  · exact fun d lv st M Q => jx_ev_st (jx_fok (by decide +kernel : decode (jx_mb 113) 64 = .ok (.bipush (-9), 2))) rfl rfl rfl
  · exact fun d lv M Q x => jx_k_ri (jx_fok (by decide +kernel : decode (jx_mb 113) 66 = .ok (.ireturn, 1))) rfl
  · exact fun d lv st M Q => jx_ev_st (jx_fok (by decide +kernel : decode (jx_mb 113) 67 = .ok (.iconst 0, 1))) rfl rfl rfl
  · exact fun d st M Q l0 l1 l2 l3 l4 l5 l6 x => jx_ev_st (jx_fok (by decide +kernel : decode (jx_mb 113) 68 = .ok (.istore_n 3, 1))) rfl rfl rfl
  · exact fun d lv st M Q => jx_ev_st (jx_fok (by decide +kernel : decode (jx_mb 113) 69 = .ok (.bipush (-9), 2))) rfl rfl rfl
  · exact fun d st M Q l0 l1 l2 l3 l4 l5 l6 x => jx_ev_st (jx_fok (by decide +kernel : decode (jx_mb 113) 71 = .ok (.istore 4, 2))) rfl rfl rfl
  · exact fun d lv st M Q => jx_ev_st (jx_fok (by decide +kernel : decode (jx_mb 113) 73 = .ok (.iconst 0, 1))) rfl rfl rfl
  · exact fun d st M Q l0 l1 l2 l3 l4 l5 l6 x => jx_ev_st (jx_fok (by decide +kernel : decode (jx_mb 113) 74 = .ok (.istore 5, 2))) rfl rfl rfl
  · exact fun d st M Q l1 l2 l3 l4 l5 l6 x => jx_ev_st (jx_fok (by decide +kernel : decode (jx_mb 113) 78 = .ok (.aload_n 0, 1))) rfl rfl rfl
  · exact fun d lv st M Q => jx_k_gf (jx_fok (by decide +kernel : decode (jx_mb 113) 79 = .ok (.getfield 77, 3))) rfl rfl rfl
  · exact fun d lv st M Q x z => jx_k_b2 (jx_fok (by decide +kernel : decode (jx_mb 113) 82 = .ok (.if_icmp .ge 50, 3))) rfl jx_hGe
  · exact fun d st M Q l1 l2 l3 l4 l5 l6 x => jx_ev_st (jx_fok (by decide +kernel : decode (jx_mb 113) 85 = .ok (.aload_n 0, 1))) rfl rfl rfl
  · exact fun d st M Q l0 l1 l2 l3 l4 l6 x => jx_ev_st (jx_fok (by decide +kernel : decode (jx_mb 113) 86 = .ok (.iload 5, 2))) rfl rfl rfl
  · exact fun d lv M Q a0 => jx_ev_ci (jx_fok (by decide +kernel : decode (jx_mb 113) 88 = .ok (.invokevirtual 164, 3))) rfl (jx_ccV (As := [.int a0]) (rest := []) rfl rfl rfl rfl rfl rfl) (by decide)
  · exact fun d st M Q l0 l1 l2 l3 l4 l5 l6 x => jx_ev_st (jx_fok (by decide +kernel : decode (jx_mb 113) 91 = .ok (.istore 6, 2))) rfl rfl rfl
  · exact fun d st M Q l0 l1 l3 l4 l5 l6 x => jx_ev_st (jx_fok (by decide +kernel : decode (jx_mb 113) 93 = .ok (.iload_n 2, 1))) rfl rfl rfl
  · exact fun d st M Q l0 l1 l2 l3 l4 l5 x => jx_ev_st (jx_fok (by decide +kernel : decode (jx_mb 113) 94 = .ok (.iload 6, 2))) rfl rfl rfl
  · exact fun d lv st M Q x z => jx_ev_st (jx_fok (by decide +kernel : decode (jx_mb 113) 96 = .ok (.iadd, 1))) rfl rfl rfl
  · exact fun d st M Q l0 l1 l2 l3 l4 l5 l6 x => jx_ev_st (jx_fok (by decide +kernel : decode (jx_mb 113) 97 = .ok (.istore_n 2, 1))) rfl rfl rfl
  · exact fun d st M Q l0 l1 l2 l3 l4 l5 x => jx_ev_st (jx_fok (by decide +kernel : decode (jx_mb 113) 98 = .ok (.iload 6, 2))) rfl rfl rfl
  · exact fun d st M Q l0 l1 l2 l4 l5 l6 x => jx_ev_st (jx_fok (by decide +kernel : decode (jx_mb 113) 100 = .ok (.iload_n 3, 1))) rfl rfl rfl
  · exact fun d lv st M Q x z => jx_k_b2 (jx_fok (by decide +kernel : decode (jx_mb 113) 101 = .ok (.if_icmp .le 8, 3))) rfl jx_hLe
  · exact fun d st M Q l0 l1 l2 l3 l4 l6 x => jx_ev_st (jx_fok (by decide +kernel : decode (jx_mb 113) 104 = .ok (.iload 5, 2))) rfl rfl rfl
  · exact fun d lv st M Q => jx_k_goto (jx_fok (by decide +kernel : decode (jx_mb 113) 106 = .ok (.goto 5, 3))) rfl
  · exact fun d st M Q l0 l1 l2 l3 l5 l6 x => jx_ev_st (jx_fok (by decide +kernel : decode (jx_mb 113) 109 = .ok (.iload 4, 2))) rfl rfl rfl
  · exact fun d st M Q l0 l1 l2 l3 l4 l5 l6 x => jx_ev_st (jx_fok (by decide +kernel : decode (jx_mb 113) 111 = .ok (.istore 4, 2))) rfl rfl rfl
  · exact fun d st M Q l0 l1 l2 l3 l4 l5 x => jx_ev_st (jx_fok (by decide +kernel : decode (jx_mb 113) 113 = .ok (.iload 6, 2))) rfl rfl rfl
  · exact fun d st M Q l0 l1 l2 l4 l5 l6 x => jx_ev_st (jx_fok (by decide +kernel : decode (jx_mb 113) 115 = .ok (.iload_n 3, 1))) rfl rfl rfl
  · exact fun d lv st M Q x z => jx_k_b2 (jx_fok (by decide +kernel : decode (jx_mb 113) 116 = .ok (.if_icmp .le 8, 3))) rfl jx_hLe
  · exact fun d st M Q l0 l1 l2 l3 l4 l5 x => jx_ev_st (jx_fok (by decide +kernel : decode (jx_mb 113) 119 = .ok (.iload 6, 2))) rfl rfl rfl
  · exact fun d lv st M Q => jx_k_goto (jx_fok (by decide +kernel : decode (jx_mb 113) 121 = .ok (.goto 4, 3))) rfl
  · exact fun d st M Q l0 l1 l2 l4 l5 l6 x => jx_ev_st (jx_fok (by decide +kernel : decode (jx_mb 113) 124 = .ok (.iload_n 3, 1))) rfl rfl rfl
  · exact fun d st M Q l0 l1 l2 l3 l4 l5 l6 x => jx_ev_st (jx_fok (by decide +kernel : decode (jx_mb 113) 125 = .ok (.istore_n 3, 1))) rfl rfl rfl
  · exact fun d st M Q l0 l1 l2 l3 l4 l6 x => jx_ev_st (jx_fok (by decide +kernel : decode (jx_mb 113) 126 = .ok (.iinc 5 1, 3))) rfl rfl rfl
  · exact fun d lv st M Q => jx_k_goto (jx_fok (by decide +kernel : decode (jx_mb 113) 129 = .ok (.goto (-53), 3))) rfl
  · exact fun d st M Q l0 l2 l3 l4 l5 l6 x => jx_ev_st (jx_fok (by decide +kernel : decode (jx_mb 113) 132 = .ok (.iload_n 1, 1))) rfl rfl rfl
  · exact fun d lv st M Q x => jx_k_b1n (jx_fok (by decide +kernel : decode (jx_mb 113) 133 = .ok (.ifCond .ne 7, 3))) rfl jx_hNe
  · exact fun d st M Q l0 l1 l3 l4 l5 l6 x => jx_ev_st (jx_fok (by decide +kernel : decode (jx_mb 113) 136 = .ok (.iload_n 2, 1))) rfl rfl rfl
  · exact fun d lv st M Q => jx_k_goto (jx_fok (by decide +kernel : decode (jx_mb 113) 137 = .ok (.goto 5, 3))) rfl
  · exact fun d st M Q l0 l1 l2 l3 l5 l6 x => jx_ev_st (jx_fok (by decide +kernel : decode (jx_mb 113) 140 = .ok (.iload 4, 2))) rfl rfl rfl
  · exact fun d lv M Q x => jx_k_ri (jx_fok (by decide +kernel : decode (jx_mb 113) 142 = .ok (.ireturn, 1))) rfl
theorem eX8_tellOpen_9 (d : Nat) (st : List Value) (M : jx_M) (Q : jx_Po) (l0 l1 l2 l4 l5 l6 : Option Value) (x : Int32) : jx_Ev d 113 9 [l0, l1, l2, some (.int x), l4, l5, l6] st M Q ↔ jx_Ev d 113 10 [l0, l1, l2, some (.int x), l4, l5, l6] (.int x :: st) M Q := jx_ev_st (jx_fok (by decide +kernel : decode (jx_mb 113) 9 = .ok (.iload_n 3, 1))) rfl rfl rfl
theorem eX8_tellOpen_76 (d : Nat) (st : List Value) (M : jx_M) (Q : jx_Po) (l0 l1 l2 l3 l4 l6 : Option Value) (x : Int32) : jx_Ev d 113 76 [l0, l1, l2, l3, l4, some (.int x), l6] st M Q ↔ jx_Ev d 113 78 [l0, l1, l2, l3, l4, some (.int x), l6] (.int x :: st) M Q := jx_ev_st (jx_fok (by decide +kernel : decode (jx_mb 113) 76 = .ok (.iload 5, 2))) rfl rfl rfl
theorem kX8_tellOpen (d : Nat) (M : jx_M) (q : Int32 → jx_M → Prop) (a0 a1 : Value) : jx_I d 113 [a0, a1] M q ↔ jx_Ev d 113 0 [some a0, some a1, none, none, none, none, none] [] M (jx_qI q) := Iff.rfl
set_option maxRecDepth 100000 in
theorem eX8_findEase :
  (∀ (d : Nat) (st : List Value) (M : jx_M) (Q : jx_Po) (l1 l2 l3 l4 l5 l6 l7 l8 : Option Value) (x : Nat), jx_Ev d 114 0 [some (.ref x), l1, l2, l3, l4, l5, l6, l7, l8] st M Q ↔ jx_Ev d 114 1 [some (.ref x), l1, l2, l3, l4, l5, l6, l7, l8] (.ref x :: st) M Q) ∧
  (∀ (d : Nat) (st : List Value) (M : jx_M) (Q : jx_Po) (l0 l2 l3 l4 l5 l6 l7 l8 : Option Value) (x : Int32), jx_Ev d 114 1 [l0, some (.int x), l2, l3, l4, l5, l6, l7, l8] st M Q ↔ jx_Ev d 114 2 [l0, some (.int x), l2, l3, l4, l5, l6, l7, l8] (.int x :: st) M Q) ∧
  (∀ (d : Nat) (lv : List (Option Value)) (M : jx_M) (Q : jx_Po) (a0 : Int32), jx_Ev (d + 1) 114 2 lv [.int a0, .ref 36] M Q ↔ jx_I d 99 [.ref 36, .int a0] M (fun x M => jx_Ev (d + 1) 114 5 lv (.int x :: []) M Q)) ∧
  (∀ (d : Nat) (st : List Value) (M : jx_M) (Q : jx_Po) (l0 l1 l2 l3 l4 l5 l6 l7 l8 : Option Value) (x : Int32), jx_Ev d 114 5 [l0, l1, l2, l3, l4, l5, l6, l7, l8] (.int x :: st) M Q ↔ jx_Ev d 114 6 [l0, l1, some (.int x), l3, l4, l5, l6, l7, l8] st M Q) ∧
  (∀ (d : Nat) (lv : List (Option Value)) (st : List Value) (M : jx_M) (Q : jx_Po), jx_Ev d 114 6 lv st M Q ↔ jx_Ev d 114 7 lv (.int 1 :: st) M Q) ∧
  (∀ (d : Nat) (st : List Value) (M : jx_M) (Q : jx_Po) (l0 l1 l2 l3 l4 l5 l6 l7 l8 : Option Value) (x : Int32), jx_Ev d 114 7 [l0, l1, l2, l3, l4, l5, l6, l7, l8] (.int x :: st) M Q ↔ jx_Ev d 114 8 [l0, l1, l2, some (.int x), l4, l5, l6, l7, l8] st M Q) ∧
  (∀ (d : Nat) (lv : List (Option Value)) (st : List Value) (M : jx_M) (Q : jx_Po), jx_Ev d 114 8 lv st M Q ↔ jx_Ev d 114 9 lv (.int 0 :: st) M Q) ∧
  (∀ (d : Nat) (st : List Value) (M : jx_M) (Q : jx_Po) (l0 l1 l2 l3 l4 l5 l6 l7 l8 : Option Value) (x : Int32), jx_Ev d 114 9 [l0, l1, l2, l3, l4, l5, l6, l7, l8] (.int x :: st) M Q ↔ jx_Ev d 114 11 [l0, l1, l2, l3, some (.int x), l5, l6, l7, l8] st M Q) ∧
  (∀ (d : Nat) (st : List Value) (M : jx_M) (Q : jx_Po) (l1 l2 l3 l4 l5 l6 l7 l8 : Option Value) (x : Nat), jx_Ev d 114 13 [some (.ref x), l1, l2, l3, l4, l5, l6, l7, l8] st M Q ↔ jx_Ev d 114 14 [some (.ref x), l1, l2, l3, l4, l5, l6, l7, l8] (.ref x :: st) M Q) ∧
  (∀ (d : Nat) (lv : List (Option Value)) (st : List Value) (M : jx_M) (Q : jx_Po), jx_Ev d 114 14 lv (.ref 36 :: st) M Q ↔ jx_Ev d 114 17 lv (.int (M 36 6) :: st) M Q) ∧
  (∀ (d : Nat) (lv : List (Option Value)) (st : List Value) (M : jx_M) (Q : jx_Po) (x z : Int32), jx_Ev d 114 17 lv (.int z :: .int x :: st) M Q ↔ (if z ≤ x then jx_Ev d 114 44 lv st M Q else jx_Ev d 114 20 lv st M Q)) ∧
  (∀ (d : Nat) (st : List Value) (M : jx_M) (Q : jx_Po) (l0 l1 l2 l4 l5 l6 l7 l8 : Option Value) (x : Int32), jx_Ev d 114 20 [l0, l1, l2, some (.int x), l4, l5, l6, l7, l8] st M Q ↔ jx_Ev d 114 21 [l0, l1, l2, some (.int x), l4, l5, l6, l7, l8] (.int x :: st) M Q) ∧
  (∀ (d : Nat) (st : List Value) (M : jx_M) (Q : jx_Po) (l0 l1 l3 l4 l5 l6 l7 l8 : Option Value) (x : Int32), jx_Ev d 114 21 [l0, l1, some (.int x), l3, l4, l5, l6, l7, l8] st M Q ↔ jx_Ev d 114 22 [l0, l1, some (.int x), l3, l4, l5, l6, l7, l8] (.int x :: st) M Q) ∧
  (∀ (d : Nat) (st : List Value) (M : jx_M) (Q : jx_Po) (l0 l1 l2 l3 l5 l6 l7 l8 : Option Value) (x : Int32), jx_Ev d 114 22 [l0, l1, l2, l3, some (.int x), l5, l6, l7, l8] st M Q ↔ jx_Ev d 114 24 [l0, l1, l2, l3, some (.int x), l5, l6, l7, l8] (.int x :: st) M Q) ∧
  (∀ (d : Nat) (lv : List (Option Value)) (st : List Value) (M : jx_M) (Q : jx_Po) (x z : Int32), jx_Ev d 114 24 lv (.int z :: .int x :: st) M Q ↔ jx_Ev d 114 25 lv (.int (x >>> (z &&& 31)) :: st) M Q) ∧
  (∀ (d : Nat) (lv : List (Option Value)) (st : List Value) (M : jx_M) (Q : jx_Po), jx_Ev d 114 25 lv st M Q ↔ jx_Ev d 114 26 lv (.int 1 :: st) M Q) ∧
  (∀ (d : Nat) (lv : List (Option Value)) (st : List Value) (M : jx_M) (Q : jx_Po) (x z : Int32), jx_Ev d 114 26 lv (.int z :: .int x :: st) M Q ↔ jx_Ev d 114 27 lv (.int (x &&& z) :: st) M Q) ∧
  (∀ (d : Nat) (lv : List (Option Value)) (st : List Value) (M : jx_M) (Q : jx_Po), jx_Ev d 114 27 lv st M Q ↔ jx_Ev d 114 28 lv (.int 1 :: st) M Q) ∧
  (∀ (d : Nat) (lv : List (Option Value)) (st : List Value) (M : jx_M) (Q : jx_Po) (x z : Int32), jx_Ev d 114 28 lv (.int z :: .int x :: st) M Q ↔ (if x = z then jx_Ev d 114 31 lv st M Q else jx_Ev d 114 35 lv st M Q)) ∧
  (∀ (d : Nat) (lv : List (Option Value)) (st : List Value) (M : jx_M) (Q : jx_Po), jx_Ev d 114 31 lv st M Q ↔ jx_Ev d 114 32 lv (.int 4 :: st) M Q) ∧
  (∀ (d : Nat) (lv : List (Option Value)) (st : List Value) (M : jx_M) (Q : jx_Po), jx_Ev d 114 32 lv st M Q ↔ jx_Ev d 114 36 lv st M Q) ∧
  (∀ (d : Nat) (lv : List (Option Value)) (st : List Value) (M : jx_M) (Q : jx_Po), jx_Ev d 114 35 lv st M Q ↔ jx_Ev d 114 36 lv (.int 1 :: st) M Q) ∧
  (∀ (d : Nat) (lv : List (Option Value)) (st : List Value) (M : jx_M) (Q : jx_Po) (x z : Int32), jx_Ev d 114 36 lv (.int z :: .int x :: st) M Q ↔ jx_Ev d 114 37 lv (.int (x * z) :: st) M Q) ∧
  (∀ (d : Nat) (st : List Value) (M : jx_M) (Q : jx_Po) (l0 l1 l2 l3 l4 l5 l6 l7 l8 : Option Value) (x : Int32), jx_Ev d 114 37 [l0, l1, l2, l3, l4, l5, l6, l7, l8] (.int x :: st) M Q ↔ jx_Ev d 114 38 [l0, l1, l2, some (.int x), l4, l5, l6, l7, l8] st M Q) ∧
  (∀ (d : Nat) (st : List Value) (M : jx_M) (Q : jx_Po) (l0 l1 l2 l3 l5 l6 l7 l8 : Option Value) (x : Int32), jx_Ev d 114 38 [l0, l1, l2, l3, some (.int x), l5, l6, l7, l8] st M Q ↔ jx_Ev d 114 41 [l0, l1, l2, l3, some (.int (x + 1)), l5, l6, l7, l8] st M Q) ∧
  (∀ (d : Nat) (lv : List (Option Value)) (st : List Value) (M : jx_M) (Q : jx_Po), jx_Ev d 114 41 lv st M Q ↔ jx_Ev d 114 11 lv st M Q) ∧
  (∀ (d : Nat) (lv : List (Option Value)) (st : List Value) (M : jx_M) (Q : jx_Po), jx_Ev d 114 44 lv st M Q ↔ jx_Ev d 114 46 lv (.int (-9) :: st) M Q) ∧
  (∀ (d : Nat) (st : List Value) (M : jx_M) (Q : jx_Po) (l0 l1 l2 l3 l4 l5 l6 l7 l8 : Option Value) (x : Int32), jx_Ev d 114 46 [l0, l1, l2, l3, l4, l5, l6, l7, l8] (.int x :: st) M Q ↔ jx_Ev d 114 48 [l0, l1, l2, l3, some (.int x), l5, l6, l7, l8] st M Q) ∧
  (∀ (d : Nat) (lv : List (Option Value)) (st : List Value) (M : jx_M) (Q : jx_Po), jx_Ev d 114 48 lv st M Q ↔ jx_Ev d 114 49 lv (.int 0 :: st) M Q) ∧
  (∀ (d : Nat) (st : List Value) (M : jx_M) (Q : jx_Po) (l0 l1 l2 l3 l4 l5 l6 l7 l8 : Option Value) (x : Int32), jx_Ev d 114 49 [l0, l1, l2, l3, l4, l5, l6, l7, l8] (.int x :: st) M Q ↔ jx_Ev d 114 51 [l0, l1, l2, l3, l4, some (.int x), l6, l7, l8] st M Q) ∧
  (∀ (d : Nat) (st : List Value) (M : jx_M) (Q : jx_Po) (l0 l1 l2 l4 l5 l6 l7 l8 : Option Value) (x : Int32), jx_Ev d 114 53 [l0, l1, l2, some (.int x), l4, l5, l6, l7, l8] st M Q ↔ jx_Ev d 114 54 [l0, l1, l2, some (.int x), l4, l5, l6, l7, l8] (.int x :: st) M Q) ∧
  (∀ (d : Nat) (lv : List (Option Value)) (st : List Value) (M : jx_M) (Q : jx_Po) (x z : Int32), jx_Ev d 114 54 lv (.int z :: .int x :: st) M Q ↔ (if z ≤ x then jx_Ev d 114 190 lv st M Q else jx_Ev d 114 57 lv st M Q)) ∧
  (∀ (d : Nat) (st : List Value) (M : jx_M) (Q : jx_Po) (l0 l1 l2 l3 l4 l6 l7 l8 : Option Value) (x : Int32), jx_Ev d 114 57 [l0, l1, l2, l3, l4, some (.int x), l6, l7, l8] st M Q ↔ jx_Ev d 114 59 [l0, l1, l2, l3, l4, some (.int x), l6, l7, l8] (.int x :: st) M Q) ∧
  (∀ (d : Nat) (st : List Value) (M : jx_M) (Q : jx_Po) (l0 l1 l2 l3 l4 l5 l6 l7 l8 : Option Value) (x : Int32), jx_Ev d 114 59 [l0, l1, l2, l3, l4, l5, l6, l7, l8] (.int x :: st) M Q ↔ jx_Ev d 114 61 [l0, l1, l2, l3, l4, l5, some (.int x), l7, l8] st M Q) ∧
  (∀ (d : Nat) (st : List Value) (M : jx_M) (Q : jx_Po) (l1 l2 l3 l4 l5 l6 l7 l8 : Option Value) (x : Nat), jx_Ev d 114 61 [some (.ref x), l1, l2, l3, l4, l5, l6, l7, l8] st M Q ↔ jx_Ev d 114 62 [some (.ref x), l1, l2, l3, l4, l5, l6, l7, l8] (.ref x :: st) M Q) ∧
  (∀ (d : Nat) (lv : List (Option Value)) (st : List Value) (M : jx_M) (Q : jx_Po), jx_Ev d 114 62 lv (.ref 36 :: st) M Q ↔ jx_Ev d 114 65 lv (.int (M 36 6) :: st) M Q) ∧
  (∀ (d : Nat) (lv : List (Option Value)) (st : List Value) (M : jx_M) (Q : jx_Po), jx_Ev d 114 65 lv st M Q ↔ jx_Ev d 114 66 lv (.int 1 :: st) M Q) ∧
  (∀ (d : Nat) (lv : List (Option Value)) (st : List Value) (M : jx_M) (Q : jx_Po) (x z : Int32), jx_Ev d 114 66 lv (.int z :: .int x :: st) M Q ↔ jx_Ev d 114 67 lv (.int (x - z) :: st) M Q) ∧
  (∀ (d : Nat) (st : List Value) (M : jx_M) (Q : jx_Po) (l0 l1 l2 l3 l4 l5 l6 l7 l8 : Option Value) (x : Int32), jx_Ev d 114 67 [l0, l1, l2, l3, l4, l5, l6, l7, l8] (.int x :: st) M Q ↔ jx_Ev d 114 69 [l0, l1, l2, l3, l4, l5, l6, some (.int x), l8] st M Q) ∧
  (∀ (d : Nat) (lv : List (Option Value)) (st : List Value) (M : jx_M) (Q : jx_Po) (x : Int32), jx_Ev d 114 71 lv (.int x :: st) M Q ↔ (if x < 0 then jx_Ev d 114 127 lv st M Q else jx_Ev d 114 74 lv st M Q)) ∧
  (∀ (d : Nat) (st : List Value) (M : jx_M) (Q : jx_Po) (l1 l2 l3 l4 l5 l6 l7 l8 : Option Value) (x : Nat), jx_Ev d 114 74 [some (.ref x), l1, l2, l3, l4, l5, l6, l7, l8] st M Q ↔ jx_Ev d 114 75 [some (.ref x), l1, l2, l3, l4, l5, l6, l7, l8] (.ref x :: st) M Q) ∧
  (∀ (d : Nat) (lv : List (Option Value)) (st : List Value) (M : jx_M) (Q : jx_Po), jx_Ev d 114 75 lv (.ref 36 :: st) M Q ↔ jx_Ev d 114 78 lv (.ref 50 :: st) M Q) ∧
  (∀ (d : Nat) (st : List Value) (M : jx_M) (Q : jx_Po) (l0 l1 l2 l3 l4 l5 l6 l8 : Option Value) (x : Int32), jx_Ev d 114 78 [l0, l1, l2, l3, l4, l5, l6, some (.int x), l8] st M Q ↔ jx_Ev d 114 80 [l0, l1, l2, l3, l4, l5, l6, some (.int x), l8] (.int x :: st) M Q) ∧
  (∀ (d : Nat) (st : List Value) (M : jx_M) (Q : jx_Po) (l0 l1 l3 l4 l5 l6 l7 l8 : Option Value) (x : Int32), jx_Ev d 114 80 [l0, l1, some (.int x), l3, l4, l5, l6, l7, l8] st M Q ↔ jx_Ev d 114 81 [l0, l1, some (.int x), l3, l4, l5, l6, l7, l8] (.int x :: st) M Q) ∧
  (∀ (d : Nat) (st : List Value) (M : jx_M) (Q : jx_Po) (l0 l1 l2 l3 l4 l5 l6 l8 : Option Value) (x : Int32), jx_Ev d 114 81 [l0, l1, l2, l3, l4, l5, l6, some (.int x), l8] st M Q ↔ jx_Ev d 114 83 [l0, l1, l2, l3, l4, l5, l6, some (.int x), l8] (.int x :: st) M Q) ∧
  (∀ (d : Nat) (lv : List (Option Value)) (st : List Value) (M : jx_M) (Q : jx_Po) (x z : Int32), jx_Ev d 114 83 lv (.int z :: .int x :: st) M Q ↔ jx_Ev d 114 84 lv (.int (x >>> (z &&& 31)) :: st) M Q) ∧
  (∀ (d : Nat) (lv : List (Option Value)) (st : List Value) (M : jx_M) (Q : jx_Po), jx_Ev d 114 84 lv st M Q ↔ jx_Ev d 114 85 lv (.int 1 :: st) M Q) ∧
  (∀ (d : Nat) (lv : List (Option Value)) (st : List Value) (M : jx_M) (Q : jx_Po) (x z : Int32), jx_Ev d 114 85 lv (.int z :: .int x :: st) M Q ↔ jx_Ev d 114 86 lv (.int (x &&& z) :: st) M Q) ∧
  (∀ (d : Nat) (lv : List (Option Value)) (st : List Value) (M : jx_M) (Q : jx_Po), jx_Ev d 114 86 lv st M Q ↔ jx_Ev d 114 87 lv (.int 1 :: st) M Q) ∧
  (∀ (d : Nat) (lv : List (Option Value)) (st : List Value) (M : jx_M) (Q : jx_Po) (x z : Int32), jx_Ev d 114 87 lv (.int z :: .int x :: st) M Q ↔ (if x = z then jx_Ev d 114 90 lv st M Q else jx_Ev d 114 97 lv st M Q)) ∧
  (∀ (d : Nat) (st : List Value) (M : jx_M) (Q : jx_Po) (l0 l1 l2 l3 l4 l5 l7 l8 : Option Value) (x : Int32), jx_Ev d 114 90 [l0, l1, l2, l3, l4, l5, some (.int x), l7, l8] st M Q ↔ jx_Ev d 114 92 [l0, l1, l2, l3, l4, l5, some (.int x), l7, l8] (.int x :: st) M Q) ∧
  (∀ (d : Nat) (lv : List (Option Value)) (st : List Value) (M : jx_M) (Q : jx_Po), jx_Ev d 114 92 lv st M Q ↔ jx_Ev d 114 93 lv (.int 4 :: st) M Q) ∧
  (∀ (d : Nat) (lv : List (Option Value)) (st : List Value) (M : jx_M) (Q : jx_Po) (x z : Int32), jx_Ev d 114 93 lv (.int z :: .int x :: st) M Q ↔ (¬ z = 0 ∧ jx_Ev d 114 94 lv (.int (x - x / z * z) :: st) M Q)) ∧
  (∀ (d : Nat) (lv : List (Option Value)) (st : List Value) (M : jx_M) (Q : jx_Po), jx_Ev d 114 94 lv st M Q ↔ jx_Ev d 114 99 lv st M Q) ∧
  (∀ (d : Nat) (lv : List (Option Value)) (st : List Value) (M : jx_M) (Q : jx_Po), jx_Ev d 114 97 lv st M Q ↔ jx_Ev d 114 99 lv (.int (-9) :: st) M Q) ∧
  (∀ (d : Nat) (lv : List (Option Value)) (st : List Value) (M : jx_M) (Q : jx_Po) (x z : Int32) (a : Nat) (ha : jx_cl a = 9), jx_Ev d 114 99 lv (.int z :: .int x :: .ref a :: st) M Q ↔ (vp_in x (jx_sz a) ∧ jx_Ev d 114 100 lv st (jx_up M a x.toNatClampNeg z) Q)) ∧
  (∀ (d : Nat) (st : List Value) (M : jx_M) (Q : jx_Po) (l0 l1 l3 l4 l5 l6 l7 l8 : Option Value) (x : Int32), jx_Ev d 114 100 [l0, l1, some (.int x), l3, l4, l5, l6, l7, l8] st M Q ↔ jx_Ev d 114 101 [l0, l1, some (.int x), l3, l4, l5, l6, l7, l8] (.int x :: st) M Q) ∧
  (∀ (d : Nat) (st : List Value) (M : jx_M) (Q : jx_Po) (l0 l1 l2 l3 l4 l5 l6 l8 : Option Value) (x : Int32), jx_Ev d 114 101 [l0, l1, l2, l3, l4, l5, l6, some (.int x), l8] st M Q ↔ jx_Ev d 114 103 [l0, l1, l2, l3, l4, l5, l6, some (.int x), l8] (.int x :: st) M Q) ∧
  (∀ (d : Nat) (lv : List (Option Value)) (st : List Value) (M : jx_M) (Q : jx_Po) (x z : Int32), jx_Ev d 114 103 lv (.int z :: .int x :: st) M Q ↔ jx_Ev d 114 104 lv (.int (x >>> (z &&& 31)) :: st) M Q) ∧
  (∀ (d : Nat) (lv : List (Option Value)) (st : List Value) (M : jx_M) (Q : jx_Po), jx_Ev d 114 104 lv st M Q ↔ jx_Ev d 114 105 lv (.int 1 :: st) M Q) ∧
  (∀ (d : Nat) (lv : List (Option Value)) (st : List Value) (M : jx_M) (Q : jx_Po) (x z : Int32), jx_Ev d 114 105 lv (.int z :: .int x :: st) M Q ↔ jx_Ev d 114 106 lv (.int (x &&& z) :: st) M Q) ∧
  (∀ (d : Nat) (lv : List (Option Value)) (st : List Value) (M : jx_M) (Q : jx_Po), jx_Ev d 114 106 lv st M Q ↔ jx_Ev d 114 107 lv (.int 1 :: st) M Q) ∧
  (∀ (d : Nat) (lv : List (Option Value)) (st : List Value) (M : jx_M) (Q : jx_Po) (x z : Int32), jx_Ev d 114 107 lv (.int z :: .int x :: st) M Q ↔ (if x = z then jx_Ev d 114 110 lv st M Q else jx_Ev d 114 117 lv st M Q)) ∧
  (∀ (d : Nat) (st : List Value) (M : jx_M) (Q : jx_Po) (l0 l1 l2 l3 l4 l5 l7 l8 : Option Value) (x : Int32), jx_Ev d 114 110 [l0, l1, l2, l3, l4, l5, some (.int x), l7, l8] st M Q ↔ jx_Ev d 114 112 [l0, l1, l2, l3, l4, l5, some (.int x), l7, l8] (.int x :: st) M Q) ∧
  (∀ (d : Nat) (lv : List (Option Value)) (st : List Value) (M : jx_M) (Q : jx_Po), jx_Ev d 114 112 lv st M Q ↔ jx_Ev d 114 113 lv (.int 4 :: st) M Q) ∧
  (∀ (d : Nat) (lv : List (Option Value)) (st : List Value) (M : jx_M) (Q : jx_Po) (x z : Int32), jx_Ev d 114 113 lv (.int z :: .int x :: st) M Q ↔ (¬ z = 0 ∧ jx_Ev d 114 114 lv (.int (x / z) :: st) M Q)) ∧
  (∀ (d : Nat) (lv : List (Option Value)) (st : List Value) (M : jx_M) (Q : jx_Po), jx_Ev d 114 114 lv st M Q ↔ jx_Ev d 114 119 lv st M Q) ∧
  (∀ (d : Nat) (st : List Value) (M : jx_M) (Q : jx_Po) (l0 l1 l2 l3 l4 l5 l7 l8 : Option Value) (x : Int32), jx_Ev d 114 117 [l0, l1, l2, l3, l4, l5, some (.int x), l7, l8] st M Q ↔ jx_Ev d 114 119 [l0, l1, l2, l3, l4, l5, some (.int x), l7, l8] (.int x :: st) M Q) ∧
  (∀ (d : Nat) (st : List Value) (M : jx_M) (Q : jx_Po) (l0 l1 l2 l3 l4 l5 l6 l7 l8 : Option Value) (x : Int32), jx_Ev d 114 119 [l0, l1, l2, l3, l4, l5, l6, l7, l8] (.int x :: st) M Q ↔ jx_Ev d 114 121 [l0, l1, l2, l3, l4, l5, some (.int x), l7, l8] st M Q) ∧
  (∀ (d : Nat) (st : List Value) (M : jx_M) (Q : jx_Po) (l0 l1 l2 l3 l4 l5 l6 l8 : Option Value) (x : Int32), jx_Ev d 114 121 [l0, l1, l2, l3, l4, l5, l6, some (.int x), l8] st M Q ↔ jx_Ev d 114 124 [l0, l1, l2, l3, l4, l5, l6, some (.int (x + (-1))), l8] st M Q) ∧
  (∀ (d : Nat) (lv : List (Option Value)) (st : List Value) (M : jx_M) (Q : jx_Po), jx_Ev d 114 124 lv st M Q ↔ jx_Ev d 114 69 lv st M Q) ∧
  (∀ (d : Nat) (st : List Value) (M : jx_M) (Q : jx_Po) (l1 l2 l3 l4 l5 l6 l7 l8 : Option Value) (x : Nat), jx_Ev d 114 127 [some (.ref x), l1, l2, l3, l4, l5, l6, l7, l8] st M Q ↔ jx_Ev d 114 128 [some (.ref x), l1, l2, l3, l4, l5, l6, l7, l8] (.ref x :: st) M Q) ∧
  (∀ (d : Nat) (st : List Value) (M : jx_M) (Q : jx_Po) (l0 l2 l3 l4 l5 l6 l7 l8 : Option Value) (x : Int32), jx_Ev d 114 128 [l0, some (.int x), l2, l3, l4, l5, l6, l7, l8] st M Q ↔ jx_Ev d 114 129 [l0, some (.int x), l2, l3, l4, l5, l6, l7, l8] (.int x :: st) M Q) ∧
  (∀ (d : Nat) (lv : List (Option Value)) (M : jx_M) (Q : jx_Po) (a0 : Int32), jx_Ev (d + 1) 114 129 lv [.int a0, .ref 36] M Q ↔ jx_I d 111 [.ref 36, .int a0] M (fun x M => jx_Ev (d + 1) 114 132 lv (.int x :: []) M Q)) ∧
  (∀ (d : Nat) (st : List Value) (M : jx_M) (Q : jx_Po) (l0 l1 l2 l3 l4 l5 l6 l7 l8 : Option Value) (x : Int32), jx_Ev d 114 132 [l0, l1, l2, l3, l4, l5, l6, l7, l8] (.int x :: st) M Q ↔ jx_Ev d 114 134 [l0, l1, l2, l3, l4, l5, l6, some (.int x), l8] st M Q) ∧
  (∀ (d : Nat) (st : List Value) (M : jx_M) (Q : jx_Po) (l0 l1 l2 l3 l5 l6 l7 l8 : Option Value) (x : Int32), jx_Ev d 114 134 [l0, l1, l2, l3, some (.int x), l5, l6, l7, l8] st M Q ↔ jx_Ev d 114 136 [l0, l1, l2, l3, some (.int x), l5, l6, l7, l8] (.int x :: st) M Q) ∧
  (∀ (d : Nat) (lv : List (Option Value)) (st : List Value) (M : jx_M) (Q : jx_Po), jx_Ev d 114 136 lv st M Q ↔ jx_Ev d 114 138 lv (.int (-9) :: st) M Q) ∧
  (∀ (d : Nat) (lv : List (Option Value)) (st : List Value) (M : jx_M) (Q : jx_Po) (x z : Int32), jx_Ev d 114 138 lv (.int z :: .int x :: st) M Q ↔ (if x = z then jx_Ev d 114 148 lv st M Q else jx_Ev d 114 141 lv st M Q)) ∧
  (∀ (d : Nat) (st : List Value) (M : jx_M) (Q : jx_Po) (l0 l1 l2 l3 l4 l5 l6 l8 : Option Value) (x : Int32), jx_Ev d 114 141 [l0, l1, l2, l3, l4, l5, l6, some (.int x), l8] st M Q ↔ jx_Ev d 114 143 [l0, l1, l2, l3, l4, l5, l6, some (.int x), l8] (.int x :: st) M Q) ∧
  (∀ (d : Nat) (st : List Value) (M : jx_M) (Q : jx_Po) (l0 l1 l2 l3 l5 l6 l7 l8 : Option Value) (x : Int32), jx_Ev d 114 143 [l0, l1, l2, l3, some (.int x), l5, l6, l7, l8] st M Q ↔ jx_Ev d 114 145 [l0, l1, l2, l3, some (.int x), l5, l6, l7, l8] (.int x :: st) M Q) ∧
  (∀ (d : Nat) (lv : List (Option Value)) (st : List Value) (M : jx_M) (Q : jx_Po) (x z : Int32), jx_Ev d 114 145 lv (.int z :: .int x :: st) M Q ↔ (if z ≤ x then jx_Ev d 114 184 lv st M Q else jx_Ev d 114 148 lv st M Q)) ∧
  (∀ (d : Nat) (st : List Value) (M : jx_M) (Q : jx_Po) (l0 l1 l2 l3 l4 l5 l6 l8 : Option Value) (x : Int32), jx_Ev d 114 148 [l0, l1, l2, l3, l4, l5, l6, some (.int x), l8] st M Q ↔ jx_Ev d 114 150 [l0, l1, l2, l3, l4, l5, l6, some (.int x), l8] (.int x :: st) M Q) ∧
  (∀ (d : Nat) (st : List Value) (M : jx_M) (Q : jx_Po) (l0 l1 l2 l3 l4 l5 l6 l7 l8 : Option Value) (x : Int32), jx_Ev d 114 150 [l0, l1, l2, l3, l4, l5, l6, l7, l8] (.int x :: st) M Q ↔ jx_Ev d 114 152 [l0, l1, l2, l3, some (.int x), l5, l6, l7, l8] st M Q) ∧
  (∀ (d : Nat) (lv : List (Option Value)) (st : List Value) (M : jx_M) (Q : jx_Po), jx_Ev d 114 152 lv st M Q ↔ jx_Ev d 114 153 lv (.int 0 :: st) M Q) ∧
  (∀ (d : Nat) (st : List Value) (M : jx_M) (Q : jx_Po) (l0 l1 l2 l3 l4 l5 l6 l7 l8 : Option Value) (x : Int32), jx_Ev d 114 153 [l0, l1, l2, l3, l4, l5, l6, l7, l8] (.int x :: st) M Q ↔ jx_Ev d 114 155 [l0, l1, l2, l3, l4, l5, l6, l7, some (.int x)] st M Q) ∧
  (∀ (d : Nat) (st : List Value) (M : jx_M) (Q : jx_Po) (l1 l2 l3 l4 l5 l6 l7 l8 : Option Value) (x : Nat), jx_Ev d 114 157 [some (.ref x), l1, l2, l3, l4, l5, l6, l7, l8] st M Q ↔ jx_Ev d 114 158 [some (.ref x), l1, l2, l3, l4, l5, l6, l7, l8] (.ref x :: st) M Q) ∧
  (∀ (d : Nat) (lv : List (Option Value)) (st : List Value) (M : jx_M) (Q : jx_Po), jx_Ev d 114 158 lv (.ref 36 :: st) M Q ↔ jx_Ev d 114 161 lv (.int (M 36 6) :: st) M Q) ∧
  (∀ (d : Nat) (lv : List (Option Value)) (st : List Value) (M : jx_M) (Q : jx_Po) (x z : Int32), jx_Ev d 114 161 lv (.int z :: .int x :: st) M Q ↔ (if z ≤ x then jx_Ev d 114 184 lv st M Q else jx_Ev d 114 164 lv st M Q)) ∧
  (∀ (d : Nat) (st : List Value) (M : jx_M) (Q : jx_Po) (l1 l2 l3 l4 l5 l6 l7 l8 : Option Value) (x : Nat), jx_Ev d 114 164 [some (.ref x), l1, l2, l3, l4, l5, l6, l7, l8] st M Q ↔ jx_Ev d 114 165 [some (.ref x), l1, l2, l3, l4, l5, l6, l7, l8] (.ref x :: st) M Q) ∧
  (∀ (d : Nat) (lv : List (Option Value)) (st : List Value) (M : jx_M) (Q : jx_Po), jx_Ev d 114 165 lv (.ref 36 :: st) M Q ↔ jx_Ev d 114 168 lv (.ref 51 :: st) M Q) ∧
  (∀ (d : Nat) (st : List Value) (M : jx_M) (Q : jx_Po) (l0 l1 l2 l3 l4 l5 l6 l7 : Option Value) (x : Int32), jx_Ev d 114 168 [l0, l1, l2, l3, l4, l5, l6, l7, some (.int x)] st M Q ↔ jx_Ev d 114 170 [l0, l1, l2, l3, l4, l5, l6, l7, some (.int x)] (.int x :: st) M Q) ∧
  (∀ (d : Nat) (st : List Value) (M : jx_M) (Q : jx_Po) (l1 l2 l3 l4 l5 l6 l7 l8 : Option Value) (x : Nat), jx_Ev d 114 170 [some (.ref x), l1, l2, l3, l4, l5, l6, l7, l8] st M Q ↔ jx_Ev d 114 171 [some (.ref x), l1, l2, l3, l4, l5, l6, l7, l8] (.ref x :: st) M Q) ∧
  (∀ (d : Nat) (lv : List (Option Value)) (st : List Value) (M : jx_M) (Q : jx_Po), jx_Ev d 114 171 lv (.ref 36 :: st) M Q ↔ jx_Ev d 114 174 lv (.ref 50 :: st) M Q) ∧
  (∀ (d : Nat) (st : List Value) (M : jx_M) (Q : jx_Po) (l0 l1 l2 l3 l4 l5 l6 l7 : Option Value) (x : Int32), jx_Ev d 114 174 [l0, l1, l2, l3, l4, l5, l6, l7, some (.int x)] st M Q ↔ jx_Ev d 114 176 [l0, l1, l2, l3, l4, l5, l6, l7, some (.int x)] (.int x :: st) M Q) ∧
  (∀ (d : Nat) (lv : List (Option Value)) (st : List Value) (M : jx_M) (Q : jx_Po) (x : Int32) (a : Nat) (ha : jx_cl a = 9), jx_Ev d 114 176 lv (.int x :: .ref a :: st) M Q ↔ (vp_in x (jx_sz a) ∧ jx_Ev d 114 177 lv (.int (M a x.toNatClampNeg) :: st) M Q)) ∧
  (∀ (d : Nat) (lv : List (Option Value)) (st : List Value) (M : jx_M) (Q : jx_Po) (x z : Int32) (a : Nat) (ha : jx_cl a = 9), jx_Ev d 114 177 lv (.int z :: .int x :: .ref a :: st) M Q ↔ (vp_in x (jx_sz a) ∧ jx_Ev d 114 178 lv st (jx_up M a x.toNatClampNeg z) Q)) ∧
  (∀ (d : Nat) (st : List Value) (M : jx_M) (Q : jx_Po) (l0 l1 l2 l3 l4 l5 l6 l7 : Option Value) (x : Int32), jx_Ev d 114 178 [l0, l1, l2, l3, l4, l5, l6, l7, some (.int x)] st M Q ↔ jx_Ev d 114 181 [l0, l1, l2, l3, l4, l5, l6, l7, some (.int (x + 1))] st M Q) ∧
  (∀ (d : Nat) (lv : List (Option Value)) (st : List Value) (M : jx_M) (Q : jx_Po), jx_Ev d 114 181 lv st M Q ↔ jx_Ev d 114 155 lv st M Q) ∧
  (∀ (d : Nat) (st : List Value) (M : jx_M) (Q : jx_Po) (l0 l1 l2 l3 l4 l6 l7 l8 : Option Value) (x : Int32), jx_Ev d 114 184 [l0, l1, l2, l3, l4, some (.int x), l6, l7, l8] st M Q ↔ jx_Ev d 114 187 [l0, l1, l2, l3, l4, some (.int (x + 1)), l6, l7, l8] st M Q) ∧
  (∀ (d : Nat) (lv : List (Option Value)) (st : List Value) (M : jx_M) (Q : jx_Po), jx_Ev d 114 187 lv st M Q ↔ jx_Ev d 114 51 lv st M Q) ∧
  (∀ (d : Nat) (st : List Value) (M : jx_M) (Q : jx_Po) (l0 l1 l2 l3 l5 l6 l7 l8 : Option Value) (x : Int32), jx_Ev d 114 190 [l0, l1, l2, l3, some (.int x), l5, l6, l7, l8] st M Q ↔ jx_Ev d 114 192 [l0, l1, l2, l3, some (.int x), l5, l6, l7, l8] (.int x :: st) M Q) ∧
  (∀ (d : Nat) (lv : List (Option Value)) (M : jx_M) (Q : jx_Po) (x : Int32), jx_Ev d 114 192 lv [.int x] M Q ↔ Q [.int x] M) := by
  refine ⟨?_, ?_, ?_, ?_, ?_, ?_, ?_, ?_, ?_, ?_, ?_, ?_, ?_, ?_, ?_, ?_, ?_, ?_, ?_, ?_, ?_, ?_, ?_, ?_, ?_, ?_, ?_, ?_, ?_, ?_, ?_, ?_, ?_, ?_, ?_, ?_, ?_, ?_, ?_, ?_, ?_, ?_, ?_, ?_, ?_, ?_, ?_, ?_, ?_, ?_, ?_, ?_, ?_, ?_, ?_, ?_, ?_, ?_, ?_, ?_, ?_, ?_, ?_, ?_, ?_, ?_, ?_, ?_, ?_, ?_, ?_, ?_, ?_, ?_, ?_, ?_, ?_, ?_, ?_, ?_, ?_, ?_, ?_, ?_, ?_, ?_, ?_, ?_, ?_, ?_, ?_, ?_, ?_, ?_, ?_, ?_, ?_, ?_, ?_, ?_, ?_, ?_⟩
  · exact fun d st M Q l1 l2 l3 l4 l5 l6 l7 l8 x => jx_ev_st (jx_fok (by decide +kernel : decode (jx_mb 114) 0 = .ok (.aload_n 0, 1))) rfl rfl rfl
  · exact fun d st M Q l0 l2 l3 l4 l5 l6 l7 l8 x => jx_ev_st (jx_fok (by decide +kernel : decode (jx_mb 114) 1 = .ok (.iload_n 1, 1))) rfl rfl rfl
  · exact fun d lv M Q a0 => jx_ev_ci (jx_fok (by decide +kernel : decode (jx_mb 114) 2 = .ok (.invokevirtual 145, 3))) rfl (jx_ccV (As := [.int a0]) (rest := []) rfl rfl rfl rfl rfl rfl) (by decide)
  · exact fun d st M Q l0 l1 l2 l3 l4 l5 l6 l7 l8 x => jx_ev_st (jx_fok (by decide +kernel : decode (jx_mb 114) 5 = .ok (.istore_n 2, 1))) rfl rfl rfl
  · exact fun d lv st M Q => jx_ev_st (jx_fok (by decide +kernel : decode (jx_mb 114) 6 = .ok (.iconst 1, 1))) rfl rfl rfl
  · exact fun d st M Q l0 l1 l2 l3 l4 l5 l6 l7 l8 x => jx_ev_st (jx_fok (by decide +kernel : decode (jx_mb 114) 7 = .ok (.istore_n 3, 1))) rfl rfl rfl
  · exact fun d lv st M Q => jx_ev_st (jx_fok (by decide +kernel : decode (jx_mb 114) 8 = .ok (.iconst 0, 1))) rfl rfl rfl
  · exact fun d st M Q l0 l1 l2 l3 l4 l5 l6 l7 l8 x => jx_ev_st (jx_fok (by decide +kernel : decode (jx_mb 114) 9 = .ok (.istore 4, 2))) rfl rfl rfl
  · exact fun d st M Q l1 l2 l3 l4 l5 l6 l7 l8 x => jx_ev_st (jx_fok (by decide +kernel : decode (jx_mb 114) 13 = .ok (.aload_n 0, 1))) rfl rfl rfl
  · exact fun d lv st M Q => jx_k_gf (jx_fok (by decide +kernel : decode (jx_mb 114) 14 = .ok (.getfield 80, 3))) rfl rfl rfl
  · exact fun d lv st M Q x z => jx_k_b2 (jx_fok (by decide +kernel : decode (jx_mb 114) 17 = .ok (.if_icmp .ge 27, 3))) rfl jx_hGe
  · exact fun d st M Q l0 l1 l2 l4 l5 l6 l7 l8 x => jx_ev_st (jx_fok (by decide +kernel : decode (jx_mb 114) 20 = .ok (.iload_n 3, 1))) rfl rfl rfl
  · exact fun d st M Q l0 l1 l3 l4 l5 l6 l7 l8 x => jx_ev_st (jx_fok (by decide +kernel : decode (jx_mb 114) 21 = .ok (.iload_n 2, 1))) rfl rfl rfl
  · exact fun d st M Q l0 l1 l2 l3 l5 l6 l7 l8 x => jx_ev_st (jx_fok (by decide +kernel : decode (jx_mb 114) 22 = .ok (.iload 4, 2))) rfl rfl rfl
  · exact fun d lv st M Q x z => jx_ev_st (jx_fok (by decide +kernel : decode (jx_mb 114) 24 = .ok (.ishr, 1))) rfl rfl rfl
  · exact fun d lv st M Q => jx_ev_st (jx_fok (by decide +kernel : decode (jx_mb 114) 25 = .ok (.iconst 1, 1))) rfl rfl rfl
  · exact fun d lv st M Q x z => jx_ev_st (jx_fok (by decide +kernel : decode (jx_mb 114) 26 = .ok (.iand, 1))) rfl rfl rfl
  · exact fun d lv st M Q => jx_ev_st (jx_fok (by decide +kernel : decode (jx_mb 114) 27 = .ok (.iconst 1, 1))) rfl rfl rfl
  · exact fun d lv st M Q x z => jx_k_b2n (jx_fok (by decide +kernel : decode (jx_mb 114) 28 = .ok (.if_icmp .ne 7, 3))) rfl jx_hNe
  · exact fun d lv st M Q => jx_ev_st (jx_fok (by decide +kernel : decode (jx_mb 114) 31 = .ok (.iconst 4, 1))) rfl rfl rfl
  · exact fun d lv st M Q => jx_k_goto (jx_fok (by decide +kernel : decode (jx_mb 114) 32 = .ok (.goto 4, 3))) rfl
  · exact fun d lv st M Q => jx_ev_st (jx_fok (by decide +kernel : decode (jx_mb 114) 35 = .ok (.iconst 1, 1))) rfl rfl rfl
  · exact fun d lv st M Q x z => jx_ev_st (jx_fok (by decide +kernel : decode (jx_mb 114) 36 = .ok (.imul, 1))) rfl rfl rfl
  · exact fun d st M Q l0 l1 l2 l3 l4 l5 l6 l7 l8 x => jx_ev_st (jx_fok (by decide +kernel : decode (jx_mb 114) 37 = .ok (.istore_n 3, 1))) rfl rfl rfl
  · exact fun d st M Q l0 l1 l2 l3 l5 l6 l7 l8 x => jx_ev_st (jx_fok (by decide +kernel : decode (jx_mb 114) 38 = .ok (.iinc 4 1, 3))) rfl rfl rfl
  · exact fun d lv st M Q => jx_k_goto (jx_fok (by decide +kernel : decode (jx_mb 114) 41 = .ok (.goto (-30), 3))) rfl
  · exact fun d lv st M Q => jx_ev_st (jx_fok (by decide +kernel : decode (jx_mb 114) 44 = .ok (.bipush (-9), 2))) rfl rfl rfl
  · exact fun d st M Q l0 l1 l2 l3 l4 l5 l6 l7 l8 x => jx_ev_st (jx_fok (by decide +kernel : decode (jx_mb 114) 46 = .ok (.istore 4, 2))) rfl rfl rfl
  · exact fun d lv st M Q => jx_ev_st (jx_fok (by decide +kernel : decode (jx_mb 114) 48 = .ok (.iconst 0, 1))) rfl rfl rfl
  · exact fun d st M Q l0 l1 l2 l3 l4 l5 l6 l7 l8 x => jx_ev_st (jx_fok (by decide +kernel : decode (jx_mb 114) 49 = .ok (.istore 5, 2))) rfl rfl rfl
  · exact fun d st M Q l0 l1 l2 l4 l5 l6 l7 l8 x => jx_ev_st (jx_fok (by decide +kernel : decode (jx_mb 114) 53 = .ok (.iload_n 3, 1))) rfl rfl rfl
  · exact fun d lv st M Q x z => jx_k_b2 (jx_fok (by decide +kernel : decode (jx_mb 114) 54 = .ok (.if_icmp .ge 136, 3))) rfl jx_hGe
  · exact fun d st M Q l0 l1 l2 l3 l4 l6 l7 l8 x => jx_ev_st (jx_fok (by decide +kernel : decode (jx_mb 114) 57 = .ok (.iload 5, 2))) rfl rfl rfl
  · exact fun d st M Q l0 l1 l2 l3 l4 l5 l6 l7 l8 x => jx_ev_st (jx_fok (by decide +kernel : decode (jx_mb 114) 59 = .ok (.istore 6, 2))) rfl rfl rfl
  · exact fun d st M Q l1 l2 l3 l4 l5 l6 l7 l8 x => jx_ev_st (jx_fok (by decide +kernel : decode (jx_mb 114) 61 = .ok (.aload_n 0, 1))) rfl rfl rfl
  · exact fun d lv st M Q => jx_k_gf (jx_fok (by decide +kernel : decode (jx_mb 114) 62 = .ok (.getfield 80, 3))) rfl rfl rfl
  · exact fun d lv st M Q => jx_ev_st (jx_fok (by decide +kernel : decode (jx_mb 114) 65 = .ok (.iconst 1, 1))) rfl rfl rfl
  · exact fun d lv st M Q x z => jx_ev_st (jx_fok (by decide +kernel : decode (jx_mb 114) 66 = .ok (.isub, 1))) rfl rfl rfl
  · exact fun d st M Q l0 l1 l2 l3 l4 l5 l6 l7 l8 x => jx_ev_st (jx_fok (by decide +kernel : decode (jx_mb 114) 67 = .ok (.istore 7, 2))) rfl rfl rfl
  · exact fun d lv st M Q x => jx_k_b1 (jx_fok (by decide +kernel : decode (jx_mb 114) 71 = .ok (.ifCond .lt 56, 3))) rfl jx_hLt
  · exact fun d st M Q l1 l2 l3 l4 l5 l6 l7 l8 x => jx_ev_st (jx_fok (by decide +kernel : decode (jx_mb 114) 74 = .ok (.aload_n 0, 1))) rfl rfl rfl
  · exact fun d lv st M Q => jx_k_gf (jx_fok (by decide +kernel : decode (jx_mb 114) 75 = .ok (.getfield 49, 3))) rfl rfl rfl
  · exact fun d st M Q l0 l1 l2 l3 l4 l5 l6 l8 x => jx_ev_st (jx_fok (by decide +kernel : decode (jx_mb 114) 78 = .ok (.iload 7, 2))) rfl rfl rfl
  · exact fun d st M Q l0 l1 l3 l4 l5 l6 l7 l8 x => jx_ev_st (jx_fok (by decide +kernel : decode (jx_mb 114) 80 = .ok (.iload_n 2, 1))) rfl rfl rfl
  · exact fun d st M Q l0 l1 l2 l3 l4 l5 l6 l8 x => jx_ev_st (jx_fok (by decide +kernel : decode (jx_mb 114) 81 = .ok (.iload 7, 2))) rfl rfl rfl
  · exact fun d lv st M Q x z => jx_ev_st (jx_fok (by decide +kernel : decode (jx_mb 114) 83 = .ok (.ishr, 1))) rfl rfl rfl
  · exact fun d lv st M Q => jx_ev_st (jx_fok (by decide +kernel : decode (jx_mb 114) 84 = .ok (.iconst 1, 1))) rfl rfl rfl
  · exact fun d lv st M Q x z => jx_ev_st (jx_fok (by decide +kernel : decode (jx_mb 114) 85 = .ok (.iand, 1))) rfl rfl rfl
  · exact fun d lv st M Q => jx_ev_st (jx_fok (by decide +kernel : decode (jx_mb 114) 86 = .ok (.iconst 1, 1))) rfl rfl rfl
  · exact fun d lv st M Q x z => jx_k_b2n (jx_fok (by decide +kernel : decode (jx_mb 114) 87 = .ok (.if_icmp .ne 10, 3))) rfl jx_hNe
  · exact fun d st M Q l0 l1 l2 l3 l4 l5 l7 l8 x => jx_ev_st (jx_fok (by decide +kernel : decode (jx_mb 114) 90 = .ok (.iload 6, 2))) rfl rfl rfl
  · exact fun d lv st M Q => jx_ev_st (jx_fok (by decide +kernel : decode (jx_mb 114) 92 = .ok (.iconst 4, 1))) rfl rfl rfl
  · exact fun d lv st M Q x z => jx_k_irem (jx_fok (by decide +kernel : decode (jx_mb 114) 93 = .ok (.irem, 1)))
  · exact fun d lv st M Q => jx_k_goto (jx_fok (by decide +kernel : decode (jx_mb 114) 94 = .ok (.goto 5, 3))) rfl
  · exact fun d lv st M Q => jx_ev_st (jx_fok (by decide +kernel : decode (jx_mb 114) 97 = .ok (.bipush (-9), 2))) rfl rfl rfl
  · exact fun d lv st M Q x z a ha => jx_k_as (jx_fok (by decide +kernel : decode (jx_mb 114) 99 = .ok (.iastore, 1))) ha
  · exact fun d st M Q l0 l1 l3 l4 l5 l6 l7 l8 x => jx_ev_st (jx_fok (by decide +kernel : decode (jx_mb 114) 100 = .ok (.iload_n 2, 1))) rfl rfl rfl
  · exact fun d st M Q l0 l1 l2 l3 l4 l5 l6 l8 x => jx_ev_st (jx_fok (by decide +kernel : decode (jx_mb 114) 101 = .ok (.iload 7, 2))) rfl rfl rfl
  · exact fun d lv st M Q x z => jx_ev_st (jx_fok (by decide +kernel : decode (jx_mb 114) 103 = .ok (.ishr, 1))) rfl rfl rfl
  · exact fun d lv st M Q => jx_ev_st (jx_fok (by decide +kernel : decode (jx_mb 114) 104 = .ok (.iconst 1, 1))) rfl rfl rfl
  · exact fun d lv st M Q x z => jx_ev_st (jx_fok (by decide +kernel : decode (jx_mb 114) 105 = .ok (.iand, 1))) rfl rfl rfl
  · exact fun d lv st M Q => jx_ev_st (jx_fok (by decide +kernel : decode (jx_mb 114) 106 = .ok (.iconst 1, 1))) rfl rfl rfl
  · exact fun d lv st M Q x z => jx_k_b2n (jx_fok (by decide +kernel : decode (jx_mb 114) 107 = .ok (.if_icmp .ne 10, 3))) rfl jx_hNe
  · exact fun d st M Q l0 l1 l2 l3 l4 l5 l7 l8 x => jx_ev_st (jx_fok (by decide +kernel : decode (jx_mb 114) 110 = .ok (.iload 6, 2))) rfl rfl rfl
  · exact fun d lv st M Q => jx_ev_st (jx_fok (by decide +kernel : decode (jx_mb 114) 112 = .ok (.iconst 4, 1))) rfl rfl rfl
  · exact fun d lv st M Q x z => jx_k_idiv (jx_fok (by decide +kernel : decode (jx_mb 114) 113 = .ok (.idiv, 1)))
  · exact fun d lv st M Q => jx_k_goto (jx_fok (by decide +kernel : decode (jx_mb 114) 114 = .ok (.goto 5, 3))) rfl
  · exact fun d st M Q l0 l1 l2 l3 l4 l5 l7 l8 x => jx_ev_st (jx_fok (by decide +kernel : decode (jx_mb 114) 117 = .ok (.iload 6, 2))) rfl rfl rfl
  · exact fun d st M Q l0 l1 l2 l3 l4 l5 l6 l7 l8 x => jx_ev_st (jx_fok (by decide +kernel : decode (jx_mb 114) 119 = .ok (.istore 6, 2))) rfl rfl rfl
  · exact fun d st M Q l0 l1 l2 l3 l4 l5 l6 l8 x => jx_ev_st (jx_fok (by decide +kernel : decode (jx_mb 114) 121 = .ok (.iinc 7 (-1), 3))) rfl rfl rfl
  · exact fun d lv st M Q => jx_k_goto (jx_fok (by decide +kernel : decode (jx_mb 114) 124 = .ok (.goto (-55), 3))) rfl
  · exact fun d st M Q l1 l2 l3 l4 l5 l6 l7 l8 x => jx_ev_st (jx_fok (by decide +kernel : decode (jx_mb 114) 127 = .ok (.aload_n 0, 1))) rfl rfl rfl
  · exact fun d st M Q l0 l2 l3 l4 l5 l6 l7 l8 x => jx_ev_st (jx_fok (by decide +kernel : decode (jx_mb 114) 128 = .ok (.iload_n 1, 1))) rfl rfl rfl
  · exact fun d lv M Q a0 => jx_ev_ci (jx_fok (by decide +kernel : decode (jx_mb 114) 129 = .ok (.invokevirtual 164, 3))) rfl (jx_ccV (As := [.int a0]) (rest := []) rfl rfl rfl rfl rfl rfl) (by decide)
  · exact fun d st M Q l0 l1 l2 l3 l4 l5 l6 l7 l8 x => jx_ev_st (jx_fok (by decide +kernel : decode (jx_mb 114) 132 = .ok (.istore 7, 2))) rfl rfl rfl
  · exact fun d st M Q l0 l1 l2 l3 l5 l6 l7 l8 x => jx_ev_st (jx_fok (by decide +kernel : decode (jx_mb 114) 134 = .ok (.iload 4, 2))) rfl rfl rfl
  · exact fun d lv st M Q => jx_ev_st (jx_fok (by decide +kernel : decode (jx_mb 114) 136 = .ok (.bipush (-9), 2))) rfl rfl rfl
  · exact fun d lv st M Q x z => jx_k_b2 (jx_fok (by decide +kernel : decode (jx_mb 114) 138 = .ok (.if_icmp .eq 10, 3))) rfl jx_hEq
  · exact fun d st M Q l0 l1 l2 l3 l4 l5 l6 l8 x => jx_ev_st (jx_fok (by decide +kernel : decode (jx_mb 114) 141 = .ok (.iload 7, 2))) rfl rfl rfl
  · exact fun d st M Q l0 l1 l2 l3 l5 l6 l7 l8 x => jx_ev_st (jx_fok (by decide +kernel : decode (jx_mb 114) 143 = .ok (.iload 4, 2))) rfl rfl rfl
  · exact fun d lv st M Q x z => jx_k_b2 (jx_fok (by decide +kernel : decode (jx_mb 114) 145 = .ok (.if_icmp .ge 39, 3))) rfl jx_hGe
  · exact fun d st M Q l0 l1 l2 l3 l4 l5 l6 l8 x => jx_ev_st (jx_fok (by decide +kernel : decode (jx_mb 114) 148 = .ok (.iload 7, 2))) rfl rfl rfl
  · exact fun d st M Q l0 l1 l2 l3 l4 l5 l6 l7 l8 x => jx_ev_st (jx_fok (by decide +kernel : decode (jx_mb 114) 150 = .ok (.istore 4, 2))) rfl rfl rfl
  · exact fun d lv st M Q => jx_ev_st (jx_fok (by decide +kernel : decode (jx_mb 114) 152 = .ok (.iconst 0, 1))) rfl rfl rfl
  · exact fun d st M Q l0 l1 l2 l3 l4 l5 l6 l7 l8 x => jx_ev_st (jx_fok (by decide +kernel : decode (jx_mb 114) 153 = .ok (.istore 8, 2))) rfl rfl rfl
  · exact fun d st M Q l1 l2 l3 l4 l5 l6 l7 l8 x => jx_ev_st (jx_fok (by decide +kernel : decode (jx_mb 114) 157 = .ok (.aload_n 0, 1))) rfl rfl rfl
  · exact fun d lv st M Q => jx_k_gf (jx_fok (by decide +kernel : decode (jx_mb 114) 158 = .ok (.getfield 80, 3))) rfl rfl rfl
  · exact fun d lv st M Q x z => jx_k_b2 (jx_fok (by decide +kernel : decode (jx_mb 114) 161 = .ok (.if_icmp .ge 23, 3))) rfl jx_hGe
  · exact fun d st M Q l1 l2 l3 l4 l5 l6 l7 l8 x => jx_ev_st (jx_fok (by decide +kernel : decode (jx_mb 114) 164 = .ok (.aload_n 0, 1))) rfl rfl rfl
  · exact fun d lv st M Q => jx_k_gf (jx_fok (by decide +kernel : decode (jx_mb 114) 165 = .ok (.getfield 52, 3))) rfl rfl rfl
  · exact fun d st M Q l0 l1 l2 l3 l4 l5 l6 l7 x => jx_ev_st (jx_fok (by decide +kernel : decode (jx_mb 114) 168 = .ok (.iload 8, 2))) rfl rfl rfl
  · exact fun d st M Q l1 l2 l3 l4 l5 l6 l7 l8 x => jx_ev_st (jx_fok (by decide +kernel : decode (jx_mb 114) 170 = .ok (.aload_n 0, 1))) rfl rfl rfl
  · exact fun d lv st M Q => jx_k_gf (jx_fok (by decide +kernel : decode (jx_mb 114) 171 = .ok (.getfield 49, 3))) rfl rfl rfl
  · exact fun d st M Q l0 l1 l2 l3 l4 l5 l6 l7 x => jx_ev_st (jx_fok (by decide +kernel : decode (jx_mb 114) 174 = .ok (.iload 8, 2))) rfl rfl rfl
  · exact fun d lv st M Q x a ha => jx_k_al (jx_fok (by decide +kernel : decode (jx_mb 114) 176 = .ok (.iaload, 1))) ha
  · exact fun d lv st M Q x z a ha => jx_k_as (jx_fok (by decide +kernel : decode (jx_mb 114) 177 = .ok (.iastore, 1))) ha
  · exact fun d st M Q l0 l1 l2 l3 l4 l5 l6 l7 x => jx_ev_st (jx_fok (by decide +kernel : decode (jx_mb 114) 178 = .ok (.iinc 8 1, 3))) rfl rfl rfl
  · exact fun d lv st M Q => jx_k_goto (jx_fok (by decide +kernel : decode (jx_mb 114) 181 = .ok (.goto (-26), 3))) rfl
  · exact fun d st M Q l0 l1 l2 l3 l4 l6 l7 l8 x => jx_ev_st (jx_fok (by decide +kernel : decode (jx_mb 114) 184 = .ok (.iinc 5 1, 3))) rfl rfl rfl
  · exact fun d lv st M Q => jx_k_goto (jx_fok (by decide +kernel : decode (jx_mb 114) 187 = .ok (.goto (-136), 3))) rfl
  · exact fun d st M Q l0 l1 l2 l3 l5 l6 l7 l8 x => jx_ev_st (jx_fok (by decide +kernel : decode (jx_mb 114) 190 = .ok (.iload 4, 2))) rfl rfl rfl
  · exact fun d lv M Q x => jx_k_ri (jx_fok (by decide +kernel : decode (jx_mb 114) 192 = .ok (.ireturn, 1))) rfl
theorem eX8_findEase_11 (d : Nat) (st : List Value) (M : jx_M) (Q : jx_Po) (l0 l1 l2 l3 l5 l6 l7 l8 : Option Value) (x : Int32) : jx_Ev d 114 11 [l0, l1, l2, l3, some (.int x), l5, l6, l7, l8] st M Q ↔ jx_Ev d 114 13 [l0, l1, l2, l3, some (.int x), l5, l6, l7, l8] (.int x :: st) M Q := jx_ev_st (jx_fok (by decide +kernel : decode (jx_mb 114) 11 = .ok (.iload 4, 2))) rfl rfl rfl
theorem eX8_findEase_51 (d : Nat) (st : List Value) (M : jx_M) (Q : jx_Po) (l0 l1 l2 l3 l4 l6 l7 l8 : Option Value) (x : Int32) : jx_Ev d 114 51 [l0, l1, l2, l3, l4, some (.int x), l6, l7, l8] st M Q ↔ jx_Ev d 114 53 [l0, l1, l2, l3, l4, some (.int x), l6, l7, l8] (.int x :: st) M Q := jx_ev_st (jx_fok (by decide +kernel : decode (jx_mb 114) 51 = .ok (.iload 5, 2))) rfl rfl rfl
theorem eX8_findEase_69 (d : Nat) (st : List Value) (M : jx_M) (Q : jx_Po) (l0 l1 l2 l3 l4 l5 l6 l8 : Option Value) (x : Int32) : jx_Ev d 114 69 [l0, l1, l2, l3, l4, l5, l6, some (.int x), l8] st M Q ↔ jx_Ev d 114 71 [l0, l1, l2, l3, l4, l5, l6, some (.int x), l8] (.int x :: st) M Q := jx_ev_st (jx_fok (by decide +kernel : decode (jx_mb 114) 69 = .ok (.iload 7, 2))) rfl rfl rfl
theorem eX8_findEase_155 (d : Nat) (st : List Value) (M : jx_M) (Q : jx_Po) (l0 l1 l2 l3 l4 l5 l6 l7 : Option Value) (x : Int32) : jx_Ev d 114 155 [l0, l1, l2, l3, l4, l5, l6, l7, some (.int x)] st M Q ↔ jx_Ev d 114 157 [l0, l1, l2, l3, l4, l5, l6, l7, some (.int x)] (.int x :: st) M Q := jx_ev_st (jx_fok (by decide +kernel : decode (jx_mb 114) 155 = .ok (.iload 8, 2))) rfl rfl rfl
theorem kX8_findEase (d : Nat) (M : jx_M) (q : Int32 → jx_M → Prop) (a0 a1 : Value) : jx_I d 114 [a0, a1] M q ↔ jx_Ev d 114 0 [some a0, some a1, none, none, none, none, none, none, none] [] M (jx_qI q) := Iff.rfl
set_option maxRecDepth 100000 in
theorem eX8_ease :
  (∀ (d : Nat) (st : List Value) (M : jx_M) (Q : jx_Po) (l1 l2 l3 : Option Value) (x : Nat), jx_Ev d 115 0 [some (.ref x), l1, l2, l3] st M Q ↔ jx_Ev d 115 1 [some (.ref x), l1, l2, l3] (.ref x :: st) M Q) ∧
  (∀ (d : Nat) (st : List Value) (M : jx_M) (Q : jx_Po) (l0 l2 l3 : Option Value) (x : Int32), jx_Ev d 115 1 [l0, some (.int x), l2, l3] st M Q ↔ jx_Ev d 115 2 [l0, some (.int x), l2, l3] (.int x :: st) M Q) ∧
  (∀ (d : Nat) (lv : List (Option Value)) (M : jx_M) (Q : jx_Po) (a0 : Int32), jx_Ev (d + 1) 115 2 lv [.int a0, .ref 36] M Q ↔ jx_I d 90 [.ref 36, .int a0] M (fun x M => jx_Ev (d + 1) 115 5 lv (.int x :: []) M Q)) ∧
  (∀ (d : Nat) (lv : List (Option Value)) (st : List Value) (M : jx_M) (Q : jx_Po) (x : Int32), jx_Ev d 115 5 lv (.int x :: st) M Q ↔ (if x = 0 then jx_Ev d 115 8 lv st M Q else jx_Ev d 115 10 lv st M Q)) ∧
  (∀ (d : Nat) (lv : List (Option Value)) (st : List Value) (M : jx_M) (Q : jx_Po), jx_Ev d 115 8 lv st M Q ↔ jx_Ev d 115 9 lv (.int (-1) :: st) M Q) ∧
  (∀ (d : Nat) (lv : List (Option Value)) (M : jx_M) (Q : jx_Po) (x : Int32), jx_Ev d 115 9 lv [.int x] M Q ↔ Q [.int x] M) ∧
  (∀ (d : Nat) (st : List Value) (M : jx_M) (Q : jx_Po) (l0 l1 l3 : Option Value) (x : Int32), jx_Ev d 115 10 [l0, l1, some (.int x), l3] st M Q ↔ jx_Ev d 115 11 [l0, l1, some (.int x), l3] (.int x :: st) M Q) ∧
  (∀ (d : Nat) (lv : List (Option Value)) (st : List Value) (M : jx_M) (Q : jx_Po), jx_Ev d 115 11 lv st M Q ↔ jx_Ev d 115 12 lv (.int (-1) :: st) M Q) ∧
  (∀ (d : Nat) (lv : List (Option Value)) (st : List Value) (M : jx_M) (Q : jx_Po), jx_Ev d 115 12 lv st M Q ↔ jx_Ev d 115 13 lv (.int 5 :: st) M Q) ∧
  (∀ (d : Nat) (lv : List (Option Value)) (M : jx_M) (Q : jx_Po) (a0 : Int32) (a1 : Int32) (a2 : Int32), jx_Ev (d + 1) 115 13 lv [.int a0, .int a1, .int a2] M Q ↔ jx_I d 86 [.int a2, .int a1, .int a0] M (fun x M => jx_Ev (d + 1) 115 16 lv (.int x :: []) M Q)) ∧
  (∀ (d : Nat) (lv : List (Option Value)) (st : List Value) (M : jx_M) (Q : jx_Po) (x : Int32), jx_Ev d 115 16 lv (.int x :: st) M Q ↔ (if x = 0 then jx_Ev d 115 19 lv st M Q else jx_Ev d 115 22 lv st M Q)) ∧
  (∀ (d : Nat) (lv : List (Option Value)) (st : List Value) (M : jx_M) (Q : jx_Po), jx_Ev d 115 19 lv st M Q ↔ jx_Ev d 115 21 lv (.int (-2) :: st) M Q) ∧
  (∀ (d : Nat) (lv : List (Option Value)) (M : jx_M) (Q : jx_Po) (x : Int32), jx_Ev d 115 21 lv [.int x] M Q ↔ Q [.int x] M) ∧
  (∀ (d : Nat) (st : List Value) (M : jx_M) (Q : jx_Po) (l1 l2 l3 : Option Value) (x : Nat), jx_Ev d 115 22 [some (.ref x), l1, l2, l3] st M Q ↔ jx_Ev d 115 23 [some (.ref x), l1, l2, l3] (.ref x :: st) M Q) ∧
  (∀ (d : Nat) (st : List Value) (M : jx_M) (Q : jx_Po) (l0 l2 l3 : Option Value) (x : Int32), jx_Ev d 115 23 [l0, some (.int x), l2, l3] st M Q ↔ jx_Ev d 115 24 [l0, some (.int x), l2, l3] (.int x :: st) M Q) ∧
  (∀ (d : Nat) (lv : List (Option Value)) (M : jx_M) (Q : jx_Po) (a0 : Int32), jx_Ev (d + 1) 115 24 lv [.int a0, .ref 36] M Q ↔ jx_I d 114 [.ref 36, .int a0] M (fun x M => jx_Ev (d + 1) 115 27 lv (.int x :: []) M Q)) ∧
  (∀ (d : Nat) (st : List Value) (M : jx_M) (Q : jx_Po) (l0 l1 l2 l3 : Option Value) (x : Int32), jx_Ev d 115 27 [l0, l1, l2, l3] (.int x :: st) M Q ↔ jx_Ev d 115 28 [l0, l1, l2, some (.int x)] st M Q) ∧
  (∀ (d : Nat) (st : List Value) (M : jx_M) (Q : jx_Po) (l0 l1 l3 : Option Value) (x : Int32), jx_Ev d 115 28 [l0, l1, some (.int x), l3] st M Q ↔ jx_Ev d 115 29 [l0, l1, some (.int x), l3] (.int x :: st) M Q) ∧
  (∀ (d : Nat) (lv : List (Option Value)) (st : List Value) (M : jx_M) (Q : jx_Po), jx_Ev d 115 29 lv st M Q ↔ jx_Ev d 115 30 lv (.int (-1) :: st) M Q) ∧
  (∀ (d : Nat) (lv : List (Option Value)) (st : List Value) (M : jx_M) (Q : jx_Po) (x z : Int32), jx_Ev d 115 30 lv (.int z :: .int x :: st) M Q ↔ (if x = z then jx_Ev d 115 33 lv st M Q else jx_Ev d 115 37 lv st M Q)) ∧
  (∀ (d : Nat) (st : List Value) (M : jx_M) (Q : jx_Po) (l0 l1 l2 : Option Value) (x : Int32), jx_Ev d 115 33 [l0, l1, l2, some (.int x)] st M Q ↔ jx_Ev d 115 34 [l0, l1, l2, some (.int x)] (.int x :: st) M Q) ∧
  (∀ (d : Nat) (lv : List (Option Value)) (st : List Value) (M : jx_M) (Q : jx_Po), jx_Ev d 115 34 lv st M Q ↔ jx_Ev d 115 56 lv st M Q) ∧
  (∀ (d : Nat) (st : List Value) (M : jx_M) (Q : jx_Po) (l0 l1 l3 : Option Value) (x : Int32), jx_Ev d 115 37 [l0, l1, some (.int x), l3] st M Q ↔ jx_Ev d 115 38 [l0, l1, some (.int x), l3] (.int x :: st) M Q) ∧
  (∀ (d : Nat) (st : List Value) (M : jx_M) (Q : jx_Po) (l1 l2 l3 : Option Value) (x : Nat), jx_Ev d 115 38 [some (.ref x), l1, l2, l3] st M Q ↔ jx_Ev d 115 39 [some (.ref x), l1, l2, l3] (.ref x :: st) M Q) ∧
  (∀ (d : Nat) (lv : List (Option Value)) (st : List Value) (M : jx_M) (Q : jx_Po), jx_Ev d 115 39 lv (.ref 36 :: st) M Q ↔ jx_Ev d 115 42 lv (.int (M 36 6) :: st) M Q) ∧
  (∀ (d : Nat) (lv : List (Option Value)) (st : List Value) (M : jx_M) (Q : jx_Po) (x z : Int32), jx_Ev d 115 42 lv (.int z :: .int x :: st) M Q ↔ (if z ≤ x then jx_Ev d 115 54 lv st M Q else jx_Ev d 115 45 lv st M Q)) ∧
  (∀ (d : Nat) (st : List Value) (M : jx_M) (Q : jx_Po) (l1 l2 l3 : Option Value) (x : Nat), jx_Ev d 115 45 [some (.ref x), l1, l2, l3] st M Q ↔ jx_Ev d 115 46 [some (.ref x), l1, l2, l3] (.ref x :: st) M Q) ∧
  (∀ (d : Nat) (lv : List (Option Value)) (st : List Value) (M : jx_M) (Q : jx_Po), jx_Ev d 115 46 lv (.ref 36 :: st) M Q ↔ jx_Ev d 115 49 lv (.ref 51 :: st) M Q) ∧
  (∀ (d : Nat) (st : List Value) (M : jx_M) (Q : jx_Po) (l0 l1 l3 : Option Value) (x : Int32), jx_Ev d 115 49 [l0, l1, some (.int x), l3] st M Q ↔ jx_Ev d 115 50 [l0, l1, some (.int x), l3] (.int x :: st) M Q) ∧
  (∀ (d : Nat) (lv : List (Option Value)) (st : List Value) (M : jx_M) (Q : jx_Po) (x : Int32) (a : Nat) (ha : jx_cl a = 9), jx_Ev d 115 50 lv (.int x :: .ref a :: st) M Q ↔ (vp_in x (jx_sz a) ∧ jx_Ev d 115 51 lv (.int (M a x.toNatClampNeg) :: st) M Q)) ∧
  (∀ (d : Nat) (lv : List (Option Value)) (st : List Value) (M : jx_M) (Q : jx_Po), jx_Ev d 115 51 lv st M Q ↔ jx_Ev d 115 56 lv st M Q) ∧
  (∀ (d : Nat) (lv : List (Option Value)) (st : List Value) (M : jx_M) (Q : jx_Po), jx_Ev d 115 54 lv st M Q ↔ jx_Ev d 115 56 lv (.int (-9) :: st) M Q) ∧
  (∀ (d : Nat) (lv : List (Option Value)) (M : jx_M) (Q : jx_Po) (x : Int32), jx_Ev d 115 56 lv [.int x] M Q ↔ Q [.int x] M) := by
  refine ⟨?_, ?_, ?_, ?_, ?_, ?_, ?_, ?_, ?_, ?_, ?_, ?_, ?_, ?_, ?_, ?_, ?_, ?_, ?_, ?_, ?_, ?_, ?_, ?_, ?_, ?_, ?_, ?_, ?_, ?_, ?_, ?_, ?_⟩
  · exact fun d st M Q l1 l2 l3 x => jx_ev_st (jx_fok (by decide +kernel : decode (jx_mb 115) 0 = .ok (.aload_n 0, 1))) rfl rfl rfl
  · exact fun d st M Q l0 l2 l3 x => jx_ev_st (jx_fok (by decide +kernel : decode (jx_mb 115) 1 = .ok (.iload_n 1, 1))) rfl rfl rfl
  · exact fun d lv M Q a0 => jx_ev_ci (jx_fok (by decide +kernel : decode (jx_mb 115) 2 = .ok (.invokevirtual 142, 3))) rfl (jx_ccV (As := [.int a0]) (rest := []) rfl rfl rfl rfl rfl rfl) (by decide)
  · exact fun d lv st M Q x => jx_k_b1n (jx_fok (by decide +kernel : decode (jx_mb 115) 5 = .ok (.ifCond .ne 5, 3))) rfl jx_hNe
  · exact fun d lv st M Q => jx_ev_st (jx_fok (by decide +kernel : decode (jx_mb 115) 8 = .ok (.iconst (-1), 1))) rfl rfl rfl
  · exact fun d lv M Q x => jx_k_ri (jx_fok (by decide +kernel : decode (jx_mb 115) 9 = .ok (.ireturn, 1))) rfl
  · exact fun d st M Q l0 l1 l3 x => jx_ev_st (jx_fok (by decide +kernel : decode (jx_mb 115) 10 = .ok (.iload_n 2, 1))) rfl rfl rfl
  · exact fun d lv st M Q => jx_ev_st (jx_fok (by decide +kernel : decode (jx_mb 115) 11 = .ok (.iconst (-1), 1))) rfl rfl rfl
  · exact fun d lv st M Q => jx_ev_st (jx_fok (by decide +kernel : decode (jx_mb 115) 12 = .ok (.iconst 5, 1))) rfl rfl rfl
  · exact fun d lv M Q a0 a1 a2 => jx_ev_ci (jx_fok (by decide +kernel : decode (jx_mb 115) 13 = .ok (.invokestatic 73, 3))) rfl (jx_ccS (As := [.int a2, .int a1, .int a0]) (rest := []) rfl rfl rfl rfl rfl) (by decide)
  · exact fun d lv st M Q x => jx_k_b1n (jx_fok (by decide +kernel : decode (jx_mb 115) 16 = .ok (.ifCond .ne 6, 3))) rfl jx_hNe
  · exact fun d lv st M Q => jx_ev_st (jx_fok (by decide +kernel : decode (jx_mb 115) 19 = .ok (.bipush (-2), 2))) rfl rfl rfl
  · exact fun d lv M Q x => jx_k_ri (jx_fok (by decide +kernel : decode (jx_mb 115) 21 = .ok (.ireturn, 1))) rfl
  · exact fun d st M Q l1 l2 l3 x => jx_ev_st (jx_fok (by decide +kernel : decode (jx_mb 115) 22 = .ok (.aload_n 0, 1))) rfl rfl rfl
  · exact fun d st M Q l0 l2 l3 x => jx_ev_st (jx_fok (by decide +kernel : decode (jx_mb 115) 23 = .ok (.iload_n 1, 1))) rfl rfl rfl
  · exact fun d lv M Q a0 => jx_ev_ci (jx_fok (by decide +kernel : decode (jx_mb 115) 24 = .ok (.invokevirtual 167, 3))) rfl (jx_ccV (As := [.int a0]) (rest := []) rfl rfl rfl rfl rfl rfl) (by decide)
  · exact fun d st M Q l0 l1 l2 l3 x => jx_ev_st (jx_fok (by decide +kernel : decode (jx_mb 115) 27 = .ok (.istore_n 3, 1))) rfl rfl rfl
  · exact fun d st M Q l0 l1 l3 x => jx_ev_st (jx_fok (by decide +kernel : decode (jx_mb 115) 28 = .ok (.iload_n 2, 1))) rfl rfl rfl
  · exact fun d lv st M Q => jx_ev_st (jx_fok (by decide +kernel : decode (jx_mb 115) 29 = .ok (.iconst (-1), 1))) rfl rfl rfl
  · exact fun d lv st M Q x z => jx_k_b2n (jx_fok (by decide +kernel : decode (jx_mb 115) 30 = .ok (.if_icmp .ne 7, 3))) rfl jx_hNe
  · exact fun d st M Q l0 l1 l2 x => jx_ev_st (jx_fok (by decide +kernel : decode (jx_mb 115) 33 = .ok (.iload_n 3, 1))) rfl rfl rfl
  · exact fun d lv st M Q => jx_k_goto (jx_fok (by decide +kernel : decode (jx_mb 115) 34 = .ok (.goto 22, 3))) rfl
  · exact fun d st M Q l0 l1 l3 x => jx_ev_st (jx_fok (by decide +kernel : decode (jx_mb 115) 37 = .ok (.iload_n 2, 1))) rfl rfl rfl
  · exact fun d st M Q l1 l2 l3 x => jx_ev_st (jx_fok (by decide +kernel : decode (jx_mb 115) 38 = .ok (.aload_n 0, 1))) rfl rfl rfl
  · exact fun d lv st M Q => jx_k_gf (jx_fok (by decide +kernel : decode (jx_mb 115) 39 = .ok (.getfield 80, 3))) rfl rfl rfl
  · exact fun d lv st M Q x z => jx_k_b2 (jx_fok (by decide +kernel : decode (jx_mb 115) 42 = .ok (.if_icmp .ge 12, 3))) rfl jx_hGe
  · exact fun d st M Q l1 l2 l3 x => jx_ev_st (jx_fok (by decide +kernel : decode (jx_mb 115) 45 = .ok (.aload_n 0, 1))) rfl rfl rfl
  · exact fun d lv st M Q => jx_k_gf (jx_fok (by decide +kernel : decode (jx_mb 115) 46 = .ok (.getfield 52, 3))) rfl rfl rfl
  · exact fun d st M Q l0 l1 l3 x => jx_ev_st (jx_fok (by decide +kernel : decode (jx_mb 115) 49 = .ok (.iload_n 2, 1))) rfl rfl rfl
  · exact fun d lv st M Q x a ha => jx_k_al (jx_fok (by decide +kernel : decode (jx_mb 115) 50 = .ok (.iaload, 1))) ha
  · exact fun d lv st M Q => jx_k_goto (jx_fok (by decide +kernel : decode (jx_mb 115) 51 = .ok (.goto 5, 3))) rfl
  · exact fun d lv st M Q => jx_ev_st (jx_fok (by decide +kernel : decode (jx_mb 115) 54 = .ok (.bipush (-9), 2))) rfl rfl rfl
  · exact fun d lv M Q x => jx_k_ri (jx_fok (by decide +kernel : decode (jx_mb 115) 56 = .ok (.ireturn, 1))) rfl
theorem kX8_ease (d : Nat) (M : jx_M) (q : Int32 → jx_M → Prop) (a0 a1 a2 : Value) : jx_I d 115 [a0, a1, a2] M q ↔ jx_Ev d 115 0 [some a0, some a1, some a2, none] [] M (jx_qI q) := Iff.rfl
set_option maxRecDepth 100000 in
theorem eX8_isApart :
  (∀ (d : Nat) (st : List Value) (M : jx_M) (Q : jx_Po) (l1 l2 l3 l4 : Option Value) (x : Nat), jx_Ev d 116 0 [some (.ref x), l1, l2, l3, l4] st M Q ↔ jx_Ev d 116 1 [some (.ref x), l1, l2, l3, l4] (.ref x :: st) M Q) ∧
  (∀ (d : Nat) (st : List Value) (M : jx_M) (Q : jx_Po) (l0 l2 l3 l4 : Option Value) (x : Int32), jx_Ev d 116 1 [l0, some (.int x), l2, l3, l4] st M Q ↔ jx_Ev d 116 2 [l0, some (.int x), l2, l3, l4] (.int x :: st) M Q) ∧
  (∀ (d : Nat) (st : List Value) (M : jx_M) (Q : jx_Po) (l0 l1 l2 l4 : Option Value) (x : Int32), jx_Ev d 116 2 [l0, l1, l2, some (.int x), l4] st M Q ↔ jx_Ev d 116 3 [l0, l1, l2, some (.int x), l4] (.int x :: st) M Q) ∧
  (∀ (d : Nat) (lv : List (Option Value)) (M : jx_M) (Q : jx_Po) (a0 : Int32) (a1 : Int32), jx_Ev (d + 1) 116 3 lv [.int a0, .int a1, .ref 36] M Q ↔ jx_I d 105 [.ref 36, .int a1, .int a0] M (fun x M => jx_Ev (d + 1) 116 6 lv (.int x :: []) M Q)) ∧
  (∀ (d : Nat) (st : List Value) (M : jx_M) (Q : jx_Po) (l1 l2 l3 l4 : Option Value) (x : Nat), jx_Ev d 116 6 [some (.ref x), l1, l2, l3, l4] st M Q ↔ jx_Ev d 116 7 [some (.ref x), l1, l2, l3, l4] (.ref x :: st) M Q) ∧
  (∀ (d : Nat) (st : List Value) (M : jx_M) (Q : jx_Po) (l0 l1 l3 l4 : Option Value) (x : Int32), jx_Ev d 116 7 [l0, l1, some (.int x), l3, l4] st M Q ↔ jx_Ev d 116 8 [l0, l1, some (.int x), l3, l4] (.int x :: st) M Q) ∧
  (∀ (d : Nat) (st : List Value) (M : jx_M) (Q : jx_Po) (l0 l1 l2 l4 : Option Value) (x : Int32), jx_Ev d 116 8 [l0, l1, l2, some (.int x), l4] st M Q ↔ jx_Ev d 116 9 [l0, l1, l2, some (.int x), l4] (.int x :: st) M Q) ∧
  (∀ (d : Nat) (lv : List (Option Value)) (M : jx_M) (Q : jx_Po) (a0 : Int32) (a1 : Int32) (a3 : Int32), jx_Ev (d + 1) 116 9 lv [.int a0, .int a1, .ref 36, .int a3] M Q ↔ jx_I d 105 [.ref 36, .int a1, .int a0] M (fun x M => jx_Ev (d + 1) 116 12 lv (.int x :: [.int a3]) M Q)) ∧
  (∀ (d : Nat) (lv : List (Option Value)) (st : List Value) (M : jx_M) (Q : jx_Po) (x z : Int32), jx_Ev d 116 12 lv (.int z :: .int x :: st) M Q ↔ jx_Ev d 116 13 lv (.int (x - z) :: st) M Q) ∧
  (∀ (d : Nat) (st : List Value) (M : jx_M) (Q : jx_Po) (l0 l1 l2 l3 l4 : Option Value) (x : Int32), jx_Ev d 116 13 [l0, l1, l2, l3, l4] (.int x :: st) M Q ↔ jx_Ev d 116 15 [l0, l1, l2, l3, some (.int x)] st M Q) ∧
  (∀ (d : Nat) (st : List Value) (M : jx_M) (Q : jx_Po) (l0 l1 l2 l3 : Option Value) (x : Int32), jx_Ev d 116 15 [l0, l1, l2, l3, some (.int x)] st M Q ↔ jx_Ev d 116 17 [l0, l1, l2, l3, some (.int x)] (.int x :: st) M Q) ∧
  (∀ (d : Nat) (st : List Value) (M : jx_M) (Q : jx_Po) (l1 l2 l3 l4 : Option Value) (x : Nat), jx_Ev d 116 17 [some (.ref x), l1, l2, l3, l4] st M Q ↔ jx_Ev d 116 18 [some (.ref x), l1, l2, l3, l4] (.ref x :: st) M Q) ∧
  (∀ (d : Nat) (lv : List (Option Value)) (st : List Value) (M : jx_M) (Q : jx_Po), jx_Ev d 116 18 lv (.ref 36 :: st) M Q ↔ jx_Ev d 116 21 lv (.int (M 36 8) :: st) M Q) ∧
  (∀ (d : Nat) (lv : List (Option Value)) (st : List Value) (M : jx_M) (Q : jx_Po) (x z : Int32), jx_Ev d 116 21 lv (.int z :: .int x :: st) M Q ↔ (if z ≤ x then jx_Ev d 116 34 lv st M Q else jx_Ev d 116 24 lv st M Q)) ∧
  (∀ (d : Nat) (st : List Value) (M : jx_M) (Q : jx_Po) (l0 l1 l2 l3 : Option Value) (x : Int32), jx_Ev d 116 24 [l0, l1, l2, l3, some (.int x)] st M Q ↔ jx_Ev d 116 26 [l0, l1, l2, l3, some (.int x)] (.int x :: st) M Q) ∧
  (∀ (d : Nat) (lv : List (Option Value)) (st : List Value) (M : jx_M) (Q : jx_Po) (x : Int32), jx_Ev d 116 26 lv (.int x :: st) M Q ↔ jx_Ev d 116 27 lv (.int (-x) :: st) M Q) ∧
  (∀ (d : Nat) (st : List Value) (M : jx_M) (Q : jx_Po) (l1 l2 l3 l4 : Option Value) (x : Nat), jx_Ev d 116 27 [some (.ref x), l1, l2, l3, l4] st M Q ↔ jx_Ev d 116 28 [some (.ref x), l1, l2, l3, l4] (.ref x :: st) M Q) ∧
  (∀ (d : Nat) (lv : List (Option Value)) (st : List Value) (M : jx_M) (Q : jx_Po), jx_Ev d 116 28 lv (.ref 36 :: st) M Q ↔ jx_Ev d 116 31 lv (.int (M 36 8) :: st) M Q) ∧
  (∀ (d : Nat) (lv : List (Option Value)) (st : List Value) (M : jx_M) (Q : jx_Po) (x z : Int32), jx_Ev d 116 31 lv (.int z :: .int x :: st) M Q ↔ (if x < z then jx_Ev d 116 38 lv st M Q else jx_Ev d 116 34 lv st M Q)) ∧
  (∀ (d : Nat) (lv : List (Option Value)) (st : List Value) (M : jx_M) (Q : jx_Po), jx_Ev d 116 34 lv st M Q ↔ jx_Ev d 116 35 lv (.int 1 :: st) M Q) ∧
  (∀ (d : Nat) (lv : List (Option Value)) (st : List Value) (M : jx_M) (Q : jx_Po), jx_Ev d 116 35 lv st M Q ↔ jx_Ev d 116 39 lv st M Q) ∧
  (∀ (d : Nat) (lv : List (Option Value)) (st : List Value) (M : jx_M) (Q : jx_Po), jx_Ev d 116 38 lv st M Q ↔ jx_Ev d 116 39 lv (.int 0 :: st) M Q) ∧
  (∀ (d : Nat) (lv : List (Option Value)) (M : jx_M) (Q : jx_Po) (x : Int32), jx_Ev d 116 39 lv [.int x] M Q ↔ ((x = 0 ∨ x = 1) ∧ Q [.int x] M)) := by
  refine ⟨?_, ?_, ?_, ?_, ?_, ?_, ?_, ?_, ?_, ?_, ?_, ?_, ?_, ?_, ?_, ?_, ?_, ?_, ?_, ?_, ?_, ?_, ?_⟩
  · exact fun d st M Q l1 l2 l3 l4 x => jx_ev_st (jx_fok (by decide +kernel : decode (jx_mb 116) 0 = .ok (.aload_n 0, 1))) rfl rfl rfl
  · exact fun d st M Q l0 l2 l3 l4 x => jx_ev_st (jx_fok (by decide +kernel : decode (jx_mb 116) 1 = .ok (.iload_n 1, 1))) rfl rfl rfl
  · exact fun d st M Q l0 l1 l2 l4 x => jx_ev_st (jx_fok (by decide +kernel : decode (jx_mb 116) 2 = .ok (.iload_n 3, 1))) rfl rfl rfl
  · exact fun d lv M Q a0 a1 => jx_ev_ci (jx_fok (by decide +kernel : decode (jx_mb 116) 3 = .ok (.invokevirtual 154, 3))) rfl (jx_ccV (As := [.int a1, .int a0]) (rest := []) rfl rfl rfl rfl rfl rfl) (by decide)
  · exact fun d st M Q l1 l2 l3 l4 x => jx_ev_st (jx_fok (by decide +kernel : decode (jx_mb 116) 6 = .ok (.aload_n 0, 1))) rfl rfl rfl
  · exact fun d st M Q l0 l1 l3 l4 x => jx_ev_st (jx_fok (by decide +kernel : decode (jx_mb 116) 7 = .ok (.iload_n 2, 1))) rfl rfl rfl
  · exact fun d st M Q l0 l1 l2 l4 x => jx_ev_st (jx_fok (by decide +kernel : decode (jx_mb 116) 8 = .ok (.iload_n 3, 1))) rfl rfl rfl
  · exact fun d lv M Q a0 a1 a3 => jx_ev_ci (jx_fok (by decide +kernel : decode (jx_mb 116) 9 = .ok (.invokevirtual 154, 3))) rfl (jx_ccV (As := [.int a1, .int a0]) (rest := [.int a3]) rfl rfl rfl rfl rfl rfl) (by decide)
  · exact fun d lv st M Q x z => jx_ev_st (jx_fok (by decide +kernel : decode (jx_mb 116) 12 = .ok (.isub, 1))) rfl rfl rfl
  · exact fun d st M Q l0 l1 l2 l3 l4 x => jx_ev_st (jx_fok (by decide +kernel : decode (jx_mb 116) 13 = .ok (.istore 4, 2))) rfl rfl rfl
  · exact fun d st M Q l0 l1 l2 l3 x => jx_ev_st (jx_fok (by decide +kernel : decode (jx_mb 116) 15 = .ok (.iload 4, 2))) rfl rfl rfl
  · exact fun d st M Q l1 l2 l3 l4 x => jx_ev_st (jx_fok (by decide +kernel : decode (jx_mb 116) 17 = .ok (.aload_n 0, 1))) rfl rfl rfl
  · exact fun d lv st M Q => jx_k_gf (jx_fok (by decide +kernel : decode (jx_mb 116) 18 = .ok (.getfield 116, 3))) rfl rfl rfl
  · exact fun d lv st M Q x z => jx_k_b2 (jx_fok (by decide +kernel : decode (jx_mb 116) 21 = .ok (.if_icmp .ge 13, 3))) rfl jx_hGe
  · exact fun d st M Q l0 l1 l2 l3 x => jx_ev_st (jx_fok (by decide +kernel : decode (jx_mb 116) 24 = .ok (.iload 4, 2))) rfl rfl rfl
  · exact fun d lv st M Q x => jx_ev_st (jx_fok (by decide +kernel : decode (jx_mb 116) 26 = .ok (.ineg, 1))) rfl rfl rfl
  · exact fun d st M Q l1 l2 l3 l4 x => jx_ev_st (jx_fok (by decide +kernel : decode (jx_mb 116) 27 = .ok (.aload_n 0, 1))) rfl rfl rfl
  · exact fun d lv st M Q => jx_k_gf (jx_fok (by decide +kernel : decode (jx_mb 116) 28 = .ok (.getfield 116, 3))) rfl rfl rfl
  · exact fun d lv st M Q x z => jx_k_b2 (jx_fok (by decide +kernel : decode (jx_mb 116) 31 = .ok (.if_icmp .lt 7, 3))) rfl jx_hLt
  · exact fun d lv st M Q => jx_ev_st (jx_fok (by decide +kernel : decode (jx_mb 116) 34 = .ok (.iconst 1, 1))) rfl rfl rfl
  · exact fun d lv st M Q => jx_k_goto (jx_fok (by decide +kernel : decode (jx_mb 116) 35 = .ok (.goto 4, 3))) rfl
  · exact fun d lv st M Q => jx_ev_st (jx_fok (by decide +kernel : decode (jx_mb 116) 38 = .ok (.iconst 0, 1))) rfl rfl rfl
  · exact fun d lv M Q x => jx_k_rz (jx_fok (by decide +kernel : decode (jx_mb 116) 39 = .ok (.ireturn, 1))) rfl
theorem kX8_isApart (d : Nat) (M : jx_M) (q : Int32 → jx_M → Prop) (a0 a1 a2 a3 : Value) : jx_I d 116 [a0, a1, a2, a3] M q ↔ jx_Ev d 116 0 [some a0, some a1, some a2, some a3, none] [] M (jx_qI q) := Iff.rfl
set_option maxRecDepth 100000 in
theorem eX8_shelf :
  (∀ (d : Nat) (st : List Value) (M : jx_M) (Q : jx_Po) (l1 l2 l3 l4 l5 l6 l7 l8 l9 l10 : Option Value) (x : Nat), jx_Ev d 117 0 [some (.ref x), l1, l2, l3, l4, l5, l6, l7, l8, l9, l10] st M Q ↔ jx_Ev d 117 1 [some (.ref x), l1, l2, l3, l4, l5, l6, l7, l8, l9, l10] (.ref x :: st) M Q) ∧
  (∀ (d : Nat) (lv : List (Option Value)) (st : List Value) (M : jx_M) (Q : jx_Po), jx_Ev d 117 1 lv st M Q ↔ jx_Ev d 117 2 lv (.int 0 :: st) M Q) ∧
  (∀ (d : Nat) (lv : List (Option Value)) (st : List Value) (M : jx_M) (Q : jx_Po) (x : Int32), jx_Ev d 117 2 lv (.int x :: .ref 36 :: st) M Q ↔ jx_Ev d 117 5 lv st (jx_up M 36 0 x) Q) ∧
  (∀ (d : Nat) (st : List Value) (M : jx_M) (Q : jx_Po) (l0 l1 l3 l4 l5 l6 l7 l8 l9 l10 : Option Value) (x : Int32), jx_Ev d 117 5 [l0, l1, some (.int x), l3, l4, l5, l6, l7, l8, l9, l10] st M Q ↔ jx_Ev d 117 6 [l0, l1, some (.int x), l3, l4, l5, l6, l7, l8, l9, l10] (.int x :: st) M Q) ∧
  (∀ (d : Nat) (lv : List (Option Value)) (M : jx_M) (Q : jx_Po) (a0 : Int32), jx_Ev (d + 1) 117 6 lv [.int a0] M Q ↔ jx_I d 87 [.int a0] M (fun x M => jx_Ev (d + 1) 117 9 lv (.int x :: []) M Q)) ∧
  (∀ (d : Nat) (lv : List (Option Value)) (st : List Value) (M : jx_M) (Q : jx_Po) (x : Int32), jx_Ev d 117 9 lv (.int x :: st) M Q ↔ (if x = 0 then jx_Ev d 117 12 lv st M Q else jx_Ev d 117 14 lv st M Q)) ∧
  (∀ (d : Nat) (lv : List (Option Value)) (st : List Value) (M : jx_M) (Q : jx_Po), jx_Ev d 117 12 lv st M Q ↔ jx_Ev d 117 13 lv (.int (-1) :: st) M Q) ∧
  (∀ (d : Nat) (lv : List (Option Value)) (M : jx_M) (Q : jx_Po) (x : Int32), jx_Ev d 117 13 lv [.int x] M Q ↔ Q [.int x] M) ∧
  (∀ (d : Nat) (st : List Value) (M : jx_M) (Q : jx_Po) (l0 l2 l3 l4 l5 l6 l7 l8 l9 l10 : Option Value) (x : Int32), jx_Ev d 117 14 [l0, some (.int x), l2, l3, l4, l5, l6, l7, l8, l9, l10] st M Q ↔ jx_Ev d 117 15 [l0, some (.int x), l2, l3, l4, l5, l6, l7, l8, l9, l10] (.int x :: st) M Q) ∧
  (∀ (d : Nat) (lv : List (Option Value)) (M : jx_M) (Q : jx_Po) (a0 : Int32), jx_Ev (d + 1) 117 15 lv [.int a0] M Q ↔ jx_I d 106 [.int a0] M (fun x M => jx_Ev (d + 1) 117 18 lv (.int x :: []) M Q)) ∧
  (∀ (d : Nat) (lv : List (Option Value)) (st : List Value) (M : jx_M) (Q : jx_Po) (x : Int32), jx_Ev d 117 18 lv (.int x :: st) M Q ↔ (if x = 0 then jx_Ev d 117 39 lv st M Q else jx_Ev d 117 21 lv st M Q)) ∧
  (∀ (d : Nat) (st : List Value) (M : jx_M) (Q : jx_Po) (l0 l1 l2 l4 l5 l6 l7 l8 l9 l10 : Option Value) (x : Int32), jx_Ev d 117 21 [l0, l1, l2, some (.int x), l4, l5, l6, l7, l8, l9, l10] st M Q ↔ jx_Ev d 117 22 [l0, l1, l2, some (.int x), l4, l5, l6, l7, l8, l9, l10] (.int x :: st) M Q) ∧
  (∀ (d : Nat) (lv : List (Option Value)) (M : jx_M) (Q : jx_Po) (a0 : Int32), jx_Ev (d + 1) 117 22 lv [.int a0] M Q ↔ jx_I d 88 [.int a0] M (fun x M => jx_Ev (d + 1) 117 25 lv (.int x :: []) M Q)) ∧
  (∀ (d : Nat) (lv : List (Option Value)) (st : List Value) (M : jx_M) (Q : jx_Po) (x : Int32), jx_Ev d 117 25 lv (.int x :: st) M Q ↔ (if x = 0 then jx_Ev d 117 39 lv st M Q else jx_Ev d 117 28 lv st M Q)) ∧
  (∀ (d : Nat) (st : List Value) (M : jx_M) (Q : jx_Po) (l0 l1 l2 l3 l4 l6 l7 l8 l9 l10 : Option Value) (x : Int32), jx_Ev d 117 28 [l0, l1, l2, l3, l4, some (.int x), l6, l7, l8, l9, l10] st M Q ↔ jx_Ev d 117 30 [l0, l1, l2, l3, l4, some (.int x), l6, l7, l8, l9, l10] (.int x :: st) M Q) ∧
  (∀ (d : Nat) (lv : List (Option Value)) (st : List Value) (M : jx_M) (Q : jx_Po), jx_Ev d 117 30 lv st M Q ↔ jx_Ev d 117 31 lv (.int 0 :: st) M Q) ∧
  (∀ (d : Nat) (lv : List (Option Value)) (st : List Value) (M : jx_M) (Q : jx_Po), jx_Ev d 117 31 lv st M Q ↔ jx_Ev d 117 33 lv (.int 20 :: st) M Q) ∧
  (∀ (d : Nat) (lv : List (Option Value)) (M : jx_M) (Q : jx_Po) (a0 : Int32) (a1 : Int32) (a2 : Int32), jx_Ev (d + 1) 117 33 lv [.int a0, .int a1, .int a2] M Q ↔ jx_I d 86 [.int a2, .int a1, .int a0] M (fun x M => jx_Ev (d + 1) 117 36 lv (.int x :: []) M Q)) ∧
  (∀ (d : Nat) (lv : List (Option Value)) (st : List Value) (M : jx_M) (Q : jx_Po) (x : Int32), jx_Ev d 117 36 lv (.int x :: st) M Q ↔ (if x = 0 then jx_Ev d 117 39 lv st M Q else jx_Ev d 117 42 lv st M Q)) ∧
  (∀ (d : Nat) (lv : List (Option Value)) (st : List Value) (M : jx_M) (Q : jx_Po), jx_Ev d 117 39 lv st M Q ↔ jx_Ev d 117 41 lv (.int (-2) :: st) M Q) ∧
  (∀ (d : Nat) (lv : List (Option Value)) (M : jx_M) (Q : jx_Po) (x : Int32), jx_Ev d 117 41 lv [.int x] M Q ↔ Q [.int x] M) ∧
  (∀ (d : Nat) (st : List Value) (M : jx_M) (Q : jx_Po) (l1 l2 l3 l4 l5 l6 l7 l8 l9 l10 : Option Value) (x : Nat), jx_Ev d 117 42 [some (.ref x), l1, l2, l3, l4, l5, l6, l7, l8, l9, l10] st M Q ↔ jx_Ev d 117 43 [some (.ref x), l1, l2, l3, l4, l5, l6, l7, l8, l9, l10] (.ref x :: st) M Q) ∧
  (∀ (d : Nat) (st : List Value) (M : jx_M) (Q : jx_Po) (l0 l1 l3 l4 l5 l6 l7 l8 l9 l10 : Option Value) (x : Int32), jx_Ev d 117 43 [l0, l1, some (.int x), l3, l4, l5, l6, l7, l8, l9, l10] st M Q ↔ jx_Ev d 117 44 [l0, l1, some (.int x), l3, l4, l5, l6, l7, l8, l9, l10] (.int x :: st) M Q) ∧
  (∀ (d : Nat) (st : List Value) (M : jx_M) (Q : jx_Po) (l0 l1 l2 l4 l5 l6 l7 l8 l9 l10 : Option Value) (x : Int32), jx_Ev d 117 44 [l0, l1, l2, some (.int x), l4, l5, l6, l7, l8, l9, l10] st M Q ↔ jx_Ev d 117 45 [l0, l1, l2, some (.int x), l4, l5, l6, l7, l8, l9, l10] (.int x :: st) M Q) ∧
  (∀ (d : Nat) (st : List Value) (M : jx_M) (Q : jx_Po) (l0 l1 l2 l3 l5 l6 l7 l8 l9 l10 : Option Value) (x : Int32), jx_Ev d 117 45 [l0, l1, l2, l3, some (.int x), l5, l6, l7, l8, l9, l10] st M Q ↔ jx_Ev d 117 47 [l0, l1, l2, l3, some (.int x), l5, l6, l7, l8, l9, l10] (.int x :: st) M Q) ∧
  (∀ (d : Nat) (st : List Value) (M : jx_M) (Q : jx_Po) (l0 l1 l2 l3 l4 l6 l7 l8 l9 l10 : Option Value) (x : Int32), jx_Ev d 117 47 [l0, l1, l2, l3, l4, some (.int x), l6, l7, l8, l9, l10] st M Q ↔ jx_Ev d 117 49 [l0, l1, l2, l3, l4, some (.int x), l6, l7, l8, l9, l10] (.int x :: st) M Q) ∧
  (∀ (d : Nat) (lv : List (Option Value)) (M : jx_M) (Q : jx_Po) (a0 : Int32) (a1 : Int32) (a2 : Int32) (a3 : Int32), jx_Ev (d + 1) 117 49 lv [.int a0, .int a1, .int a2, .int a3, .ref 36] M Q ↔ jx_I d 89 [.ref 36, .int a3, .int a2, .int a1, .int a0] M (fun x M => jx_Ev (d + 1) 117 52 lv (.int x :: []) M Q)) ∧
  (∀ (d : Nat) (st : List Value) (M : jx_M) (Q : jx_Po) (l0 l1 l2 l3 l4 l5 l6 l7 l8 l9 l10 : Option Value) (x : Int32), jx_Ev d 117 52 [l0, l1, l2, l3, l4, l5, l6, l7, l8, l9, l10] (.int x :: st) M Q ↔ jx_Ev d 117 54 [l0, l1, l2, l3, l4, l5, some (.int x), l7, l8, l9, l10] st M Q) ∧
  (∀ (d : Nat) (st : List Value) (M : jx_M) (Q : jx_Po) (l0 l1 l2 l3 l4 l5 l7 l8 l9 l10 : Option Value) (x : Int32), jx_Ev d 117 54 [l0, l1, l2, l3, l4, l5, some (.int x), l7, l8, l9, l10] st M Q ↔ jx_Ev d 117 56 [l0, l1, l2, l3, l4, l5, some (.int x), l7, l8, l9, l10] (.int x :: st) M Q) ∧
  (∀ (d : Nat) (lv : List (Option Value)) (st : List Value) (M : jx_M) (Q : jx_Po) (x : Int32), jx_Ev d 117 56 lv (.int x :: st) M Q ↔ (if x = 0 then jx_Ev d 117 66 lv st M Q else jx_Ev d 117 59 lv st M Q)) ∧
  (∀ (d : Nat) (st : List Value) (M : jx_M) (Q : jx_Po) (l1 l2 l3 l4 l5 l6 l7 l8 l9 l10 : Option Value) (x : Nat), jx_Ev d 117 59 [some (.ref x), l1, l2, l3, l4, l5, l6, l7, l8, l9, l10] st M Q ↔ jx_Ev d 117 60 [some (.ref x), l1, l2, l3, l4, l5, l6, l7, l8, l9, l10] (.ref x :: st) M Q) ∧
  (∀ (d : Nat) (st : List Value) (M : jx_M) (Q : jx_Po) (l0 l1 l2 l3 l4 l5 l7 l8 l9 l10 : Option Value) (x : Int32), jx_Ev d 117 60 [l0, l1, l2, l3, l4, l5, some (.int x), l7, l8, l9, l10] st M Q ↔ jx_Ev d 117 62 [l0, l1, l2, l3, l4, l5, some (.int x), l7, l8, l9, l10] (.int x :: st) M Q) ∧
  (∀ (d : Nat) (lv : List (Option Value)) (M : jx_M) (Q : jx_Po) (a0 : Int32), jx_Ev (d + 1) 117 62 lv [.int a0, .ref 36] M Q ↔ jx_I d 84 [.ref 36, .int a0] M (fun x M => jx_Ev (d + 1) 117 65 lv (.int x :: []) M Q)) ∧
  (∀ (d : Nat) (lv : List (Option Value)) (M : jx_M) (Q : jx_Po) (x : Int32), jx_Ev d 117 65 lv [.int x] M Q ↔ Q [.int x] M) ∧
  (∀ (d : Nat) (lv : List (Option Value)) (st : List Value) (M : jx_M) (Q : jx_Po), jx_Ev d 117 66 lv st M Q ↔ jx_Ev d 117 68 lv (.int 60 :: st) M Q) ∧
  (∀ (d : Nat) (st : List Value) (M : jx_M) (Q : jx_Po) (l0 l1 l3 l4 l5 l6 l7 l8 l9 l10 : Option Value) (x : Int32), jx_Ev d 117 68 [l0, l1, some (.int x), l3, l4, l5, l6, l7, l8, l9, l10] st M Q ↔ jx_Ev d 117 69 [l0, l1, some (.int x), l3, l4, l5, l6, l7, l8, l9, l10] (.int x :: st) M Q) ∧
  (∀ (d : Nat) (lv : List (Option Value)) (st : List Value) (M : jx_M) (Q : jx_Po) (x z : Int32), jx_Ev d 117 69 lv (.int z :: .int x :: st) M Q ↔ jx_Ev d 117 70 lv (.int (x * z) :: st) M Q) ∧
  (∀ (d : Nat) (st : List Value) (M : jx_M) (Q : jx_Po) (l0 l1 l2 l3 l5 l6 l7 l8 l9 l10 : Option Value) (x : Int32), jx_Ev d 117 70 [l0, l1, l2, l3, some (.int x), l5, l6, l7, l8, l9, l10] st M Q ↔ jx_Ev d 117 72 [l0, l1, l2, l3, some (.int x), l5, l6, l7, l8, l9, l10] (.int x :: st) M Q) ∧
  (∀ (d : Nat) (lv : List (Option Value)) (st : List Value) (M : jx_M) (Q : jx_Po) (x z : Int32), jx_Ev d 117 72 lv (.int z :: .int x :: st) M Q ↔ jx_Ev d 117 73 lv (.int (x + z) :: st) M Q) ∧
  (∀ (d : Nat) (st : List Value) (M : jx_M) (Q : jx_Po) (l0 l1 l2 l3 l4 l5 l6 l7 l8 l9 l10 : Option Value) (x : Int32), jx_Ev d 117 73 [l0, l1, l2, l3, l4, l5, l6, l7, l8, l9, l10] (.int x :: st) M Q ↔ jx_Ev d 117 75 [l0, l1, l2, l3, l4, l5, l6, some (.int x), l8, l9, l10] st M Q) ∧
  (∀ (d : Nat) (lv : List (Option Value)) (st : List Value) (M : jx_M) (Q : jx_Po), jx_Ev d 117 75 lv st M Q ↔ jx_Ev d 117 76 lv (.int 0 :: st) M Q) ∧
  (∀ (d : Nat) (st : List Value) (M : jx_M) (Q : jx_Po) (l0 l1 l2 l3 l4 l5 l6 l7 l8 l9 l10 : Option Value) (x : Int32), jx_Ev d 117 76 [l0, l1, l2, l3, l4, l5, l6, l7, l8, l9, l10] (.int x :: st) M Q ↔ jx_Ev d 117 78 [l0, l1, l2, l3, l4, l5, l6, l7, some (.int x), l9, l10] st M Q) ∧
  (∀ (d : Nat) (st : List Value) (M : jx_M) (Q : jx_Po) (l0 l1 l2 l3 l4 l6 l7 l8 l9 l10 : Option Value) (x : Int32), jx_Ev d 117 80 [l0, l1, l2, l3, l4, some (.int x), l6, l7, l8, l9, l10] st M Q ↔ jx_Ev d 117 82 [l0, l1, l2, l3, l4, some (.int x), l6, l7, l8, l9, l10] (.int x :: st) M Q) ∧
  (∀ (d : Nat) (lv : List (Option Value)) (st : List Value) (M : jx_M) (Q : jx_Po) (x z : Int32), jx_Ev d 117 82 lv (.int z :: .int x :: st) M Q ↔ (if z ≤ x then jx_Ev d 117 110 lv st M Q else jx_Ev d 117 85 lv st M Q)) ∧
  (∀ (d : Nat) (st : List Value) (M : jx_M) (Q : jx_Po) (l1 l2 l3 l4 l5 l6 l7 l8 l9 l10 : Option Value) (x : Nat), jx_Ev d 117 85 [some (.ref x), l1, l2, l3, l4, l5, l6, l7, l8, l9, l10] st M Q ↔ jx_Ev d 117 86 [some (.ref x), l1, l2, l3, l4, l5, l6, l7, l8, l9, l10] (.ref x :: st) M Q) ∧
  (∀ (d : Nat) (st : List Value) (M : jx_M) (Q : jx_Po) (l1 l2 l3 l4 l5 l6 l7 l8 l9 l10 : Option Value) (x : Nat), jx_Ev d 117 86 [some (.ref x), l1, l2, l3, l4, l5, l6, l7, l8, l9, l10] st M Q ↔ jx_Ev d 117 87 [some (.ref x), l1, l2, l3, l4, l5, l6, l7, l8, l9, l10] (.ref x :: st) M Q) ∧
  (∀ (d : Nat) (lv : List (Option Value)) (st : List Value) (M : jx_M) (Q : jx_Po), jx_Ev d 117 87 lv (.ref 36 :: st) M Q ↔ jx_Ev d 117 90 lv (.ref 39 :: st) M Q) ∧
  (∀ (d : Nat) (st : List Value) (M : jx_M) (Q : jx_Po) (l0 l1 l2 l3 l4 l5 l6 l8 l9 l10 : Option Value) (x : Int32), jx_Ev d 117 90 [l0, l1, l2, l3, l4, l5, l6, some (.int x), l8, l9, l10] st M Q ↔ jx_Ev d 117 92 [l0, l1, l2, l3, l4, l5, l6, some (.int x), l8, l9, l10] (.int x :: st) M Q) ∧
  (∀ (d : Nat) (st : List Value) (M : jx_M) (Q : jx_Po) (l0 l1 l2 l3 l4 l5 l6 l7 l9 l10 : Option Value) (x : Int32), jx_Ev d 117 92 [l0, l1, l2, l3, l4, l5, l6, l7, some (.int x), l9, l10] st M Q ↔ jx_Ev d 117 94 [l0, l1, l2, l3, l4, l5, l6, l7, some (.int x), l9, l10] (.int x :: st) M Q) ∧
  (∀ (d : Nat) (lv : List (Option Value)) (st : List Value) (M : jx_M) (Q : jx_Po) (x z : Int32), jx_Ev d 117 94 lv (.int z :: .int x :: st) M Q ↔ jx_Ev d 117 95 lv (.int (x + z) :: st) M Q) ∧
  (∀ (d : Nat) (lv : List (Option Value)) (st : List Value) (M : jx_M) (Q : jx_Po) (x : Int32) (a : Nat) (ha : jx_cl a = 9), jx_Ev d 117 95 lv (.int x :: .ref a :: st) M Q ↔ (vp_in x (jx_sz a) ∧ jx_Ev d 117 96 lv (.int (M a x.toNatClampNeg) :: st) M Q)) ∧
  (∀ (d : Nat) (lv : List (Option Value)) (M : jx_M) (Q : jx_Po) (a0 : Int32), jx_Ev (d + 1) 117 96 lv [.int a0, .ref 36] M Q ↔ jx_I d 91 [.ref 36, .int a0] M (fun x M => jx_Ev (d + 1) 117 99 lv (.int x :: []) M Q)) ∧
  (∀ (d : Nat) (lv : List (Option Value)) (st : List Value) (M : jx_M) (Q : jx_Po) (x : Int32), jx_Ev d 117 99 lv (.int x :: st) M Q ↔ (if x = 0 then jx_Ev d 117 102 lv st M Q else jx_Ev d 117 104 lv st M Q)) ∧
  (∀ (d : Nat) (lv : List (Option Value)) (st : List Value) (M : jx_M) (Q : jx_Po), jx_Ev d 117 102 lv st M Q ↔ jx_Ev d 117 103 lv (.int (-1) :: st) M Q) ∧
  (∀ (d : Nat) (lv : List (Option Value)) (M : jx_M) (Q : jx_Po) (x : Int32), jx_Ev d 117 103 lv [.int x] M Q ↔ Q [.int x] M) ∧
  (∀ (d : Nat) (st : List Value) (M : jx_M) (Q : jx_Po) (l0 l1 l2 l3 l4 l5 l6 l7 l9 l10 : Option Value) (x : Int32), jx_Ev d 117 104 [l0, l1, l2, l3, l4, l5, l6, l7, some (.int x), l9, l10] st M Q ↔ jx_Ev d 117 107 [l0, l1, l2, l3, l4, l5, l6, l7, some (.int (x + 1)), l9, l10] st M Q) ∧
  (∀ (d : Nat) (lv : List (Option Value)) (st : List Value) (M : jx_M) (Q : jx_Po), jx_Ev d 117 107 lv st M Q ↔ jx_Ev d 117 78 lv st M Q) ∧
  (∀ (d : Nat) (lv : List (Option Value)) (st : List Value) (M : jx_M) (Q : jx_Po), jx_Ev d 117 110 lv st M Q ↔ jx_Ev d 117 111 lv (.int 0 :: st) M Q) ∧
  (∀ (d : Nat) (st : List Value) (M : jx_M) (Q : jx_Po) (l0 l1 l2 l3 l4 l5 l6 l7 l8 l9 l10 : Option Value) (x : Int32), jx_Ev d 117 111 [l0, l1, l2, l3, l4, l5, l6, l7, l8, l9, l10] (.int x :: st) M Q ↔ jx_Ev d 117 113 [l0, l1, l2, l3, l4, l5, l6, l7, some (.int x), l9, l10] st M Q) ∧
  (∀ (d : Nat) (lv : List (Option Value)) (st : List Value) (M : jx_M) (Q : jx_Po), jx_Ev d 117 113 lv st M Q ↔ jx_Ev d 117 114 lv (.int 0 :: st) M Q) ∧
  (∀ (d : Nat) (st : List Value) (M : jx_M) (Q : jx_Po) (l0 l1 l2 l3 l4 l5 l6 l7 l8 l9 l10 : Option Value) (x : Int32), jx_Ev d 117 114 [l0, l1, l2, l3, l4, l5, l6, l7, l8, l9, l10] (.int x :: st) M Q ↔ jx_Ev d 117 116 [l0, l1, l2, l3, l4, l5, l6, l7, l8, some (.int x), l10] st M Q) ∧
  (∀ (d : Nat) (st : List Value) (M : jx_M) (Q : jx_Po) (l0 l1 l2 l3 l4 l6 l7 l8 l9 l10 : Option Value) (x : Int32), jx_Ev d 117 118 [l0, l1, l2, l3, l4, some (.int x), l6, l7, l8, l9, l10] st M Q ↔ jx_Ev d 117 120 [l0, l1, l2, l3, l4, some (.int x), l6, l7, l8, l9, l10] (.int x :: st) M Q) ∧
  (∀ (d : Nat) (lv : List (Option Value)) (st : List Value) (M : jx_M) (Q : jx_Po) (x z : Int32), jx_Ev d 117 120 lv (.int z :: .int x :: st) M Q ↔ (if z ≤ x then jx_Ev d 117 191 lv st M Q else jx_Ev d 117 123 lv st M Q)) ∧
  (∀ (d : Nat) (st : List Value) (M : jx_M) (Q : jx_Po) (l1 l2 l3 l4 l5 l6 l7 l8 l9 l10 : Option Value) (x : Nat), jx_Ev d 117 123 [some (.ref x), l1, l2, l3, l4, l5, l6, l7, l8, l9, l10] st M Q ↔ jx_Ev d 117 124 [some (.ref x), l1, l2, l3, l4, l5, l6, l7, l8, l9, l10] (.ref x :: st) M Q) ∧
  (∀ (d : Nat) (lv : List (Option Value)) (st : List Value) (M : jx_M) (Q : jx_Po), jx_Ev d 117 124 lv (.ref 36 :: st) M Q ↔ jx_Ev d 117 127 lv (.ref 39 :: st) M Q) ∧
  (∀ (d : Nat) (st : List Value) (M : jx_M) (Q : jx_Po) (l0 l1 l2 l3 l4 l5 l6 l8 l9 l10 : Option Value) (x : Int32), jx_Ev d 117 127 [l0, l1, l2, l3, l4, l5, l6, some (.int x), l8, l9, l10] st M Q ↔ jx_Ev d 117 129 [l0, l1, l2, l3, l4, l5, l6, some (.int x), l8, l9, l10] (.int x :: st) M Q) ∧
  (∀ (d : Nat) (st : List Value) (M : jx_M) (Q : jx_Po) (l0 l1 l2 l3 l4 l5 l6 l7 l8 l10 : Option Value) (x : Int32), jx_Ev d 117 129 [l0, l1, l2, l3, l4, l5, l6, l7, l8, some (.int x), l10] st M Q ↔ jx_Ev d 117 131 [l0, l1, l2, l3, l4, l5, l6, l7, l8, some (.int x), l10] (.int x :: st) M Q) ∧
  (∀ (d : Nat) (lv : List (Option Value)) (st : List Value) (M : jx_M) (Q : jx_Po) (x z : Int32), jx_Ev d 117 131 lv (.int z :: .int x :: st) M Q ↔ jx_Ev d 117 132 lv (.int (x + z) :: st) M Q) ∧
  (∀ (d : Nat) (lv : List (Option Value)) (st : List Value) (M : jx_M) (Q : jx_Po) (x : Int32) (a : Nat) (ha : jx_cl a = 9), jx_Ev d 117 132 lv (.int x :: .ref a :: st) M Q ↔ (vp_in x (jx_sz a) ∧ jx_Ev d 117 133 lv (.int (M a x.toNatClampNeg) :: st) M Q)) ∧
  (∀ (d : Nat) (st : List Value) (M : jx_M) (Q : jx_Po) (l0 l1 l2 l3 l4 l5 l6 l7 l8 l9 l10 : Option Value) (x : Int32), jx_Ev d 117 133 [l0, l1, l2, l3, l4, l5, l6, l7, l8, l9, l10] (.int x :: st) M Q ↔ jx_Ev d 117 135 [l0, l1, l2, l3, l4, l5, l6, l7, l8, l9, some (.int x)] st M Q) ∧
  (∀ (d : Nat) (st : List Value) (M : jx_M) (Q : jx_Po) (l0 l1 l2 l3 l4 l5 l6 l7 l9 l10 : Option Value) (x : Int32), jx_Ev d 117 135 [l0, l1, l2, l3, l4, l5, l6, l7, some (.int x), l9, l10] st M Q ↔ jx_Ev d 117 137 [l0, l1, l2, l3, l4, l5, l6, l7, some (.int x), l9, l10] (.int x :: st) M Q) ∧
  (∀ (d : Nat) (st : List Value) (M : jx_M) (Q : jx_Po) (l0 l1 l2 l3 l4 l5 l6 l7 l8 l9 : Option Value) (x : Int32), jx_Ev d 117 137 [l0, l1, l2, l3, l4, l5, l6, l7, l8, l9, some (.int x)] st M Q ↔ jx_Ev d 117 139 [l0, l1, l2, l3, l4, l5, l6, l7, l8, l9, some (.int x)] (.int x :: st) M Q) ∧
  (∀ (d : Nat) (lv : List (Option Value)) (st : List Value) (M : jx_M) (Q : jx_Po) (x z : Int32), jx_Ev d 117 139 lv (.int z :: .int x :: st) M Q ↔ jx_Ev d 117 140 lv (.int (x >>> (z &&& 31)) :: st) M Q) ∧
  (∀ (d : Nat) (lv : List (Option Value)) (st : List Value) (M : jx_M) (Q : jx_Po), jx_Ev d 117 140 lv st M Q ↔ jx_Ev d 117 141 lv (.int 1 :: st) M Q) ∧
  (∀ (d : Nat) (lv : List (Option Value)) (st : List Value) (M : jx_M) (Q : jx_Po) (x z : Int32), jx_Ev d 117 141 lv (.int z :: .int x :: st) M Q ↔ jx_Ev d 117 142 lv (.int (x &&& z) :: st) M Q) ∧
  (∀ (d : Nat) (lv : List (Option Value)) (st : List Value) (M : jx_M) (Q : jx_Po), jx_Ev d 117 142 lv st M Q ↔ jx_Ev d 117 143 lv (.int 1 :: st) M Q) ∧
  (∀ (d : Nat) (lv : List (Option Value)) (st : List Value) (M : jx_M) (Q : jx_Po) (x z : Int32), jx_Ev d 117 143 lv (.int z :: .int x :: st) M Q ↔ (if x = z then jx_Ev d 117 173 lv st M Q else jx_Ev d 117 146 lv st M Q)) ∧
  (∀ (d : Nat) (st : List Value) (M : jx_M) (Q : jx_Po) (l0 l1 l2 l3 l4 l5 l6 l7 l8 l10 : Option Value) (x : Int32), jx_Ev d 117 146 [l0, l1, l2, l3, l4, l5, l6, l7, l8, some (.int x), l10] st M Q ↔ jx_Ev d 117 148 [l0, l1, l2, l3, l4, l5, l6, l7, l8, some (.int x), l10] (.int x :: st) M Q) ∧
  (∀ (d : Nat) (lv : List (Option Value)) (st : List Value) (M : jx_M) (Q : jx_Po) (x : Int32), jx_Ev d 117 148 lv (.int x :: st) M Q ↔ (if x ≤ 0 then jx_Ev d 117 176 lv st M Q else jx_Ev d 117 151 lv st M Q)) ∧
  (∀ (d : Nat) (st : List Value) (M : jx_M) (Q : jx_Po) (l1 l2 l3 l4 l5 l6 l7 l8 l9 l10 : Option Value) (x : Nat), jx_Ev d 117 151 [some (.ref x), l1, l2, l3, l4, l5, l6, l7, l8, l9, l10] st M Q ↔ jx_Ev d 117 152 [some (.ref x), l1, l2, l3, l4, l5, l6, l7, l8, l9, l10] (.ref x :: st) M Q) ∧
  (∀ (d : Nat) (st : List Value) (M : jx_M) (Q : jx_Po) (l1 l2 l3 l4 l5 l6 l7 l8 l9 l10 : Option Value) (x : Nat), jx_Ev d 117 152 [some (.ref x), l1, l2, l3, l4, l5, l6, l7, l8, l9, l10] st M Q ↔ jx_Ev d 117 153 [some (.ref x), l1, l2, l3, l4, l5, l6, l7, l8, l9, l10] (.ref x :: st) M Q) ∧
  (∀ (d : Nat) (lv : List (Option Value)) (st : List Value) (M : jx_M) (Q : jx_Po), jx_Ev d 117 153 lv (.ref 36 :: st) M Q ↔ jx_Ev d 117 156 lv (.ref 39 :: st) M Q) ∧
  (∀ (d : Nat) (st : List Value) (M : jx_M) (Q : jx_Po) (l0 l1 l2 l3 l4 l5 l6 l8 l9 l10 : Option Value) (x : Int32), jx_Ev d 117 156 [l0, l1, l2, l3, l4, l5, l6, some (.int x), l8, l9, l10] st M Q ↔ jx_Ev d 117 158 [l0, l1, l2, l3, l4, l5, l6, some (.int x), l8, l9, l10] (.int x :: st) M Q) ∧
  (∀ (d : Nat) (st : List Value) (M : jx_M) (Q : jx_Po) (l0 l1 l2 l3 l4 l5 l6 l7 l8 l10 : Option Value) (x : Int32), jx_Ev d 117 158 [l0, l1, l2, l3, l4, l5, l6, l7, l8, some (.int x), l10] st M Q ↔ jx_Ev d 117 160 [l0, l1, l2, l3, l4, l5, l6, l7, l8, some (.int x), l10] (.int x :: st) M Q) ∧
  (∀ (d : Nat) (lv : List (Option Value)) (st : List Value) (M : jx_M) (Q : jx_Po) (x z : Int32), jx_Ev d 117 160 lv (.int z :: .int x :: st) M Q ↔ jx_Ev d 117 161 lv (.int (x + z) :: st) M Q) ∧
  (∀ (d : Nat) (lv : List (Option Value)) (st : List Value) (M : jx_M) (Q : jx_Po), jx_Ev d 117 161 lv st M Q ↔ jx_Ev d 117 162 lv (.int 1 :: st) M Q) ∧
  (∀ (d : Nat) (lv : List (Option Value)) (st : List Value) (M : jx_M) (Q : jx_Po) (x z : Int32), jx_Ev d 117 162 lv (.int z :: .int x :: st) M Q ↔ jx_Ev d 117 163 lv (.int (x - z) :: st) M Q) ∧
  (∀ (d : Nat) (lv : List (Option Value)) (st : List Value) (M : jx_M) (Q : jx_Po) (x : Int32) (a : Nat) (ha : jx_cl a = 9), jx_Ev d 117 163 lv (.int x :: .ref a :: st) M Q ↔ (vp_in x (jx_sz a) ∧ jx_Ev d 117 164 lv (.int (M a x.toNatClampNeg) :: st) M Q)) ∧
  (∀ (d : Nat) (st : List Value) (M : jx_M) (Q : jx_Po) (l0 l1 l2 l3 l4 l5 l6 l7 l8 l9 : Option Value) (x : Int32), jx_Ev d 117 164 [l0, l1, l2, l3, l4, l5, l6, l7, l8, l9, some (.int x)] st M Q ↔ jx_Ev d 117 166 [l0, l1, l2, l3, l4, l5, l6, l7, l8, l9, some (.int x)] (.int x :: st) M Q) ∧
  (∀ (d : Nat) (st : List Value) (M : jx_M) (Q : jx_Po) (l0 l2 l3 l4 l5 l6 l7 l8 l9 l10 : Option Value) (x : Int32), jx_Ev d 117 166 [l0, some (.int x), l2, l3, l4, l5, l6, l7, l8, l9, l10] st M Q ↔ jx_Ev d 117 167 [l0, some (.int x), l2, l3, l4, l5, l6, l7, l8, l9, l10] (.int x :: st) M Q) ∧
  (∀ (d : Nat) (lv : List (Option Value)) (M : jx_M) (Q : jx_Po) (a0 : Int32) (a1 : Int32) (a2 : Int32), jx_Ev (d + 1) 117 167 lv [.int a0, .int a1, .int a2, .ref 36] M Q ↔ jx_I d 116 [.ref 36, .int a2, .int a1, .int a0] M (fun x M => jx_Ev (d + 1) 117 170 lv (.int x :: []) M Q)) ∧
  (∀ (d : Nat) (lv : List (Option Value)) (st : List Value) (M : jx_M) (Q : jx_Po) (x : Int32), jx_Ev d 117 170 lv (.int x :: st) M Q ↔ (if x = 0 then jx_Ev d 117 173 lv st M Q else jx_Ev d 117 176 lv st M Q)) ∧
  (∀ (d : Nat) (st : List Value) (M : jx_M) (Q : jx_Po) (l0 l1 l2 l3 l4 l5 l6 l7 l8 l10 : Option Value) (x : Int32), jx_Ev d 117 173 [l0, l1, l2, l3, l4, l5, l6, l7, l8, some (.int x), l10] st M Q ↔ jx_Ev d 117 175 [l0, l1, l2, l3, l4, l5, l6, l7, l8, some (.int x), l10] (.int x :: st) M Q) ∧
  (∀ (d : Nat) (lv : List (Option Value)) (M : jx_M) (Q : jx_Po) (x : Int32), jx_Ev d 117 175 lv [.int x] M Q ↔ Q [.int x] M) ∧
  (∀ (d : Nat) (st : List Value) (M : jx_M) (Q : jx_Po) (l0 l1 l2 l3 l4 l5 l6 l7 l9 l10 : Option Value) (x : Int32), jx_Ev d 117 176 [l0, l1, l2, l3, l4, l5, l6, l7, some (.int x), l9, l10] st M Q ↔ jx_Ev d 117 178 [l0, l1, l2, l3, l4, l5, l6, l7, some (.int x), l9, l10] (.int x :: st) M Q) ∧
  (∀ (d : Nat) (lv : List (Option Value)) (st : List Value) (M : jx_M) (Q : jx_Po), jx_Ev d 117 178 lv st M Q ↔ jx_Ev d 117 179 lv (.int 1 :: st) M Q) ∧
  (∀ (d : Nat) (st : List Value) (M : jx_M) (Q : jx_Po) (l0 l1 l2 l3 l4 l5 l6 l7 l8 l9 : Option Value) (x : Int32), jx_Ev d 117 179 [l0, l1, l2, l3, l4, l5, l6, l7, l8, l9, some (.int x)] st M Q ↔ jx_Ev d 117 181 [l0, l1, l2, l3, l4, l5, l6, l7, l8, l9, some (.int x)] (.int x :: st) M Q) ∧
  (∀ (d : Nat) (lv : List (Option Value)) (st : List Value) (M : jx_M) (Q : jx_Po) (x z : Int32), jx_Ev d 117 181 lv (.int z :: .int x :: st) M Q ↔ jx_Ev d 117 182 lv (.int (x <<< (z &&& 31)) :: st) M Q) ∧
  (∀ (d : Nat) (lv : List (Option Value)) (st : List Value) (M : jx_M) (Q : jx_Po) (x z : Int32), jx_Ev d 117 182 lv (.int z :: .int x :: st) M Q ↔ jx_Ev d 117 183 lv (.int (x ||| z) :: st) M Q) ∧
  (∀ (d : Nat) (st : List Value) (M : jx_M) (Q : jx_Po) (l0 l1 l2 l3 l4 l5 l6 l7 l8 l9 l10 : Option Value) (x : Int32), jx_Ev d 117 183 [l0, l1, l2, l3, l4, l5, l6, l7, l8, l9, l10] (.int x :: st) M Q ↔ jx_Ev d 117 185 [l0, l1, l2, l3, l4, l5, l6, l7, some (.int x), l9, l10] st M Q) ∧
  (∀ (d : Nat) (st : List Value) (M : jx_M) (Q : jx_Po) (l0 l1 l2 l3 l4 l5 l6 l7 l8 l10 : Option Value) (x : Int32), jx_Ev d 117 185 [l0, l1, l2, l3, l4, l5, l6, l7, l8, some (.int x), l10] st M Q ↔ jx_Ev d 117 188 [l0, l1, l2, l3, l4, l5, l6, l7, l8, some (.int (x + 1)), l10] st M Q) ∧
  (∀ (d : Nat) (lv : List (Option Value)) (st : List Value) (M : jx_M) (Q : jx_Po), jx_Ev d 117 188 lv st M Q ↔ jx_Ev d 117 116 lv st M Q) ∧
  (∀ (d : Nat) (lv : List (Option Value)) (st : List Value) (M : jx_M) (Q : jx_Po), jx_Ev d 117 191 lv st M Q ↔ jx_Ev d 117 193 lv (.int (-9) :: st) M Q) ∧
  (∀ (d : Nat) (lv : List (Option Value)) (M : jx_M) (Q : jx_Po) (x : Int32), jx_Ev d 117 193 lv [.int x] M Q ↔ Q [.int x] M) := by
  refine ⟨?_, ?_, ?_, ?_, ?_, ?_, ?_, ?_, ?_, ?_, ?_, ?_, ?_, ?_, ?_, ?_, ?_, ?_, ?_, ?_, ?_, ?_, ?_, ?_, ?_, ?_, ?_, ?_, ?_, ?_, ?_, ?_, ?_, ?_, ?_, ?_, ?_, ?_, ?_, ?_, ?_, ?_, ?_, ?_, ?_, ?_, ?_, ?_, ?_, ?_, ?_, ?_, ?_, ?_, ?_, ?_, ?_, ?_, ?_, ?_, ?_, ?_, ?_, ?_, ?_, ?_, ?_, ?_, ?_, ?_, ?_, ?_, ?_, ?_, ?_, ?_, ?_, ?_, ?_, ?_, ?_, ?_, ?_, ?_, ?_, ?_, ?_, ?_, ?_, ?_, ?_, ?_, ?_, ?_, ?_, ?_, ?_, ?_, ?_, ?_, ?_, ?_, ?_, ?_⟩
  · exact fun d st M Q l1 l2 l3 l4 l5 l6 l7 l8 l9 l10 x => jx_ev_st (jx_fok (by decide +kernel : decode (jx_mb 117) 0 = .ok (.aload_n 0, 1))) rfl rfl rfl
  · exact fun d lv st M Q => jx_ev_st (jx_fok (by decide +kernel : decode (jx_mb 117) 1 = .ok (.iconst 0, 1))) rfl rfl rfl
  · exact fun d lv st M Q x => jx_k_pf0 (jx_fok (by decide +kernel : decode (jx_mb 117) 2 = .ok (.putfield 67, 3))) rfl rfl rfl
  · exact fun d st M Q l0 l1 l3 l4 l5 l6 l7 l8 l9 l10 x => jx_ev_st (jx_fok (by decide +kernel : decode (jx_mb 117) 5 = .ok (.iload_n 2, 1))) rfl rfl rfl
  · exact fun d lv M Q a0 => jx_ev_ci (jx_fok (by decide +kernel : decode (jx_mb 117) 6 = .ok (.invokestatic 86, 3))) rfl (jx_ccS (As := [.int a0]) (rest := []) rfl rfl rfl rfl rfl) (by decide)
  · exact fun d lv st M Q x => jx_k_b1n (jx_fok (by decide +kernel : decode (jx_mb 117) 9 = .ok (.ifCond .ne 5, 3))) rfl jx_hNe
  · exact fun d lv st M Q => jx_ev_st (jx_fok (by decide +kernel : decode (jx_mb 117) 12 = .ok (.iconst (-1), 1))) rfl rfl rfl
  · exact fun d lv M Q x => jx_k_ri (jx_fok (by decide +kernel : decode (jx_mb 117) 13 = .ok (.ireturn, 1))) rfl
  · exact fun d st M Q l0 l2 l3 l4 l5 l6 l7 l8 l9 l10 x => jx_ev_st (jx_fok (by decide +kernel : decode (jx_mb 117) 14 = .ok (.iload_n 1, 1))) rfl rfl rfl
  · exact fun d lv M Q a0 => jx_ev_ci (jx_fok (by decide +kernel : decode (jx_mb 117) 15 = .ok (.invokestatic 151, 3))) rfl (jx_ccS (As := [.int a0]) (rest := []) rfl rfl rfl rfl rfl) (by decide)
  · exact fun d lv st M Q x => jx_k_b1 (jx_fok (by decide +kernel : decode (jx_mb 117) 18 = .ok (.ifCond .eq 21, 3))) rfl jx_hEq
  · exact fun d st M Q l0 l1 l2 l4 l5 l6 l7 l8 l9 l10 x => jx_ev_st (jx_fok (by decide +kernel : decode (jx_mb 117) 21 = .ok (.iload_n 3, 1))) rfl rfl rfl
  · exact fun d lv M Q a0 => jx_ev_ci (jx_fok (by decide +kernel : decode (jx_mb 117) 22 = .ok (.invokestatic 90, 3))) rfl (jx_ccS (As := [.int a0]) (rest := []) rfl rfl rfl rfl rfl) (by decide)
  · exact fun d lv st M Q x => jx_k_b1 (jx_fok (by decide +kernel : decode (jx_mb 117) 25 = .ok (.ifCond .eq 14, 3))) rfl jx_hEq
  · exact fun d st M Q l0 l1 l2 l3 l4 l6 l7 l8 l9 l10 x => jx_ev_st (jx_fok (by decide +kernel : decode (jx_mb 117) 28 = .ok (.iload 5, 2))) rfl rfl rfl
  · exact fun d lv st M Q => jx_ev_st (jx_fok (by decide +kernel : decode (jx_mb 117) 30 = .ok (.iconst 0, 1))) rfl rfl rfl
  · exact fun d lv st M Q => jx_ev_st (jx_fok (by decide +kernel : decode (jx_mb 117) 31 = .ok (.bipush 20, 2))) rfl rfl rfl
  · exact fun d lv M Q a0 a1 a2 => jx_ev_ci (jx_fok (by decide +kernel : decode (jx_mb 117) 33 = .ok (.invokestatic 73, 3))) rfl (jx_ccS (As := [.int a2, .int a1, .int a0]) (rest := []) rfl rfl rfl rfl rfl) (by decide)
  · exact fun d lv st M Q x => jx_k_b1n (jx_fok (by decide +kernel : decode (jx_mb 117) 36 = .ok (.ifCond .ne 6, 3))) rfl jx_hNe
  · exact fun d lv st M Q => jx_ev_st (jx_fok (by decide +kernel : decode (jx_mb 117) 39 = .ok (.bipush (-2), 2))) rfl rfl rfl
  · exact fun d lv M Q x => jx_k_ri (jx_fok (by decide +kernel : decode (jx_mb 117) 41 = .ok (.ireturn, 1))) rfl
  · exact fun d st M Q l1 l2 l3 l4 l5 l6 l7 l8 l9 l10 x => jx_ev_st (jx_fok (by decide +kernel : decode (jx_mb 117) 42 = .ok (.aload_n 0, 1))) rfl rfl rfl
  · exact fun d st M Q l0 l1 l3 l4 l5 l6 l7 l8 l9 l10 x => jx_ev_st (jx_fok (by decide +kernel : decode (jx_mb 117) 43 = .ok (.iload_n 2, 1))) rfl rfl rfl
  · exact fun d st M Q l0 l1 l2 l4 l5 l6 l7 l8 l9 l10 x => jx_ev_st (jx_fok (by decide +kernel : decode (jx_mb 117) 44 = .ok (.iload_n 3, 1))) rfl rfl rfl
  · exact fun d st M Q l0 l1 l2 l3 l5 l6 l7 l8 l9 l10 x => jx_ev_st (jx_fok (by decide +kernel : decode (jx_mb 117) 45 = .ok (.iload 4, 2))) rfl rfl rfl
  · exact fun d st M Q l0 l1 l2 l3 l4 l6 l7 l8 l9 l10 x => jx_ev_st (jx_fok (by decide +kernel : decode (jx_mb 117) 47 = .ok (.iload 5, 2))) rfl rfl rfl
  · exact fun d lv M Q a0 a1 a2 a3 => jx_ev_ci (jx_fok (by decide +kernel : decode (jx_mb 117) 49 = .ok (.invokevirtual 93, 3))) rfl (jx_ccV (As := [.int a3, .int a2, .int a1, .int a0]) (rest := []) rfl rfl rfl rfl rfl rfl) (by decide)
  · exact fun d st M Q l0 l1 l2 l3 l4 l5 l6 l7 l8 l9 l10 x => jx_ev_st (jx_fok (by decide +kernel : decode (jx_mb 117) 52 = .ok (.istore 6, 2))) rfl rfl rfl
  · exact fun d st M Q l0 l1 l2 l3 l4 l5 l7 l8 l9 l10 x => jx_ev_st (jx_fok (by decide +kernel : decode (jx_mb 117) 54 = .ok (.iload 6, 2))) rfl rfl rfl
  · exact fun d lv st M Q x => jx_k_b1 (jx_fok (by decide +kernel : decode (jx_mb 117) 56 = .ok (.ifCond .eq 10, 3))) rfl jx_hEq
  · exact fun d st M Q l1 l2 l3 l4 l5 l6 l7 l8 l9 l10 x => jx_ev_st (jx_fok (by decide +kernel : decode (jx_mb 117) 59 = .ok (.aload_n 0, 1))) rfl rfl rfl
  · exact fun d st M Q l0 l1 l2 l3 l4 l5 l7 l8 l9 l10 x => jx_ev_st (jx_fok (by decide +kernel : decode (jx_mb 117) 60 = .ok (.iload 6, 2))) rfl rfl rfl
  · exact fun d lv M Q a0 => jx_ev_ci (jx_fok (by decide +kernel : decode (jx_mb 117) 62 = .ok (.invokevirtual 97, 3))) rfl (jx_ccV (As := [.int a0]) (rest := []) rfl rfl rfl rfl rfl rfl) (by decide)
  · exact fun d lv M Q x => jx_k_ri (jx_fok (by decide +kernel : decode (jx_mb 117) 65 = .ok (.ireturn, 1))) rfl
  · exact fun d lv st M Q => jx_ev_st (jx_fok (by decide +kernel : decode (jx_mb 117) 66 = .ok (.bipush 60, 2))) rfl rfl rfl
  · exact fun d st M Q l0 l1 l3 l4 l5 l6 l7 l8 l9 l10 x => jx_ev_st (jx_fok (by decide +kernel : decode (jx_mb 117) 68 = .ok (.iload_n 2, 1))) rfl rfl rfl
  · exact fun d lv st M Q x z => jx_ev_st (jx_fok (by decide +kernel : decode (jx_mb 117) 69 = .ok (.imul, 1))) rfl rfl rfl
  · exact fun d st M Q l0 l1 l2 l3 l5 l6 l7 l8 l9 l10 x => jx_ev_st (jx_fok (by decide +kernel : decode (jx_mb 117) 70 = .ok (.iload 4, 2))) rfl rfl rfl
  · exact fun d lv st M Q x z => jx_ev_st (jx_fok (by decide +kernel : decode (jx_mb 117) 72 = .ok (.iadd, 1))) rfl rfl rfl
  · exact fun d st M Q l0 l1 l2 l3 l4 l5 l6 l7 l8 l9 l10 x => jx_ev_st (jx_fok (by decide +kernel : decode (jx_mb 117) 73 = .ok (.istore 7, 2))) rfl rfl rfl
  · exact fun d lv st M Q => jx_ev_st (jx_fok (by decide +kernel : decode (jx_mb 117) 75 = .ok (.iconst 0, 1))) rfl rfl rfl
  · exact fun d st M Q l0 l1 l2 l3 l4 l5 l6 l7 l8 l9 l10 x => jx_ev_st (jx_fok (by decide +kernel : decode (jx_mb 117) 76 = .ok (.istore 8, 2))) rfl rfl rfl
  · exact fun d st M Q l0 l1 l2 l3 l4 l6 l7 l8 l9 l10 x => jx_ev_st (jx_fok (by decide +kernel : decode (jx_mb 117) 80 = .ok (.iload 5, 2))) rfl rfl rfl
  · exact fun d lv st M Q x z => jx_k_b2 (jx_fok (by decide +kernel : decode (jx_mb 117) 82 = .ok (.if_icmp .ge 28, 3))) rfl jx_hGe
  · exact fun d st M Q l1 l2 l3 l4 l5 l6 l7 l8 l9 l10 x => jx_ev_st (jx_fok (by decide +kernel : decode (jx_mb 117) 85 = .ok (.aload_n 0, 1))) rfl rfl rfl
  · exact fun d st M Q l1 l2 l3 l4 l5 l6 l7 l8 l9 l10 x => jx_ev_st (jx_fok (by decide +kernel : decode (jx_mb 117) 86 = .ok (.aload_n 0, 1))) rfl rfl rfl
  · exact fun d lv st M Q => jx_k_gf (jx_fok (by decide +kernel : decode (jx_mb 117) 87 = .ok (.getfield 16, 3))) rfl rfl rfl
  · exact fun d st M Q l0 l1 l2 l3 l4 l5 l6 l8 l9 l10 x => jx_ev_st (jx_fok (by decide +kernel : decode (jx_mb 117) 90 = .ok (.iload 7, 2))) rfl rfl rfl
  · exact fun d st M Q l0 l1 l2 l3 l4 l5 l6 l7 l9 l10 x => jx_ev_st (jx_fok (by decide +kernel : decode (jx_mb 117) 92 = .ok (.iload 8, 2))) rfl rfl rfl
  · exact fun d lv st M Q x z => jx_ev_st (jx_fok (by decide +kernel : decode (jx_mb 117) 94 = .ok (.iadd, 1))) rfl rfl rfl
  · exact fun d lv st M Q x a ha => jx_k_al (jx_fok (by decide +kernel : decode (jx_mb 117) 95 = .ok (.iaload, 1))) ha
  · exact fun d lv M Q a0 => jx_ev_ci (jx_fok (by decide +kernel : decode (jx_mb 117) 96 = .ok (.invokevirtual 148, 3))) rfl (jx_ccV (As := [.int a0]) (rest := []) rfl rfl rfl rfl rfl rfl) (by decide)
  · exact fun d lv st M Q x => jx_k_b1n (jx_fok (by decide +kernel : decode (jx_mb 117) 99 = .ok (.ifCond .ne 5, 3))) rfl jx_hNe
  · exact fun d lv st M Q => jx_ev_st (jx_fok (by decide +kernel : decode (jx_mb 117) 102 = .ok (.iconst (-1), 1))) rfl rfl rfl
  · exact fun d lv M Q x => jx_k_ri (jx_fok (by decide +kernel : decode (jx_mb 117) 103 = .ok (.ireturn, 1))) rfl
  · exact fun d st M Q l0 l1 l2 l3 l4 l5 l6 l7 l9 l10 x => jx_ev_st (jx_fok (by decide +kernel : decode (jx_mb 117) 104 = .ok (.iinc 8 1, 3))) rfl rfl rfl
  · exact fun d lv st M Q => jx_k_goto (jx_fok (by decide +kernel : decode (jx_mb 117) 107 = .ok (.goto (-29), 3))) rfl
  · exact fun d lv st M Q => jx_ev_st (jx_fok (by decide +kernel : decode (jx_mb 117) 110 = .ok (.iconst 0, 1))) rfl rfl rfl
  · exact fun d st M Q l0 l1 l2 l3 l4 l5 l6 l7 l8 l9 l10 x => jx_ev_st (jx_fok (by decide +kernel : decode (jx_mb 117) 111 = .ok (.istore 8, 2))) rfl rfl rfl
  · exact fun d lv st M Q => jx_ev_st (jx_fok (by decide +kernel : decode (jx_mb 117) 113 = .ok (.iconst 0, 1))) rfl rfl rfl
  · exact fun d st M Q l0 l1 l2 l3 l4 l5 l6 l7 l8 l9 l10 x => jx_ev_st (jx_fok (by decide +kernel : decode (jx_mb 117) 114 = .ok (.istore 9, 2))) rfl rfl rfl
  · exact fun d st M Q l0 l1 l2 l3 l4 l6 l7 l8 l9 l10 x => jx_ev_st (jx_fok (by decide +kernel : decode (jx_mb 117) 118 = .ok (.iload 5, 2))) rfl rfl rfl
  · exact fun d lv st M Q x z => jx_k_b2 (jx_fok (by decide +kernel : decode (jx_mb 117) 120 = .ok (.if_icmp .ge 71, 3))) rfl jx_hGe
  · exact fun d st M Q l1 l2 l3 l4 l5 l6 l7 l8 l9 l10 x => jx_ev_st (jx_fok (by decide +kernel : decode (jx_mb 117) 123 = .ok (.aload_n 0, 1))) rfl rfl rfl
  · exact fun d lv st M Q => jx_k_gf (jx_fok (by decide +kernel : decode (jx_mb 117) 124 = .ok (.getfield 16, 3))) rfl rfl rfl
  · exact fun d st M Q l0 l1 l2 l3 l4 l5 l6 l8 l9 l10 x => jx_ev_st (jx_fok (by decide +kernel : decode (jx_mb 117) 127 = .ok (.iload 7, 2))) rfl rfl rfl
  · exact fun d st M Q l0 l1 l2 l3 l4 l5 l6 l7 l8 l10 x => jx_ev_st (jx_fok (by decide +kernel : decode (jx_mb 117) 129 = .ok (.iload 9, 2))) rfl rfl rfl
  · exact fun d lv st M Q x z => jx_ev_st (jx_fok (by decide +kernel : decode (jx_mb 117) 131 = .ok (.iadd, 1))) rfl rfl rfl
  · exact fun d lv st M Q x a ha => jx_k_al (jx_fok (by decide +kernel : decode (jx_mb 117) 132 = .ok (.iaload, 1))) ha
  · exact fun d st M Q l0 l1 l2 l3 l4 l5 l6 l7 l8 l9 l10 x => jx_ev_st (jx_fok (by decide +kernel : decode (jx_mb 117) 133 = .ok (.istore 10, 2))) rfl rfl rfl
  · exact fun d st M Q l0 l1 l2 l3 l4 l5 l6 l7 l9 l10 x => jx_ev_st (jx_fok (by decide +kernel : decode (jx_mb 117) 135 = .ok (.iload 8, 2))) rfl rfl rfl
  · exact fun d st M Q l0 l1 l2 l3 l4 l5 l6 l7 l8 l9 x => jx_ev_st (jx_fok (by decide +kernel : decode (jx_mb 117) 137 = .ok (.iload 10, 2))) rfl rfl rfl
  · exact fun d lv st M Q x z => jx_ev_st (jx_fok (by decide +kernel : decode (jx_mb 117) 139 = .ok (.ishr, 1))) rfl rfl rfl
  · exact fun d lv st M Q => jx_ev_st (jx_fok (by decide +kernel : decode (jx_mb 117) 140 = .ok (.iconst 1, 1))) rfl rfl rfl
  · exact fun d lv st M Q x z => jx_ev_st (jx_fok (by decide +kernel : decode (jx_mb 117) 141 = .ok (.iand, 1))) rfl rfl rfl
  · exact fun d lv st M Q => jx_ev_st (jx_fok (by decide +kernel : decode (jx_mb 117) 142 = .ok (.iconst 1, 1))) rfl rfl rfl
  · exact fun d lv st M Q x z => jx_k_b2 (jx_fok (by decide +kernel : decode (jx_mb 117) 143 = .ok (.if_icmp .eq 30, 3))) rfl jx_hEq
  · exact fun d st M Q l0 l1 l2 l3 l4 l5 l6 l7 l8 l10 x => jx_ev_st (jx_fok (by decide +kernel : decode (jx_mb 117) 146 = .ok (.iload 9, 2))) rfl rfl rfl
  · exact fun d lv st M Q x => jx_k_b1 (jx_fok (by decide +kernel : decode (jx_mb 117) 148 = .ok (.ifCond .le 28, 3))) rfl jx_hLe
  · exact fun d st M Q l1 l2 l3 l4 l5 l6 l7 l8 l9 l10 x => jx_ev_st (jx_fok (by decide +kernel : decode (jx_mb 117) 151 = .ok (.aload_n 0, 1))) rfl rfl rfl
  · exact fun d st M Q l1 l2 l3 l4 l5 l6 l7 l8 l9 l10 x => jx_ev_st (jx_fok (by decide +kernel : decode (jx_mb 117) 152 = .ok (.aload_n 0, 1))) rfl rfl rfl
  · exact fun d lv st M Q => jx_k_gf (jx_fok (by decide +kernel : decode (jx_mb 117) 153 = .ok (.getfield 16, 3))) rfl rfl rfl
  · exact fun d st M Q l0 l1 l2 l3 l4 l5 l6 l8 l9 l10 x => jx_ev_st (jx_fok (by decide +kernel : decode (jx_mb 117) 156 = .ok (.iload 7, 2))) rfl rfl rfl
  · exact fun d st M Q l0 l1 l2 l3 l4 l5 l6 l7 l8 l10 x => jx_ev_st (jx_fok (by decide +kernel : decode (jx_mb 117) 158 = .ok (.iload 9, 2))) rfl rfl rfl
  · exact fun d lv st M Q x z => jx_ev_st (jx_fok (by decide +kernel : decode (jx_mb 117) 160 = .ok (.iadd, 1))) rfl rfl rfl
  · exact fun d lv st M Q => jx_ev_st (jx_fok (by decide +kernel : decode (jx_mb 117) 161 = .ok (.iconst 1, 1))) rfl rfl rfl
  · exact fun d lv st M Q x z => jx_ev_st (jx_fok (by decide +kernel : decode (jx_mb 117) 162 = .ok (.isub, 1))) rfl rfl rfl
  · exact fun d lv st M Q x a ha => jx_k_al (jx_fok (by decide +kernel : decode (jx_mb 117) 163 = .ok (.iaload, 1))) ha
  · exact fun d st M Q l0 l1 l2 l3 l4 l5 l6 l7 l8 l9 x => jx_ev_st (jx_fok (by decide +kernel : decode (jx_mb 117) 164 = .ok (.iload 10, 2))) rfl rfl rfl
  · exact fun d st M Q l0 l2 l3 l4 l5 l6 l7 l8 l9 l10 x => jx_ev_st (jx_fok (by decide +kernel : decode (jx_mb 117) 166 = .ok (.iload_n 1, 1))) rfl rfl rfl
  · exact fun d lv M Q a0 a1 a2 => jx_ev_ci (jx_fok (by decide +kernel : decode (jx_mb 117) 167 = .ok (.invokevirtual 170, 3))) rfl (jx_ccV (As := [.int a2, .int a1, .int a0]) (rest := []) rfl rfl rfl rfl rfl rfl) (by decide)
  · exact fun d lv st M Q x => jx_k_b1n (jx_fok (by decide +kernel : decode (jx_mb 117) 170 = .ok (.ifCond .ne 6, 3))) rfl jx_hNe
  · exact fun d st M Q l0 l1 l2 l3 l4 l5 l6 l7 l8 l10 x => jx_ev_st (jx_fok (by decide +kernel : decode (jx_mb 117) 173 = .ok (.iload 9, 2))) rfl rfl rfl
  · exact fun d lv M Q x => jx_k_ri (jx_fok (by decide +kernel : decode (jx_mb 117) 175 = .ok (.ireturn, 1))) rfl
  · exact fun d st M Q l0 l1 l2 l3 l4 l5 l6 l7 l9 l10 x => jx_ev_st (jx_fok (by decide +kernel : decode (jx_mb 117) 176 = .ok (.iload 8, 2))) rfl rfl rfl
  · exact fun d lv st M Q => jx_ev_st (jx_fok (by decide +kernel : decode (jx_mb 117) 178 = .ok (.iconst 1, 1))) rfl rfl rfl
  · exact fun d st M Q l0 l1 l2 l3 l4 l5 l6 l7 l8 l9 x => jx_ev_st (jx_fok (by decide +kernel : decode (jx_mb 117) 179 = .ok (.iload 10, 2))) rfl rfl rfl
  · exact fun d lv st M Q x z => jx_ev_st (jx_fok (by decide +kernel : decode (jx_mb 117) 181 = .ok (.ishl, 1))) rfl rfl rfl
  · exact fun d lv st M Q x z => jx_ev_st (jx_fok (by decide +kernel : decode (jx_mb 117) 182 = .ok (.ior, 1))) rfl rfl rfl
  · exact fun d st M Q l0 l1 l2 l3 l4 l5 l6 l7 l8 l9 l10 x => jx_ev_st (jx_fok (by decide +kernel : decode (jx_mb 117) 183 = .ok (.istore 8, 2))) rfl rfl rfl
  · exact fun d st M Q l0 l1 l2 l3 l4 l5 l6 l7 l8 l10 x => jx_ev_st (jx_fok (by decide +kernel : decode (jx_mb 117) 185 = .ok (.iinc 9 1, 3))) rfl rfl rfl
  · exact fun d lv st M Q => jx_k_goto (jx_fok (by decide +kernel : decode (jx_mb 117) 188 = .ok (.goto (-72), 3))) rfl
  · exact fun d lv st M Q => jx_ev_st (jx_fok (by decide +kernel : decode (jx_mb 117) 191 = .ok (.bipush (-9), 2))) rfl rfl rfl
  · exact fun d lv M Q x => jx_k_ri (jx_fok (by decide +kernel : decode (jx_mb 117) 193 = .ok (.ireturn, 1))) rfl
theorem eX8_shelf_78 (d : Nat) (st : List Value) (M : jx_M) (Q : jx_Po) (l0 l1 l2 l3 l4 l5 l6 l7 l9 l10 : Option Value) (x : Int32) : jx_Ev d 117 78 [l0, l1, l2, l3, l4, l5, l6, l7, some (.int x), l9, l10] st M Q ↔ jx_Ev d 117 80 [l0, l1, l2, l3, l4, l5, l6, l7, some (.int x), l9, l10] (.int x :: st) M Q := jx_ev_st (jx_fok (by decide +kernel : decode (jx_mb 117) 78 = .ok (.iload 8, 2))) rfl rfl rfl
theorem eX8_shelf_116 (d : Nat) (st : List Value) (M : jx_M) (Q : jx_Po) (l0 l1 l2 l3 l4 l5 l6 l7 l8 l10 : Option Value) (x : Int32) : jx_Ev d 117 116 [l0, l1, l2, l3, l4, l5, l6, l7, l8, some (.int x), l10] st M Q ↔ jx_Ev d 117 118 [l0, l1, l2, l3, l4, l5, l6, l7, l8, some (.int x), l10] (.int x :: st) M Q := jx_ev_st (jx_fok (by decide +kernel : decode (jx_mb 117) 116 = .ok (.iload 9, 2))) rfl rfl rfl
theorem kX8_shelf (d : Nat) (M : jx_M) (q : Int32 → jx_M → Prop) (a0 a1 a2 a3 a4 a5 : Value) : jx_I d 117 [a0, a1, a2, a3, a4, a5] M q ↔ jx_Ev d 117 0 [some a0, some a1, some a2, some a3, some a4, some a5, none, none, none, none, none] [] M (jx_qI q) := Iff.rfl
set_option maxRecDepth 100000 in
theorem eX8_mayStand :
  (∀ (d : Nat) (lv : List (Option Value)) (st : List Value) (M : jx_M) (Q : jx_Po), jx_Ev d 118 0 lv st M Q ↔ jx_Ev d 118 1 lv (.int 0 :: st) M Q) ∧
  (∀ (d : Nat) (st : List Value) (M : jx_M) (Q : jx_Po) (l0 l1 l2 l3 : Option Value) (x : Int32), jx_Ev d 118 1 [l0, l1, l2, l3] (.int x :: st) M Q ↔ jx_Ev d 118 2 [l0, l1, l2, some (.int x)] st M Q) ∧
  (∀ (d : Nat) (st : List Value) (M : jx_M) (Q : jx_Po) (l0 l2 l3 : Option Value) (x : Int32), jx_Ev d 118 3 [l0, some (.int x), l2, l3] st M Q ↔ jx_Ev d 118 4 [l0, some (.int x), l2, l3] (.int x :: st) M Q) ∧
  (∀ (d : Nat) (lv : List (Option Value)) (st : List Value) (M : jx_M) (Q : jx_Po) (x z : Int32), jx_Ev d 118 4 lv (.int z :: .int x :: st) M Q ↔ (if z ≤ x then jx_Ev d 118 30 lv st M Q else jx_Ev d 118 7 lv st M Q)) ∧
  (∀ (d : Nat) (st : List Value) (M : jx_M) (Q : jx_Po) (l1 l2 l3 : Option Value) (x : Nat), jx_Ev d 118 7 [some (.ref x), l1, l2, l3] st M Q ↔ jx_Ev d 118 8 [some (.ref x), l1, l2, l3] (.ref x :: st) M Q) ∧
  (∀ (d : Nat) (lv : List (Option Value)) (st : List Value) (M : jx_M) (Q : jx_Po), jx_Ev d 118 8 lv (.ref 36 :: st) M Q ↔ jx_Ev d 118 11 lv (.ref 52 :: st) M Q) ∧
  (∀ (d : Nat) (st : List Value) (M : jx_M) (Q : jx_Po) (l0 l1 l2 : Option Value) (x : Int32), jx_Ev d 118 11 [l0, l1, l2, some (.int x)] st M Q ↔ jx_Ev d 118 12 [l0, l1, l2, some (.int x)] (.int x :: st) M Q) ∧
  (∀ (d : Nat) (lv : List (Option Value)) (st : List Value) (M : jx_M) (Q : jx_Po) (x : Int32) (a : Nat) (ha : jx_cl a = 9), jx_Ev d 118 12 lv (.int x :: .ref a :: st) M Q ↔ (vp_in x (jx_sz a) ∧ jx_Ev d 118 13 lv (.int (M a x.toNatClampNeg) :: st) M Q)) ∧
  (∀ (d : Nat) (st : List Value) (M : jx_M) (Q : jx_Po) (l1 l2 l3 : Option Value) (x : Nat), jx_Ev d 118 13 [some (.ref x), l1, l2, l3] st M Q ↔ jx_Ev d 118 14 [some (.ref x), l1, l2, l3] (.ref x :: st) M Q) ∧
  (∀ (d : Nat) (lv : List (Option Value)) (st : List Value) (M : jx_M) (Q : jx_Po), jx_Ev d 118 14 lv (.ref 36 :: st) M Q ↔ jx_Ev d 118 17 lv (.ref 52 :: st) M Q) ∧
  (∀ (d : Nat) (st : List Value) (M : jx_M) (Q : jx_Po) (l0 l2 l3 : Option Value) (x : Int32), jx_Ev d 118 17 [l0, some (.int x), l2, l3] st M Q ↔ jx_Ev d 118 18 [l0, some (.int x), l2, l3] (.int x :: st) M Q) ∧
  (∀ (d : Nat) (lv : List (Option Value)) (st : List Value) (M : jx_M) (Q : jx_Po) (x : Int32) (a : Nat) (ha : jx_cl a = 9), jx_Ev d 118 18 lv (.int x :: .ref a :: st) M Q ↔ (vp_in x (jx_sz a) ∧ jx_Ev d 118 19 lv (.int (M a x.toNatClampNeg) :: st) M Q)) ∧
  (∀ (d : Nat) (lv : List (Option Value)) (st : List Value) (M : jx_M) (Q : jx_Po) (x z : Int32), jx_Ev d 118 19 lv (.int z :: .int x :: st) M Q ↔ (if x = z then jx_Ev d 118 22 lv st M Q else jx_Ev d 118 24 lv st M Q)) ∧
  (∀ (d : Nat) (lv : List (Option Value)) (st : List Value) (M : jx_M) (Q : jx_Po), jx_Ev d 118 22 lv st M Q ↔ jx_Ev d 118 23 lv (.int 0 :: st) M Q) ∧
  (∀ (d : Nat) (lv : List (Option Value)) (M : jx_M) (Q : jx_Po) (x : Int32), jx_Ev d 118 23 lv [.int x] M Q ↔ ((x = 0 ∨ x = 1) ∧ Q [.int x] M)) ∧
  (∀ (d : Nat) (st : List Value) (M : jx_M) (Q : jx_Po) (l0 l1 l2 : Option Value) (x : Int32), jx_Ev d 118 24 [l0, l1, l2, some (.int x)] st M Q ↔ jx_Ev d 118 27 [l0, l1, l2, some (.int (x + 1))] st M Q) ∧
  (∀ (d : Nat) (lv : List (Option Value)) (st : List Value) (M : jx_M) (Q : jx_Po), jx_Ev d 118 27 lv st M Q ↔ jx_Ev d 118 2 lv st M Q) ∧
  (∀ (d : Nat) (st : List Value) (M : jx_M) (Q : jx_Po) (l0 l2 l3 : Option Value) (x : Int32), jx_Ev d 118 30 [l0, some (.int x), l2, l3] st M Q ↔ jx_Ev d 118 31 [l0, some (.int x), l2, l3] (.int x :: st) M Q) ∧
  (∀ (d : Nat) (lv : List (Option Value)) (st : List Value) (M : jx_M) (Q : jx_Po) (x : Int32), jx_Ev d 118 31 lv (.int x :: st) M Q ↔ (if x = 0 then jx_Ev d 118 56 lv st M Q else jx_Ev d 118 34 lv st M Q)) ∧
  (∀ (d : Nat) (st : List Value) (M : jx_M) (Q : jx_Po) (l1 l2 l3 : Option Value) (x : Nat), jx_Ev d 118 34 [some (.ref x), l1, l2, l3] st M Q ↔ jx_Ev d 118 35 [some (.ref x), l1, l2, l3] (.ref x :: st) M Q) ∧
  (∀ (d : Nat) (st : List Value) (M : jx_M) (Q : jx_Po) (l1 l2 l3 : Option Value) (x : Nat), jx_Ev d 118 35 [some (.ref x), l1, l2, l3] st M Q ↔ jx_Ev d 118 36 [some (.ref x), l1, l2, l3] (.ref x :: st) M Q) ∧
  (∀ (d : Nat) (lv : List (Option Value)) (st : List Value) (M : jx_M) (Q : jx_Po), jx_Ev d 118 36 lv (.ref 36 :: st) M Q ↔ jx_Ev d 118 39 lv (.ref 52 :: st) M Q) ∧
  (∀ (d : Nat) (st : List Value) (M : jx_M) (Q : jx_Po) (l0 l2 l3 : Option Value) (x : Int32), jx_Ev d 118 39 [l0, some (.int x), l2, l3] st M Q ↔ jx_Ev d 118 40 [l0, some (.int x), l2, l3] (.int x :: st) M Q) ∧
  (∀ (d : Nat) (lv : List (Option Value)) (st : List Value) (M : jx_M) (Q : jx_Po), jx_Ev d 118 40 lv st M Q ↔ jx_Ev d 118 41 lv (.int 1 :: st) M Q) ∧
  (∀ (d : Nat) (lv : List (Option Value)) (st : List Value) (M : jx_M) (Q : jx_Po) (x z : Int32), jx_Ev d 118 41 lv (.int z :: .int x :: st) M Q ↔ jx_Ev d 118 42 lv (.int (x - z) :: st) M Q) ∧
  (∀ (d : Nat) (lv : List (Option Value)) (st : List Value) (M : jx_M) (Q : jx_Po) (x : Int32) (a : Nat) (ha : jx_cl a = 9), jx_Ev d 118 42 lv (.int x :: .ref a :: st) M Q ↔ (vp_in x (jx_sz a) ∧ jx_Ev d 118 43 lv (.int (M a x.toNatClampNeg) :: st) M Q)) ∧
  (∀ (d : Nat) (st : List Value) (M : jx_M) (Q : jx_Po) (l1 l2 l3 : Option Value) (x : Nat), jx_Ev d 118 43 [some (.ref x), l1, l2, l3] st M Q ↔ jx_Ev d 118 44 [some (.ref x), l1, l2, l3] (.ref x :: st) M Q) ∧
  (∀ (d : Nat) (lv : List (Option Value)) (st : List Value) (M : jx_M) (Q : jx_Po), jx_Ev d 118 44 lv (.ref 36 :: st) M Q ↔ jx_Ev d 118 47 lv (.ref 52 :: st) M Q) ∧
  (∀ (d : Nat) (st : List Value) (M : jx_M) (Q : jx_Po) (l0 l2 l3 : Option Value) (x : Int32), jx_Ev d 118 47 [l0, some (.int x), l2, l3] st M Q ↔ jx_Ev d 118 48 [l0, some (.int x), l2, l3] (.int x :: st) M Q) ∧
  (∀ (d : Nat) (lv : List (Option Value)) (st : List Value) (M : jx_M) (Q : jx_Po) (x : Int32) (a : Nat) (ha : jx_cl a = 9), jx_Ev d 118 48 lv (.int x :: .ref a :: st) M Q ↔ (vp_in x (jx_sz a) ∧ jx_Ev d 118 49 lv (.int (M a x.toNatClampNeg) :: st) M Q)) ∧
  (∀ (d : Nat) (st : List Value) (M : jx_M) (Q : jx_Po) (l0 l1 l3 : Option Value) (x : Int32), jx_Ev d 118 49 [l0, l1, some (.int x), l3] st M Q ↔ jx_Ev d 118 50 [l0, l1, some (.int x), l3] (.int x :: st) M Q) ∧
  (∀ (d : Nat) (lv : List (Option Value)) (M : jx_M) (Q : jx_Po) (a0 : Int32) (a1 : Int32) (a2 : Int32), jx_Ev (d + 1) 118 50 lv [.int a0, .int a1, .int a2, .ref 36] M Q ↔ jx_I d 116 [.ref 36, .int a2, .int a1, .int a0] M (fun x M => jx_Ev (d + 1) 118 53 lv (.int x :: []) M Q)) ∧
  (∀ (d : Nat) (lv : List (Option Value)) (st : List Value) (M : jx_M) (Q : jx_Po) (x : Int32), jx_Ev d 118 53 lv (.int x :: st) M Q ↔ (if x = 0 then jx_Ev d 118 60 lv st M Q else jx_Ev d 118 56 lv st M Q)) ∧
  (∀ (d : Nat) (lv : List (Option Value)) (st : List Value) (M : jx_M) (Q : jx_Po), jx_Ev d 118 56 lv st M Q ↔ jx_Ev d 118 57 lv (.int 1 :: st) M Q) ∧
  (∀ (d : Nat) (lv : List (Option Value)) (st : List Value) (M : jx_M) (Q : jx_Po), jx_Ev d 118 57 lv st M Q ↔ jx_Ev d 118 61 lv st M Q) ∧
  (∀ (d : Nat) (lv : List (Option Value)) (st : List Value) (M : jx_M) (Q : jx_Po), jx_Ev d 118 60 lv st M Q ↔ jx_Ev d 118 61 lv (.int 0 :: st) M Q) ∧
  (∀ (d : Nat) (lv : List (Option Value)) (M : jx_M) (Q : jx_Po) (x : Int32), jx_Ev d 118 61 lv [.int x] M Q ↔ ((x = 0 ∨ x = 1) ∧ Q [.int x] M)) := by
  refine ⟨?_, ?_, ?_, ?_, ?_, ?_, ?_, ?_, ?_, ?_, ?_, ?_, ?_, ?_, ?_, ?_, ?_, ?_, ?_, ?_, ?_, ?_, ?_, ?_, ?_, ?_, ?_, ?_, ?_, ?_, ?_, ?_, ?_, ?_, ?_, ?_, ?_⟩
  · exact fun d lv st M Q => jx_ev_st (jx_fok (by decide +kernel : decode (jx_mb 118) 0 = .ok (.iconst 0, 1))) rfl rfl rfl
  · exact fun d st M Q l0 l1 l2 l3 x => jx_ev_st (jx_fok (by decide +kernel : decode (jx_mb 118) 1 = .ok (.istore_n 3, 1))) rfl rfl rfl
  · exact fun d st M Q l0 l2 l3 x => jx_ev_st (jx_fok (by decide +kernel : decode (jx_mb 118) 3 = .ok (.iload_n 1, 1))) rfl rfl rfl
  · exact fun d lv st M Q x z => jx_k_b2 (jx_fok (by decide +kernel : decode (jx_mb 118) 4 = .ok (.if_icmp .ge 26, 3))) rfl jx_hGe
  · exact fun d st M Q l1 l2 l3 x => jx_ev_st (jx_fok (by decide +kernel : decode (jx_mb 118) 7 = .ok (.aload_n 0, 1))) rfl rfl rfl
  · exact fun d lv st M Q => jx_k_gf (jx_fok (by decide +kernel : decode (jx_mb 118) 8 = .ok (.getfield 55, 3))) rfl rfl rfl
  · exact fun d st M Q l0 l1 l2 x => jx_ev_st (jx_fok (by decide +kernel : decode (jx_mb 118) 11 = .ok (.iload_n 3, 1))) rfl rfl rfl
  · exact fun d lv st M Q x a ha => jx_k_al (jx_fok (by decide +kernel : decode (jx_mb 118) 12 = .ok (.iaload, 1))) ha
  · exact fun d st M Q l1 l2 l3 x => jx_ev_st (jx_fok (by decide +kernel : decode (jx_mb 118) 13 = .ok (.aload_n 0, 1))) rfl rfl rfl
  · exact fun d lv st M Q => jx_k_gf (jx_fok (by decide +kernel : decode (jx_mb 118) 14 = .ok (.getfield 55, 3))) rfl rfl rfl
  · exact fun d st M Q l0 l2 l3 x => jx_ev_st (jx_fok (by decide +kernel : decode (jx_mb 118) 17 = .ok (.iload_n 1, 1))) rfl rfl rfl
  · exact fun d lv st M Q x a ha => jx_k_al (jx_fok (by decide +kernel : decode (jx_mb 118) 18 = .ok (.iaload, 1))) ha
  · exact fun d lv st M Q x z => jx_k_b2n (jx_fok (by decide +kernel : decode (jx_mb 118) 19 = .ok (.if_icmp .ne 5, 3))) rfl jx_hNe
  · exact fun d lv st M Q => jx_ev_st (jx_fok (by decide +kernel : decode (jx_mb 118) 22 = .ok (.iconst 0, 1))) rfl rfl rfl
  · exact fun d lv M Q x => jx_k_rz (jx_fok (by decide +kernel : decode (jx_mb 118) 23 = .ok (.ireturn, 1))) rfl
  · exact fun d st M Q l0 l1 l2 x => jx_ev_st (jx_fok (by decide +kernel : decode (jx_mb 118) 24 = .ok (.iinc 3 1, 3))) rfl rfl rfl
  · exact fun d lv st M Q => jx_k_goto (jx_fok (by decide +kernel : decode (jx_mb 118) 27 = .ok (.goto (-25), 3))) rfl
  · exact fun d st M Q l0 l2 l3 x => jx_ev_st (jx_fok (by decide +kernel : decode (jx_mb 118) 30 = .ok (.iload_n 1, 1))) rfl rfl rfl
  · exact fun d lv st M Q x => jx_k_b1 (jx_fok (by decide +kernel : decode (jx_mb 118) 31 = .ok (.ifCond .eq 25, 3))) rfl jx_hEq
  · exact fun d st M Q l1 l2 l3 x => jx_ev_st (jx_fok (by decide +kernel : decode (jx_mb 118) 34 = .ok (.aload_n 0, 1))) rfl rfl rfl
  · exact fun d st M Q l1 l2 l3 x => jx_ev_st (jx_fok (by decide +kernel : decode (jx_mb 118) 35 = .ok (.aload_n 0, 1))) rfl rfl rfl
  · exact fun d lv st M Q => jx_k_gf (jx_fok (by decide +kernel : decode (jx_mb 118) 36 = .ok (.getfield 55, 3))) rfl rfl rfl
  · exact fun d st M Q l0 l2 l3 x => jx_ev_st (jx_fok (by decide +kernel : decode (jx_mb 118) 39 = .ok (.iload_n 1, 1))) rfl rfl rfl
  · exact fun d lv st M Q => jx_ev_st (jx_fok (by decide +kernel : decode (jx_mb 118) 40 = .ok (.iconst 1, 1))) rfl rfl rfl
  · exact fun d lv st M Q x z => jx_ev_st (jx_fok (by decide +kernel : decode (jx_mb 118) 41 = .ok (.isub, 1))) rfl rfl rfl
  · exact fun d lv st M Q x a ha => jx_k_al (jx_fok (by decide +kernel : decode (jx_mb 118) 42 = .ok (.iaload, 1))) ha
  · exact fun d st M Q l1 l2 l3 x => jx_ev_st (jx_fok (by decide +kernel : decode (jx_mb 118) 43 = .ok (.aload_n 0, 1))) rfl rfl rfl
  · exact fun d lv st M Q => jx_k_gf (jx_fok (by decide +kernel : decode (jx_mb 118) 44 = .ok (.getfield 55, 3))) rfl rfl rfl
  · exact fun d st M Q l0 l2 l3 x => jx_ev_st (jx_fok (by decide +kernel : decode (jx_mb 118) 47 = .ok (.iload_n 1, 1))) rfl rfl rfl
  · exact fun d lv st M Q x a ha => jx_k_al (jx_fok (by decide +kernel : decode (jx_mb 118) 48 = .ok (.iaload, 1))) ha
  · exact fun d st M Q l0 l1 l3 x => jx_ev_st (jx_fok (by decide +kernel : decode (jx_mb 118) 49 = .ok (.iload_n 2, 1))) rfl rfl rfl
  · exact fun d lv M Q a0 a1 a2 => jx_ev_ci (jx_fok (by decide +kernel : decode (jx_mb 118) 50 = .ok (.invokevirtual 170, 3))) rfl (jx_ccV (As := [.int a2, .int a1, .int a0]) (rest := []) rfl rfl rfl rfl rfl rfl) (by decide)
  · exact fun d lv st M Q x => jx_k_b1 (jx_fok (by decide +kernel : decode (jx_mb 118) 53 = .ok (.ifCond .eq 7, 3))) rfl jx_hEq
  · exact fun d lv st M Q => jx_ev_st (jx_fok (by decide +kernel : decode (jx_mb 118) 56 = .ok (.iconst 1, 1))) rfl rfl rfl
  · exact fun d lv st M Q => jx_k_goto (jx_fok (by decide +kernel : decode (jx_mb 118) 57 = .ok (.goto 4, 3))) rfl
  · exact fun d lv st M Q => jx_ev_st (jx_fok (by decide +kernel : decode (jx_mb 118) 60 = .ok (.iconst 0, 1))) rfl rfl rfl
  · exact fun d lv M Q x => jx_k_rz (jx_fok (by decide +kernel : decode (jx_mb 118) 61 = .ok (.ireturn, 1))) rfl
theorem eX8_mayStand_2 (d : Nat) (st : List Value) (M : jx_M) (Q : jx_Po) (l0 l1 l2 : Option Value) (x : Int32) : jx_Ev d 118 2 [l0, l1, l2, some (.int x)] st M Q ↔ jx_Ev d 118 3 [l0, l1, l2, some (.int x)] (.int x :: st) M Q := jx_ev_st (jx_fok (by decide +kernel : decode (jx_mb 118) 2 = .ok (.iload_n 3, 1))) rfl rfl rfl
theorem kX8_mayStand (d : Nat) (M : jx_M) (q : Int32 → jx_M → Prop) (a0 a1 a2 : Value) : jx_I d 118 [a0, a1, a2] M q ↔ jx_Ev d 118 0 [some a0, some a1, some a2, none] [] M (jx_qI q) := Iff.rfl
set_option maxRecDepth 100000 in
theorem eX8_findOrder :
  (∀ (d : Nat) (lv : List (Option Value)) (st : List Value) (M : jx_M) (Q : jx_Po), jx_Ev d 119 0 lv st M Q ↔ jx_Ev d 119 1 lv (.int 0 :: st) M Q) ∧
  (∀ (d : Nat) (st : List Value) (M : jx_M) (Q : jx_Po) (l0 l1 l2 : Option Value) (x : Int32), jx_Ev d 119 1 [l0, l1, l2] (.int x :: st) M Q ↔ jx_Ev d 119 2 [l0, l1, some (.int x)] st M Q) ∧
  (∀ (d : Nat) (st : List Value) (M : jx_M) (Q : jx_Po) (l1 l2 : Option Value) (x : Nat), jx_Ev d 119 2 [some (.ref x), l1, l2] st M Q ↔ jx_Ev d 119 3 [some (.ref x), l1, l2] (.ref x :: st) M Q) ∧
  (∀ (d : Nat) (lv : List (Option Value)) (st : List Value) (M : jx_M) (Q : jx_Po), jx_Ev d 119 3 lv (.ref 36 :: st) M Q ↔ jx_Ev d 119 6 lv (.ref 52 :: st) M Q) ∧
  (∀ (d : Nat) (lv : List (Option Value)) (st : List Value) (M : jx_M) (Q : jx_Po), jx_Ev d 119 6 lv st M Q ↔ jx_Ev d 119 7 lv (.int 0 :: st) M Q) ∧
  (∀ (d : Nat) (lv : List (Option Value)) (st : List Value) (M : jx_M) (Q : jx_Po), jx_Ev d 119 7 lv st M Q ↔ jx_Ev d 119 9 lv (.int (-9) :: st) M Q) ∧
  (∀ (d : Nat) (lv : List (Option Value)) (st : List Value) (M : jx_M) (Q : jx_Po) (x z : Int32) (a : Nat) (ha : jx_cl a = 9), jx_Ev d 119 9 lv (.int z :: .int x :: .ref a :: st) M Q ↔ (vp_in x (jx_sz a) ∧ jx_Ev d 119 10 lv st (jx_up M a x.toNatClampNeg z) Q)) ∧
  (∀ (d : Nat) (lv : List (Option Value)) (st : List Value) (M : jx_M) (Q : jx_Po) (x : Int32), jx_Ev d 119 11 lv (.int x :: st) M Q ↔ (if x < 0 then jx_Ev d 119 101 lv st M Q else jx_Ev d 119 14 lv st M Q)) ∧
  (∀ (d : Nat) (st : List Value) (M : jx_M) (Q : jx_Po) (l0 l1 : Option Value) (x : Int32), jx_Ev d 119 14 [l0, l1, some (.int x)] st M Q ↔ jx_Ev d 119 15 [l0, l1, some (.int x)] (.int x :: st) M Q) ∧
  (∀ (d : Nat) (st : List Value) (M : jx_M) (Q : jx_Po) (l1 l2 : Option Value) (x : Nat), jx_Ev d 119 15 [some (.ref x), l1, l2] st M Q ↔ jx_Ev d 119 16 [some (.ref x), l1, l2] (.ref x :: st) M Q) ∧
  (∀ (d : Nat) (lv : List (Option Value)) (st : List Value) (M : jx_M) (Q : jx_Po), jx_Ev d 119 16 lv (.ref 36 :: st) M Q ↔ jx_Ev d 119 19 lv (.int (M 36 6) :: st) M Q) ∧
  (∀ (d : Nat) (lv : List (Option Value)) (st : List Value) (M : jx_M) (Q : jx_Po) (x z : Int32), jx_Ev d 119 19 lv (.int z :: .int x :: st) M Q ↔ (if z ≤ x then jx_Ev d 119 101 lv st M Q else jx_Ev d 119 22 lv st M Q)) ∧
  (∀ (d : Nat) (st : List Value) (M : jx_M) (Q : jx_Po) (l1 l2 : Option Value) (x : Nat), jx_Ev d 119 22 [some (.ref x), l1, l2] st M Q ↔ jx_Ev d 119 23 [some (.ref x), l1, l2] (.ref x :: st) M Q) ∧
  (∀ (d : Nat) (lv : List (Option Value)) (st : List Value) (M : jx_M) (Q : jx_Po), jx_Ev d 119 23 lv (.ref 36 :: st) M Q ↔ jx_Ev d 119 26 lv (.ref 52 :: st) M Q) ∧
  (∀ (d : Nat) (st : List Value) (M : jx_M) (Q : jx_Po) (l0 l1 : Option Value) (x : Int32), jx_Ev d 119 26 [l0, l1, some (.int x)] st M Q ↔ jx_Ev d 119 27 [l0, l1, some (.int x)] (.int x :: st) M Q) ∧
  (∀ (d : Nat) (st : List Value) (M : jx_M) (Q : jx_Po) (l1 l2 : Option Value) (x : Nat), jx_Ev d 119 27 [some (.ref x), l1, l2] st M Q ↔ jx_Ev d 119 28 [some (.ref x), l1, l2] (.ref x :: st) M Q) ∧
  (∀ (d : Nat) (lv : List (Option Value)) (st : List Value) (M : jx_M) (Q : jx_Po), jx_Ev d 119 28 lv (.ref 36 :: st) M Q ↔ jx_Ev d 119 31 lv (.ref 52 :: st) M Q) ∧
  (∀ (d : Nat) (st : List Value) (M : jx_M) (Q : jx_Po) (l0 l1 : Option Value) (x : Int32), jx_Ev d 119 31 [l0, l1, some (.int x)] st M Q ↔ jx_Ev d 119 32 [l0, l1, some (.int x)] (.int x :: st) M Q) ∧
  (∀ (d : Nat) (lv : List (Option Value)) (st : List Value) (M : jx_M) (Q : jx_Po) (x : Int32) (a : Nat) (ha : jx_cl a = 9), jx_Ev d 119 32 lv (.int x :: .ref a :: st) M Q ↔ (vp_in x (jx_sz a) ∧ jx_Ev d 119 33 lv (.int (M a x.toNatClampNeg) :: st) M Q)) ∧
  (∀ (d : Nat) (lv : List (Option Value)) (st : List Value) (M : jx_M) (Q : jx_Po), jx_Ev d 119 33 lv st M Q ↔ jx_Ev d 119 35 lv (.int (-9) :: st) M Q) ∧
  (∀ (d : Nat) (lv : List (Option Value)) (st : List Value) (M : jx_M) (Q : jx_Po) (x z : Int32), jx_Ev d 119 35 lv (.int z :: .int x :: st) M Q ↔ (if x = z then jx_Ev d 119 38 lv st M Q else jx_Ev d 119 42 lv st M Q)) ∧
  (∀ (d : Nat) (lv : List (Option Value)) (st : List Value) (M : jx_M) (Q : jx_Po), jx_Ev d 119 38 lv st M Q ↔ jx_Ev d 119 39 lv (.int 0 :: st) M Q) ∧
  (∀ (d : Nat) (lv : List (Option Value)) (st : List Value) (M : jx_M) (Q : jx_Po), jx_Ev d 119 39 lv st M Q ↔ jx_Ev d 119 50 lv st M Q) ∧
  (∀ (d : Nat) (st : List Value) (M : jx_M) (Q : jx_Po) (l1 l2 : Option Value) (x : Nat), jx_Ev d 119 42 [some (.ref x), l1, l2] st M Q ↔ jx_Ev d 119 43 [some (.ref x), l1, l2] (.ref x :: st) M Q) ∧
  (∀ (d : Nat) (lv : List (Option Value)) (st : List Value) (M : jx_M) (Q : jx_Po), jx_Ev d 119 43 lv (.ref 36 :: st) M Q ↔ jx_Ev d 119 46 lv (.ref 52 :: st) M Q) ∧
  (∀ (d : Nat) (st : List Value) (M : jx_M) (Q : jx_Po) (l0 l1 : Option Value) (x : Int32), jx_Ev d 119 46 [l0, l1, some (.int x)] st M Q ↔ jx_Ev d 119 47 [l0, l1, some (.int x)] (.int x :: st) M Q) ∧
  (∀ (d : Nat) (lv : List (Option Value)) (st : List Value) (M : jx_M) (Q : jx_Po) (x : Int32) (a : Nat) (ha : jx_cl a = 9), jx_Ev d 119 47 lv (.int x :: .ref a :: st) M Q ↔ (vp_in x (jx_sz a) ∧ jx_Ev d 119 48 lv (.int (M a x.toNatClampNeg) :: st) M Q)) ∧
  (∀ (d : Nat) (lv : List (Option Value)) (st : List Value) (M : jx_M) (Q : jx_Po), jx_Ev d 119 48 lv st M Q ↔ jx_Ev d 119 49 lv (.int 1 :: st) M Q) ∧
  (∀ (d : Nat) (lv : List (Option Value)) (st : List Value) (M : jx_M) (Q : jx_Po) (x z : Int32), jx_Ev d 119 49 lv (.int z :: .int x :: st) M Q ↔ jx_Ev d 119 50 lv (.int (x + z) :: st) M Q) ∧
  (∀ (d : Nat) (lv : List (Option Value)) (st : List Value) (M : jx_M) (Q : jx_Po) (x z : Int32) (a : Nat) (ha : jx_cl a = 9), jx_Ev d 119 50 lv (.int z :: .int x :: .ref a :: st) M Q ↔ (vp_in x (jx_sz a) ∧ jx_Ev d 119 51 lv st (jx_up M a x.toNatClampNeg z) Q)) ∧
  (∀ (d : Nat) (st : List Value) (M : jx_M) (Q : jx_Po) (l1 l2 : Option Value) (x : Nat), jx_Ev d 119 51 [some (.ref x), l1, l2] st M Q ↔ jx_Ev d 119 52 [some (.ref x), l1, l2] (.ref x :: st) M Q) ∧
  (∀ (d : Nat) (lv : List (Option Value)) (st : List Value) (M : jx_M) (Q : jx_Po), jx_Ev d 119 52 lv (.ref 36 :: st) M Q ↔ jx_Ev d 119 55 lv (.ref 52 :: st) M Q) ∧
  (∀ (d : Nat) (st : List Value) (M : jx_M) (Q : jx_Po) (l0 l1 : Option Value) (x : Int32), jx_Ev d 119 55 [l0, l1, some (.int x)] st M Q ↔ jx_Ev d 119 56 [l0, l1, some (.int x)] (.int x :: st) M Q) ∧
  (∀ (d : Nat) (lv : List (Option Value)) (st : List Value) (M : jx_M) (Q : jx_Po) (x : Int32) (a : Nat) (ha : jx_cl a = 9), jx_Ev d 119 56 lv (.int x :: .ref a :: st) M Q ↔ (vp_in x (jx_sz a) ∧ jx_Ev d 119 57 lv (.int (M a x.toNatClampNeg) :: st) M Q)) ∧
  (∀ (d : Nat) (st : List Value) (M : jx_M) (Q : jx_Po) (l1 l2 : Option Value) (x : Nat), jx_Ev d 119 57 [some (.ref x), l1, l2] st M Q ↔ jx_Ev d 119 58 [some (.ref x), l1, l2] (.ref x :: st) M Q) ∧
  (∀ (d : Nat) (lv : List (Option Value)) (st : List Value) (M : jx_M) (Q : jx_Po), jx_Ev d 119 58 lv (.ref 36 :: st) M Q ↔ jx_Ev d 119 61 lv (.int (M 36 6) :: st) M Q) ∧
  (∀ (d : Nat) (lv : List (Option Value)) (st : List Value) (M : jx_M) (Q : jx_Po) (x z : Int32), jx_Ev d 119 61 lv (.int z :: .int x :: st) M Q ↔ (if x = z then jx_Ev d 119 64 lv st M Q else jx_Ev d 119 70 lv st M Q)) ∧
  (∀ (d : Nat) (st : List Value) (M : jx_M) (Q : jx_Po) (l0 l1 : Option Value) (x : Int32), jx_Ev d 119 64 [l0, l1, some (.int x)] st M Q ↔ jx_Ev d 119 67 [l0, l1, some (.int (x + (-1)))] st M Q) ∧
  (∀ (d : Nat) (lv : List (Option Value)) (st : List Value) (M : jx_M) (Q : jx_Po), jx_Ev d 119 67 lv st M Q ↔ jx_Ev d 119 10 lv st M Q) ∧
  (∀ (d : Nat) (st : List Value) (M : jx_M) (Q : jx_Po) (l1 l2 : Option Value) (x : Nat), jx_Ev d 119 70 [some (.ref x), l1, l2] st M Q ↔ jx_Ev d 119 71 [some (.ref x), l1, l2] (.ref x :: st) M Q) ∧
  (∀ (d : Nat) (st : List Value) (M : jx_M) (Q : jx_Po) (l0 l1 : Option Value) (x : Int32), jx_Ev d 119 71 [l0, l1, some (.int x)] st M Q ↔ jx_Ev d 119 72 [l0, l1, some (.int x)] (.int x :: st) M Q) ∧
  (∀ (d : Nat) (st : List Value) (M : jx_M) (Q : jx_Po) (l0 l2 : Option Value) (x : Int32), jx_Ev d 119 72 [l0, some (.int x), l2] st M Q ↔ jx_Ev d 119 73 [l0, some (.int x), l2] (.int x :: st) M Q) ∧
  (∀ (d : Nat) (lv : List (Option Value)) (M : jx_M) (Q : jx_Po) (a0 : Int32) (a1 : Int32), jx_Ev (d + 1) 119 73 lv [.int a0, .int a1, .ref 36] M Q ↔ jx_I d 118 [.ref 36, .int a1, .int a0] M (fun x M => jx_Ev (d + 1) 119 76 lv (.int x :: []) M Q)) ∧
  (∀ (d : Nat) (lv : List (Option Value)) (st : List Value) (M : jx_M) (Q : jx_Po) (x : Int32), jx_Ev d 119 76 lv (.int x :: st) M Q ↔ (if x = 0 then jx_Ev d 119 10 lv st M Q else jx_Ev d 119 79 lv st M Q)) ∧
  (∀ (d : Nat) (st : List Value) (M : jx_M) (Q : jx_Po) (l0 l1 : Option Value) (x : Int32), jx_Ev d 119 79 [l0, l1, some (.int x)] st M Q ↔ jx_Ev d 119 82 [l0, l1, some (.int (x + 1))] st M Q) ∧
  (∀ (d : Nat) (st : List Value) (M : jx_M) (Q : jx_Po) (l0 l1 : Option Value) (x : Int32), jx_Ev d 119 82 [l0, l1, some (.int x)] st M Q ↔ jx_Ev d 119 83 [l0, l1, some (.int x)] (.int x :: st) M Q) ∧
  (∀ (d : Nat) (st : List Value) (M : jx_M) (Q : jx_Po) (l1 l2 : Option Value) (x : Nat), jx_Ev d 119 83 [some (.ref x), l1, l2] st M Q ↔ jx_Ev d 119 84 [some (.ref x), l1, l2] (.ref x :: st) M Q) ∧
  (∀ (d : Nat) (lv : List (Option Value)) (st : List Value) (M : jx_M) (Q : jx_Po), jx_Ev d 119 84 lv (.ref 36 :: st) M Q ↔ jx_Ev d 119 87 lv (.int (M 36 6) :: st) M Q) ∧
  (∀ (d : Nat) (lv : List (Option Value)) (st : List Value) (M : jx_M) (Q : jx_Po) (x z : Int32), jx_Ev d 119 87 lv (.int z :: .int x :: st) M Q ↔ (if z ≤ x then jx_Ev d 119 10 lv st M Q else jx_Ev d 119 90 lv st M Q)) ∧
  (∀ (d : Nat) (st : List Value) (M : jx_M) (Q : jx_Po) (l1 l2 : Option Value) (x : Nat), jx_Ev d 119 90 [some (.ref x), l1, l2] st M Q ↔ jx_Ev d 119 91 [some (.ref x), l1, l2] (.ref x :: st) M Q) ∧
  (∀ (d : Nat) (lv : List (Option Value)) (st : List Value) (M : jx_M) (Q : jx_Po), jx_Ev d 119 91 lv (.ref 36 :: st) M Q ↔ jx_Ev d 119 94 lv (.ref 52 :: st) M Q) ∧
  (∀ (d : Nat) (st : List Value) (M : jx_M) (Q : jx_Po) (l0 l1 : Option Value) (x : Int32), jx_Ev d 119 94 [l0, l1, some (.int x)] st M Q ↔ jx_Ev d 119 95 [l0, l1, some (.int x)] (.int x :: st) M Q) ∧
  (∀ (d : Nat) (lv : List (Option Value)) (st : List Value) (M : jx_M) (Q : jx_Po), jx_Ev d 119 95 lv st M Q ↔ jx_Ev d 119 97 lv (.int (-9) :: st) M Q) ∧
  (∀ (d : Nat) (lv : List (Option Value)) (st : List Value) (M : jx_M) (Q : jx_Po) (x z : Int32) (a : Nat) (ha : jx_cl a = 9), jx_Ev d 119 97 lv (.int z :: .int x :: .ref a :: st) M Q ↔ (vp_in x (jx_sz a) ∧ jx_Ev d 119 98 lv st (jx_up M a x.toNatClampNeg z) Q)) ∧
  (∀ (d : Nat) (lv : List (Option Value)) (st : List Value) (M : jx_M) (Q : jx_Po), jx_Ev d 119 98 lv st M Q ↔ jx_Ev d 119 10 lv st M Q) ∧
  (∀ (d : Nat) (st : List Value) (M : jx_M) (Q : jx_Po) (l0 l1 : Option Value) (x : Int32), jx_Ev d 119 101 [l0, l1, some (.int x)] st M Q ↔ jx_Ev d 119 102 [l0, l1, some (.int x)] (.int x :: st) M Q) ∧
  (∀ (d : Nat) (st : List Value) (M : jx_M) (Q : jx_Po) (l1 l2 : Option Value) (x : Nat), jx_Ev d 119 102 [some (.ref x), l1, l2] st M Q ↔ jx_Ev d 119 103 [some (.ref x), l1, l2] (.ref x :: st) M Q) ∧
  (∀ (d : Nat) (lv : List (Option Value)) (st : List Value) (M : jx_M) (Q : jx_Po), jx_Ev d 119 103 lv (.ref 36 :: st) M Q ↔ jx_Ev d 119 106 lv (.int (M 36 6) :: st) M Q) ∧
  (∀ (d : Nat) (lv : List (Option Value)) (st : List Value) (M : jx_M) (Q : jx_Po) (x z : Int32), jx_Ev d 119 106 lv (.int z :: .int x :: st) M Q ↔ (if x = z then jx_Ev d 119 109 lv st M Q else jx_Ev d 119 113 lv st M Q)) ∧
  (∀ (d : Nat) (lv : List (Option Value)) (st : List Value) (M : jx_M) (Q : jx_Po), jx_Ev d 119 109 lv st M Q ↔ jx_Ev d 119 110 lv (.int 1 :: st) M Q) ∧
  (∀ (d : Nat) (lv : List (Option Value)) (st : List Value) (M : jx_M) (Q : jx_Po), jx_Ev d 119 110 lv st M Q ↔ jx_Ev d 119 114 lv st M Q) ∧
  (∀ (d : Nat) (lv : List (Option Value)) (st : List Value) (M : jx_M) (Q : jx_Po), jx_Ev d 119 113 lv st M Q ↔ jx_Ev d 119 114 lv (.int 0 :: st) M Q) ∧
  (∀ (d : Nat) (lv : List (Option Value)) (M : jx_M) (Q : jx_Po) (x : Int32), jx_Ev d 119 114 lv [.int x] M Q ↔ ((x = 0 ∨ x = 1) ∧ Q [.int x] M)) := by
  refine ⟨?_, ?_, ?_, ?_, ?_, ?_, ?_, ?_, ?_, ?_, ?_, ?_, ?_, ?_, ?_, ?_, ?_, ?_, ?_, ?_, ?_, ?_, ?_, ?_, ?_, ?_, ?_, ?_, ?_, ?_, ?_, ?_, ?_, ?_, ?_, ?_, ?_, ?_, ?_, ?_, ?_, ?_, ?_, ?_, ?_, ?_, ?_, ?_, ?_, ?_, ?_, ?_, ?_, ?_, ?_, ?_, ?_, ?_, ?_, ?_, ?_, ?_, ?_⟩
  · exact fun d lv st M Q => jx_ev_st (jx_fok (by decide +kernel : decode (jx_mb 119) 0 = .ok (.iconst 0, 1))) rfl rfl rfl
  · exact fun d st M Q l0 l1 l2 x => jx_ev_st (jx_fok (by decide +kernel : decode (jx_mb 119) 1 = .ok (.istore_n 2, 1))) rfl rfl rfl
  · exact fun d st M Q l1 l2 x => jx_ev_st (jx_fok (by decide +kernel : decode (jx_mb 119) 2 = .ok (.aload_n 0, 1))) rfl rfl rfl
  · exact fun d lv st M Q => jx_k_gf (jx_fok (by decide +kernel : decode (jx_mb 119) 3 = .ok (.getfield 55, 3))) rfl rfl rfl
  · exact fun d lv st M Q => jx_ev_st (jx_fok (by decide +kernel : decode (jx_mb 119) 6 = .ok (.iconst 0, 1))) rfl rfl rfl
  · exact fun d lv st M Q => jx_ev_st (jx_fok (by decide +kernel : decode (jx_mb 119) 7 = .ok (.bipush (-9), 2))) rfl rfl rfl
  · exact fun d lv st M Q x z a ha => jx_k_as (jx_fok (by decide +kernel : decode (jx_mb 119) 9 = .ok (.iastore, 1))) ha
  · exact fun d lv st M Q x => jx_k_b1 (jx_fok (by decide +kernel : decode (jx_mb 119) 11 = .ok (.ifCond .lt 90, 3))) rfl jx_hLt
  · exact fun d st M Q l0 l1 x => jx_ev_st (jx_fok (by decide +kernel : decode (jx_mb 119) 14 = .ok (.iload_n 2, 1))) rfl rfl rfl
  · exact fun d st M Q l1 l2 x => jx_ev_st (jx_fok (by decide +kernel : decode (jx_mb 119) 15 = .ok (.aload_n 0, 1))) rfl rfl rfl
  · exact fun d lv st M Q => jx_k_gf (jx_fok (by decide +kernel : decode (jx_mb 119) 16 = .ok (.getfield 80, 3))) rfl rfl rfl
  · exact fun d lv st M Q x z => jx_k_b2 (jx_fok (by decide +kernel : decode (jx_mb 119) 19 = .ok (.if_icmp .ge 82, 3))) rfl jx_hGe
  · exact fun d st M Q l1 l2 x => jx_ev_st (jx_fok (by decide +kernel : decode (jx_mb 119) 22 = .ok (.aload_n 0, 1))) rfl rfl rfl
  · exact fun d lv st M Q => jx_k_gf (jx_fok (by decide +kernel : decode (jx_mb 119) 23 = .ok (.getfield 55, 3))) rfl rfl rfl
  · exact fun d st M Q l0 l1 x => jx_ev_st (jx_fok (by decide +kernel : decode (jx_mb 119) 26 = .ok (.iload_n 2, 1))) rfl rfl rfl
  · exact fun d st M Q l1 l2 x => jx_ev_st (jx_fok (by decide +kernel : decode (jx_mb 119) 27 = .ok (.aload_n 0, 1))) rfl rfl rfl
  · exact fun d lv st M Q => jx_k_gf (jx_fok (by decide +kernel : decode (jx_mb 119) 28 = .ok (.getfield 55, 3))) rfl rfl rfl
  · exact fun d st M Q l0 l1 x => jx_ev_st (jx_fok (by decide +kernel : decode (jx_mb 119) 31 = .ok (.iload_n 2, 1))) rfl rfl rfl
  · exact fun d lv st M Q x a ha => jx_k_al (jx_fok (by decide +kernel : decode (jx_mb 119) 32 = .ok (.iaload, 1))) ha
  · exact fun d lv st M Q => jx_ev_st (jx_fok (by decide +kernel : decode (jx_mb 119) 33 = .ok (.bipush (-9), 2))) rfl rfl rfl
  · exact fun d lv st M Q x z => jx_k_b2n (jx_fok (by decide +kernel : decode (jx_mb 119) 35 = .ok (.if_icmp .ne 7, 3))) rfl jx_hNe
  · exact fun d lv st M Q => jx_ev_st (jx_fok (by decide +kernel : decode (jx_mb 119) 38 = .ok (.iconst 0, 1))) rfl rfl rfl
  · exact fun d lv st M Q => jx_k_goto (jx_fok (by decide +kernel : decode (jx_mb 119) 39 = .ok (.goto 11, 3))) rfl
  · exact fun d st M Q l1 l2 x => jx_ev_st (jx_fok (by decide +kernel : decode (jx_mb 119) 42 = .ok (.aload_n 0, 1))) rfl rfl rfl
  · exact fun d lv st M Q => jx_k_gf (jx_fok (by decide +kernel : decode (jx_mb 119) 43 = .ok (.getfield 55, 3))) rfl rfl rfl
  · exact fun d st M Q l0 l1 x => jx_ev_st (jx_fok (by decide +kernel : decode (jx_mb 119) 46 = .ok (.iload_n 2, 1))) rfl rfl rfl
  · exact fun d lv st M Q x a ha => jx_k_al (jx_fok (by decide +kernel : decode (jx_mb 119) 47 = .ok (.iaload, 1))) ha
  · exact fun d lv st M Q => jx_ev_st (jx_fok (by decide +kernel : decode (jx_mb 119) 48 = .ok (.iconst 1, 1))) rfl rfl rfl
  · exact fun d lv st M Q x z => jx_ev_st (jx_fok (by decide +kernel : decode (jx_mb 119) 49 = .ok (.iadd, 1))) rfl rfl rfl
  · exact fun d lv st M Q x z a ha => jx_k_as (jx_fok (by decide +kernel : decode (jx_mb 119) 50 = .ok (.iastore, 1))) ha
  · exact fun d st M Q l1 l2 x => jx_ev_st (jx_fok (by decide +kernel : decode (jx_mb 119) 51 = .ok (.aload_n 0, 1))) rfl rfl rfl
  · exact fun d lv st M Q => jx_k_gf (jx_fok (by decide +kernel : decode (jx_mb 119) 52 = .ok (.getfield 55, 3))) rfl rfl rfl
  · exact fun d st M Q l0 l1 x => jx_ev_st (jx_fok (by decide +kernel : decode (jx_mb 119) 55 = .ok (.iload_n 2, 1))) rfl rfl rfl
  · exact fun d lv st M Q x a ha => jx_k_al (jx_fok (by decide +kernel : decode (jx_mb 119) 56 = .ok (.iaload, 1))) ha
  · exact fun d st M Q l1 l2 x => jx_ev_st (jx_fok (by decide +kernel : decode (jx_mb 119) 57 = .ok (.aload_n 0, 1))) rfl rfl rfl
  · exact fun d lv st M Q => jx_k_gf (jx_fok (by decide +kernel : decode (jx_mb 119) 58 = .ok (.getfield 80, 3))) rfl rfl rfl
  · exact fun d lv st M Q x z => jx_k_b2n (jx_fok (by decide +kernel : decode (jx_mb 119) 61 = .ok (.if_icmp .ne 9, 3))) rfl jx_hNe
  · exact fun d st M Q l0 l1 x => jx_ev_st (jx_fok (by decide +kernel : decode (jx_mb 119) 64 = .ok (.iinc 2 (-1), 3))) rfl rfl rfl
  · exact fun d lv st M Q => jx_k_goto (jx_fok (by decide +kernel : decode (jx_mb 119) 67 = .ok (.goto (-57), 3))) rfl
  · exact fun d st M Q l1 l2 x => jx_ev_st (jx_fok (by decide +kernel : decode (jx_mb 119) 70 = .ok (.aload_n 0, 1))) rfl rfl rfl
  · exact fun d st M Q l0 l1 x => jx_ev_st (jx_fok (by decide +kernel : decode (jx_mb 119) 71 = .ok (.iload_n 2, 1))) rfl rfl rfl
  · exact fun d st M Q l0 l2 x => jx_ev_st (jx_fok (by decide +kernel : decode (jx_mb 119) 72 = .ok (.iload_n 1, 1))) rfl rfl rfl
  · exact fun d lv M Q a0 a1 => jx_ev_ci (jx_fok (by decide +kernel : decode (jx_mb 119) 73 = .ok (.invokevirtual 173, 3))) rfl (jx_ccV (As := [.int a1, .int a0]) (rest := []) rfl rfl rfl rfl rfl rfl) (by decide)
  · exact fun d lv st M Q x => jx_k_b1 (jx_fok (by decide +kernel : decode (jx_mb 119) 76 = .ok (.ifCond .eq (-66), 3))) rfl jx_hEq
  · exact fun d st M Q l0 l1 x => jx_ev_st (jx_fok (by decide +kernel : decode (jx_mb 119) 79 = .ok (.iinc 2 1, 3))) rfl rfl rfl
  · exact fun d st M Q l0 l1 x => jx_ev_st (jx_fok (by decide +kernel : decode (jx_mb 119) 82 = .ok (.iload_n 2, 1))) rfl rfl rfl
  · exact fun d st M Q l1 l2 x => jx_ev_st (jx_fok (by decide +kernel : decode (jx_mb 119) 83 = .ok (.aload_n 0, 1))) rfl rfl rfl
  · exact fun d lv st M Q => jx_k_gf (jx_fok (by decide +kernel : decode (jx_mb 119) 84 = .ok (.getfield 80, 3))) rfl rfl rfl
  · exact fun d lv st M Q x z => jx_k_b2 (jx_fok (by decide +kernel : decode (jx_mb 119) 87 = .ok (.if_icmp .ge (-77), 3))) rfl jx_hGe
  · exact fun d st M Q l1 l2 x => jx_ev_st (jx_fok (by decide +kernel : decode (jx_mb 119) 90 = .ok (.aload_n 0, 1))) rfl rfl rfl
  · exact fun d lv st M Q => jx_k_gf (jx_fok (by decide +kernel : decode (jx_mb 119) 91 = .ok (.getfield 55, 3))) rfl rfl rfl
  · exact fun d st M Q l0 l1 x => jx_ev_st (jx_fok (by decide +kernel : decode (jx_mb 119) 94 = .ok (.iload_n 2, 1))) rfl rfl rfl
  · exact fun d lv st M Q => jx_ev_st (jx_fok (by decide +kernel : decode (jx_mb 119) 95 = .ok (.bipush (-9), 2))) rfl rfl rfl
  · exact fun d lv st M Q x z a ha => jx_k_as (jx_fok (by decide +kernel : decode (jx_mb 119) 97 = .ok (.iastore, 1))) ha
  · exact fun d lv st M Q => jx_k_goto (jx_fok (by decide +kernel : decode (jx_mb 119) 98 = .ok (.goto (-88), 3))) rfl
  · exact fun d st M Q l0 l1 x => jx_ev_st (jx_fok (by decide +kernel : decode (jx_mb 119) 101 = .ok (.iload_n 2, 1))) rfl rfl rfl
  · exact fun d st M Q l1 l2 x => jx_ev_st (jx_fok (by decide +kernel : decode (jx_mb 119) 102 = .ok (.aload_n 0, 1))) rfl rfl rfl
  · exact fun d lv st M Q => jx_k_gf (jx_fok (by decide +kernel : decode (jx_mb 119) 103 = .ok (.getfield 80, 3))) rfl rfl rfl
  · exact fun d lv st M Q x z => jx_k_b2n (jx_fok (by decide +kernel : decode (jx_mb 119) 106 = .ok (.if_icmp .ne 7, 3))) rfl jx_hNe
  · exact fun d lv st M Q => jx_ev_st (jx_fok (by decide +kernel : decode (jx_mb 119) 109 = .ok (.iconst 1, 1))) rfl rfl rfl
  · exact fun d lv st M Q => jx_k_goto (jx_fok (by decide +kernel : decode (jx_mb 119) 110 = .ok (.goto 4, 3))) rfl
  · exact fun d lv st M Q => jx_ev_st (jx_fok (by decide +kernel : decode (jx_mb 119) 113 = .ok (.iconst 0, 1))) rfl rfl rfl
  · exact fun d lv M Q x => jx_k_rz (jx_fok (by decide +kernel : decode (jx_mb 119) 114 = .ok (.ireturn, 1))) rfl
theorem eX8_findOrder_10 (d : Nat) (st : List Value) (M : jx_M) (Q : jx_Po) (l0 l1 : Option Value) (x : Int32) : jx_Ev d 119 10 [l0, l1, some (.int x)] st M Q ↔ jx_Ev d 119 11 [l0, l1, some (.int x)] (.int x :: st) M Q := jx_ev_st (jx_fok (by decide +kernel : decode (jx_mb 119) 10 = .ok (.iload_n 2, 1))) rfl rfl rfl
theorem kX8_findOrder (d : Nat) (M : jx_M) (q : Int32 → jx_M → Prop) (a0 a1 : Value) : jx_I d 119 [a0, a1] M q ↔ jx_Ev d 119 0 [some a0, some a1, none] [] M (jx_qI q) := Iff.rfl
set_option maxRecDepth 100000 in
theorem eX8_order :
  (∀ (d : Nat) (st : List Value) (M : jx_M) (Q : jx_Po) (l0 l2 : Option Value) (x : Int32), jx_Ev d 120 0 [l0, some (.int x), l2] st M Q ↔ jx_Ev d 120 1 [l0, some (.int x), l2] (.int x :: st) M Q) ∧
  (∀ (d : Nat) (lv : List (Option Value)) (M : jx_M) (Q : jx_Po) (a0 : Int32), jx_Ev (d + 1) 120 1 lv [.int a0] M Q ↔ jx_I d 106 [.int a0] M (fun x M => jx_Ev (d + 1) 120 4 lv (.int x :: []) M Q)) ∧
  (∀ (d : Nat) (lv : List (Option Value)) (st : List Value) (M : jx_M) (Q : jx_Po) (x : Int32), jx_Ev d 120 4 lv (.int x :: st) M Q ↔ (if x = 0 then jx_Ev d 120 16 lv st M Q else jx_Ev d 120 7 lv st M Q)) ∧
  (∀ (d : Nat) (st : List Value) (M : jx_M) (Q : jx_Po) (l0 l1 : Option Value) (x : Int32), jx_Ev d 120 7 [l0, l1, some (.int x)] st M Q ↔ jx_Ev d 120 8 [l0, l1, some (.int x)] (.int x :: st) M Q) ∧
  (∀ (d : Nat) (lv : List (Option Value)) (st : List Value) (M : jx_M) (Q : jx_Po), jx_Ev d 120 8 lv st M Q ↔ jx_Ev d 120 9 lv (.int 0 :: st) M Q) ∧
  (∀ (d : Nat) (lv : List (Option Value)) (st : List Value) (M : jx_M) (Q : jx_Po), jx_Ev d 120 9 lv st M Q ↔ jx_Ev d 120 10 lv (.int 5 :: st) M Q) ∧
  (∀ (d : Nat) (lv : List (Option Value)) (M : jx_M) (Q : jx_Po) (a0 : Int32) (a1 : Int32) (a2 : Int32), jx_Ev (d + 1) 120 10 lv [.int a0, .int a1, .int a2] M Q ↔ jx_I d 86 [.int a2, .int a1, .int a0] M (fun x M => jx_Ev (d + 1) 120 13 lv (.int x :: []) M Q)) ∧
  (∀ (d : Nat) (lv : List (Option Value)) (st : List Value) (M : jx_M) (Q : jx_Po) (x : Int32), jx_Ev d 120 13 lv (.int x :: st) M Q ↔ (if x = 0 then jx_Ev d 120 16 lv st M Q else jx_Ev d 120 19 lv st M Q)) ∧
  (∀ (d : Nat) (lv : List (Option Value)) (st : List Value) (M : jx_M) (Q : jx_Po), jx_Ev d 120 16 lv st M Q ↔ jx_Ev d 120 18 lv (.int (-2) :: st) M Q) ∧
  (∀ (d : Nat) (lv : List (Option Value)) (M : jx_M) (Q : jx_Po) (x : Int32), jx_Ev d 120 18 lv [.int x] M Q ↔ Q [.int x] M) ∧
  (∀ (d : Nat) (st : List Value) (M : jx_M) (Q : jx_Po) (l1 l2 : Option Value) (x : Nat), jx_Ev d 120 19 [some (.ref x), l1, l2] st M Q ↔ jx_Ev d 120 20 [some (.ref x), l1, l2] (.ref x :: st) M Q) ∧
  (∀ (d : Nat) (lv : List (Option Value)) (st : List Value) (M : jx_M) (Q : jx_Po), jx_Ev d 120 20 lv (.ref 36 :: st) M Q ↔ jx_Ev d 120 23 lv (.int (M 36 6) :: st) M Q) ∧
  (∀ (d : Nat) (lv : List (Option Value)) (st : List Value) (M : jx_M) (Q : jx_Po) (x : Int32), jx_Ev d 120 23 lv (.int x :: st) M Q ↔ (if x = 0 then jx_Ev d 120 26 lv st M Q else jx_Ev d 120 29 lv st M Q)) ∧
  (∀ (d : Nat) (lv : List (Option Value)) (st : List Value) (M : jx_M) (Q : jx_Po), jx_Ev d 120 26 lv st M Q ↔ jx_Ev d 120 28 lv (.int (-3) :: st) M Q) ∧
  (∀ (d : Nat) (lv : List (Option Value)) (M : jx_M) (Q : jx_Po) (x : Int32), jx_Ev d 120 28 lv [.int x] M Q ↔ Q [.int x] M) ∧
  (∀ (d : Nat) (st : List Value) (M : jx_M) (Q : jx_Po) (l1 l2 : Option Value) (x : Nat), jx_Ev d 120 29 [some (.ref x), l1, l2] st M Q ↔ jx_Ev d 120 30 [some (.ref x), l1, l2] (.ref x :: st) M Q) ∧
  (∀ (d : Nat) (st : List Value) (M : jx_M) (Q : jx_Po) (l0 l2 : Option Value) (x : Int32), jx_Ev d 120 30 [l0, some (.int x), l2] st M Q ↔ jx_Ev d 120 31 [l0, some (.int x), l2] (.int x :: st) M Q) ∧
  (∀ (d : Nat) (lv : List (Option Value)) (M : jx_M) (Q : jx_Po) (a0 : Int32), jx_Ev (d + 1) 120 31 lv [.int a0, .ref 36] M Q ↔ jx_I d 119 [.ref 36, .int a0] M (fun x M => jx_Ev (d + 1) 120 34 lv (.int x :: []) M Q)) ∧
  (∀ (d : Nat) (lv : List (Option Value)) (st : List Value) (M : jx_M) (Q : jx_Po) (x : Int32), jx_Ev d 120 34 lv (.int x :: st) M Q ↔ (if x = 0 then jx_Ev d 120 54 lv st M Q else jx_Ev d 120 37 lv st M Q)) ∧
  (∀ (d : Nat) (st : List Value) (M : jx_M) (Q : jx_Po) (l0 l1 : Option Value) (x : Int32), jx_Ev d 120 37 [l0, l1, some (.int x)] st M Q ↔ jx_Ev d 120 38 [l0, l1, some (.int x)] (.int x :: st) M Q) ∧
  (∀ (d : Nat) (st : List Value) (M : jx_M) (Q : jx_Po) (l1 l2 : Option Value) (x : Nat), jx_Ev d 120 38 [some (.ref x), l1, l2] st M Q ↔ jx_Ev d 120 39 [some (.ref x), l1, l2] (.ref x :: st) M Q) ∧
  (∀ (d : Nat) (lv : List (Option Value)) (st : List Value) (M : jx_M) (Q : jx_Po), jx_Ev d 120 39 lv (.ref 36 :: st) M Q ↔ jx_Ev d 120 42 lv (.int (M 36 6) :: st) M Q) ∧
  (∀ (d : Nat) (lv : List (Option Value)) (st : List Value) (M : jx_M) (Q : jx_Po) (x z : Int32), jx_Ev d 120 42 lv (.int z :: .int x :: st) M Q ↔ (if z ≤ x then jx_Ev d 120 54 lv st M Q else jx_Ev d 120 45 lv st M Q)) ∧
  (∀ (d : Nat) (st : List Value) (M : jx_M) (Q : jx_Po) (l1 l2 : Option Value) (x : Nat), jx_Ev d 120 45 [some (.ref x), l1, l2] st M Q ↔ jx_Ev d 120 46 [some (.ref x), l1, l2] (.ref x :: st) M Q) ∧
  (∀ (d : Nat) (lv : List (Option Value)) (st : List Value) (M : jx_M) (Q : jx_Po), jx_Ev d 120 46 lv (.ref 36 :: st) M Q ↔ jx_Ev d 120 49 lv (.ref 52 :: st) M Q) ∧
  (∀ (d : Nat) (st : List Value) (M : jx_M) (Q : jx_Po) (l0 l1 : Option Value) (x : Int32), jx_Ev d 120 49 [l0, l1, some (.int x)] st M Q ↔ jx_Ev d 120 50 [l0, l1, some (.int x)] (.int x :: st) M Q) ∧
  (∀ (d : Nat) (lv : List (Option Value)) (st : List Value) (M : jx_M) (Q : jx_Po) (x : Int32) (a : Nat) (ha : jx_cl a = 9), jx_Ev d 120 50 lv (.int x :: .ref a :: st) M Q ↔ (vp_in x (jx_sz a) ∧ jx_Ev d 120 51 lv (.int (M a x.toNatClampNeg) :: st) M Q)) ∧
  (∀ (d : Nat) (lv : List (Option Value)) (st : List Value) (M : jx_M) (Q : jx_Po), jx_Ev d 120 51 lv st M Q ↔ jx_Ev d 120 56 lv st M Q) ∧
  (∀ (d : Nat) (lv : List (Option Value)) (st : List Value) (M : jx_M) (Q : jx_Po), jx_Ev d 120 54 lv st M Q ↔ jx_Ev d 120 56 lv (.int (-9) :: st) M Q) ∧
  (∀ (d : Nat) (lv : List (Option Value)) (M : jx_M) (Q : jx_Po) (x : Int32), jx_Ev d 120 56 lv [.int x] M Q ↔ Q [.int x] M) := by
  refine ⟨?_, ?_, ?_, ?_, ?_, ?_, ?_, ?_, ?_, ?_, ?_, ?_, ?_, ?_, ?_, ?_, ?_, ?_, ?_, ?_, ?_, ?_, ?_, ?_, ?_, ?_, ?_, ?_, ?_, ?_⟩
  · exact fun d st M Q l0 l2 x => jx_ev_st (jx_fok (by decide +kernel : decode (jx_mb 120) 0 = .ok (.iload_n 1, 1))) rfl rfl rfl
  · exact fun d lv M Q a0 => jx_ev_ci (jx_fok (by decide +kernel : decode (jx_mb 120) 1 = .ok (.invokestatic 151, 3))) rfl (jx_ccS (As := [.int a0]) (rest := []) rfl rfl rfl rfl rfl) (by decide)
  · exact fun d lv st M Q x => jx_k_b1 (jx_fok (by decide +kernel : decode (jx_mb 120) 4 = .ok (.ifCond .eq 12, 3))) rfl jx_hEq
  · exact fun d st M Q l0 l1 x => jx_ev_st (jx_fok (by decide +kernel : decode (jx_mb 120) 7 = .ok (.iload_n 2, 1))) rfl rfl rfl
  · exact fun d lv st M Q => jx_ev_st (jx_fok (by decide +kernel : decode (jx_mb 120) 8 = .ok (.iconst 0, 1))) rfl rfl rfl
  · exact fun d lv st M Q => jx_ev_st (jx_fok (by decide +kernel : decode (jx_mb 120) 9 = .ok (.iconst 5, 1))) rfl rfl rfl
  · exact fun d lv M Q a0 a1 a2 => jx_ev_ci (jx_fok (by decide +kernel : decode (jx_mb 120) 10 = .ok (.invokestatic 73, 3))) rfl (jx_ccS (As := [.int a2, .int a1, .int a0]) (rest := []) rfl rfl rfl rfl rfl) (by decide)
  · exact fun d lv st M Q x => jx_k_b1n (jx_fok (by decide +kernel : decode (jx_mb 120) 13 = .ok (.ifCond .ne 6, 3))) rfl jx_hNe
  · exact fun d lv st M Q => jx_ev_st (jx_fok (by decide +kernel : decode (jx_mb 120) 16 = .ok (.bipush (-2), 2))) rfl rfl rfl
  · exact fun d lv M Q x => jx_k_ri (jx_fok (by decide +kernel : decode (jx_mb 120) 18 = .ok (.ireturn, 1))) rfl
  · exact fun d st M Q l1 l2 x => jx_ev_st (jx_fok (by decide +kernel : decode (jx_mb 120) 19 = .ok (.aload_n 0, 1))) rfl rfl rfl
  · exact fun d lv st M Q => jx_k_gf (jx_fok (by decide +kernel : decode (jx_mb 120) 20 = .ok (.getfield 80, 3))) rfl rfl rfl
  · exact fun d lv st M Q x => jx_k_b1n (jx_fok (by decide +kernel : decode (jx_mb 120) 23 = .ok (.ifCond .ne 6, 3))) rfl jx_hNe
  · exact fun d lv st M Q => jx_ev_st (jx_fok (by decide +kernel : decode (jx_mb 120) 26 = .ok (.bipush (-3), 2))) rfl rfl rfl
  · exact fun d lv M Q x => jx_k_ri (jx_fok (by decide +kernel : decode (jx_mb 120) 28 = .ok (.ireturn, 1))) rfl
  · exact fun d st M Q l1 l2 x => jx_ev_st (jx_fok (by decide +kernel : decode (jx_mb 120) 29 = .ok (.aload_n 0, 1))) rfl rfl rfl
  · exact fun d st M Q l0 l2 x => jx_ev_st (jx_fok (by decide +kernel : decode (jx_mb 120) 30 = .ok (.iload_n 1, 1))) rfl rfl rfl
  · exact fun d lv M Q a0 => jx_ev_ci (jx_fok (by decide +kernel : decode (jx_mb 120) 31 = .ok (.invokevirtual 176, 3))) rfl (jx_ccV (As := [.int a0]) (rest := []) rfl rfl rfl rfl rfl rfl) (by decide)
  · exact fun d lv st M Q x => jx_k_b1 (jx_fok (by decide +kernel : decode (jx_mb 120) 34 = .ok (.ifCond .eq 20, 3))) rfl jx_hEq
  · exact fun d st M Q l0 l1 x => jx_ev_st (jx_fok (by decide +kernel : decode (jx_mb 120) 37 = .ok (.iload_n 2, 1))) rfl rfl rfl
  · exact fun d st M Q l1 l2 x => jx_ev_st (jx_fok (by decide +kernel : decode (jx_mb 120) 38 = .ok (.aload_n 0, 1))) rfl rfl rfl
  · exact fun d lv st M Q => jx_k_gf (jx_fok (by decide +kernel : decode (jx_mb 120) 39 = .ok (.getfield 80, 3))) rfl rfl rfl
  · exact fun d lv st M Q x z => jx_k_b2 (jx_fok (by decide +kernel : decode (jx_mb 120) 42 = .ok (.if_icmp .ge 12, 3))) rfl jx_hGe
  · exact fun d st M Q l1 l2 x => jx_ev_st (jx_fok (by decide +kernel : decode (jx_mb 120) 45 = .ok (.aload_n 0, 1))) rfl rfl rfl
  · exact fun d lv st M Q => jx_k_gf (jx_fok (by decide +kernel : decode (jx_mb 120) 46 = .ok (.getfield 55, 3))) rfl rfl rfl
  · exact fun d st M Q l0 l1 x => jx_ev_st (jx_fok (by decide +kernel : decode (jx_mb 120) 49 = .ok (.iload_n 2, 1))) rfl rfl rfl
  · exact fun d lv st M Q x a ha => jx_k_al (jx_fok (by decide +kernel : decode (jx_mb 120) 50 = .ok (.iaload, 1))) ha
  · exact fun d lv st M Q => jx_k_goto (jx_fok (by decide +kernel : decode (jx_mb 120) 51 = .ok (.goto 5, 3))) rfl
  · exact fun d lv st M Q => jx_ev_st (jx_fok (by decide +kernel : decode (jx_mb 120) 54 = .ok (.bipush (-9), 2))) rfl rfl rfl
  · exact fun d lv M Q x => jx_k_ri (jx_fok (by decide +kernel : decode (jx_mb 120) 56 = .ok (.ireturn, 1))) rfl
theorem kX8_order (d : Nat) (M : jx_M) (q : Int32 → jx_M → Prop) (a0 a1 a2 : Value) : jx_I d 120 [a0, a1, a2] M q ↔ jx_Ev d 120 0 [some a0, some a1, some a2] [] M (jx_qI q) := Iff.rfl
set_option maxRecDepth 100000 in
theorem eX8_reading :
  (∀ (d : Nat) (st : List Value) (M : jx_M) (Q : jx_Po) (l1 l2 l3 : Option Value) (x : Nat), jx_Ev d 121 0 [some (.ref x), l1, l2, l3] st M Q ↔ jx_Ev d 121 1 [some (.ref x), l1, l2, l3] (.ref x :: st) M Q) ∧
  (∀ (d : Nat) (st : List Value) (M : jx_M) (Q : jx_Po) (l0 l2 l3 : Option Value) (x : Int32), jx_Ev d 121 1 [l0, some (.int x), l2, l3] st M Q ↔ jx_Ev d 121 2 [l0, some (.int x), l2, l3] (.int x :: st) M Q) ∧
  (∀ (d : Nat) (lv : List (Option Value)) (M : jx_M) (Q : jx_Po) (a0 : Int32), jx_Ev (d + 1) 121 2 lv [.int a0, .ref 36] M Q ↔ jx_I d 91 [.ref 36, .int a0] M (fun x M => jx_Ev (d + 1) 121 5 lv (.int x :: []) M Q)) ∧
  (∀ (d : Nat) (lv : List (Option Value)) (st : List Value) (M : jx_M) (Q : jx_Po) (x : Int32), jx_Ev d 121 5 lv (.int x :: st) M Q ↔ (if x = 0 then jx_Ev d 121 8 lv st M Q else jx_Ev d 121 10 lv st M Q)) ∧
  (∀ (d : Nat) (lv : List (Option Value)) (st : List Value) (M : jx_M) (Q : jx_Po), jx_Ev d 121 8 lv st M Q ↔ jx_Ev d 121 9 lv (.int (-1) :: st) M Q) ∧
  (∀ (d : Nat) (lv : List (Option Value)) (M : jx_M) (Q : jx_Po) (x : Int32), jx_Ev d 121 9 lv [.int x] M Q ↔ Q [.int x] M) ∧
  (∀ (d : Nat) (st : List Value) (M : jx_M) (Q : jx_Po) (l0 l1 l3 : Option Value) (x : Int32), jx_Ev d 121 10 [l0, l1, some (.int x), l3] st M Q ↔ jx_Ev d 121 11 [l0, l1, some (.int x), l3] (.int x :: st) M Q) ∧
  (∀ (d : Nat) (lv : List (Option Value)) (M : jx_M) (Q : jx_Po) (a0 : Int32), jx_Ev (d + 1) 121 11 lv [.int a0] M Q ↔ jx_I d 106 [.int a0] M (fun x M => jx_Ev (d + 1) 121 14 lv (.int x :: []) M Q)) ∧
  (∀ (d : Nat) (lv : List (Option Value)) (st : List Value) (M : jx_M) (Q : jx_Po) (x : Int32), jx_Ev d 121 14 lv (.int x :: st) M Q ↔ (if x = 0 then jx_Ev d 121 27 lv st M Q else jx_Ev d 121 17 lv st M Q)) ∧
  (∀ (d : Nat) (st : List Value) (M : jx_M) (Q : jx_Po) (l0 l1 l2 : Option Value) (x : Int32), jx_Ev d 121 17 [l0, l1, l2, some (.int x)] st M Q ↔ jx_Ev d 121 18 [l0, l1, l2, some (.int x)] (.int x :: st) M Q) ∧
  (∀ (d : Nat) (lv : List (Option Value)) (st : List Value) (M : jx_M) (Q : jx_Po), jx_Ev d 121 18 lv st M Q ↔ jx_Ev d 121 19 lv (.int 0 :: st) M Q) ∧
  (∀ (d : Nat) (lv : List (Option Value)) (st : List Value) (M : jx_M) (Q : jx_Po), jx_Ev d 121 19 lv st M Q ↔ jx_Ev d 121 21 lv (.int 99 :: st) M Q) ∧
  (∀ (d : Nat) (lv : List (Option Value)) (M : jx_M) (Q : jx_Po) (a0 : Int32) (a1 : Int32) (a2 : Int32), jx_Ev (d + 1) 121 21 lv [.int a0, .int a1, .int a2] M Q ↔ jx_I d 86 [.int a2, .int a1, .int a0] M (fun x M => jx_Ev (d + 1) 121 24 lv (.int x :: []) M Q)) ∧
  (∀ (d : Nat) (lv : List (Option Value)) (st : List Value) (M : jx_M) (Q : jx_Po) (x : Int32), jx_Ev d 121 24 lv (.int x :: st) M Q ↔ (if x = 0 then jx_Ev d 121 27 lv st M Q else jx_Ev d 121 30 lv st M Q)) ∧
  (∀ (d : Nat) (lv : List (Option Value)) (st : List Value) (M : jx_M) (Q : jx_Po), jx_Ev d 121 27 lv st M Q ↔ jx_Ev d 121 29 lv (.int (-2) :: st) M Q) ∧
  (∀ (d : Nat) (lv : List (Option Value)) (M : jx_M) (Q : jx_Po) (x : Int32), jx_Ev d 121 29 lv [.int x] M Q ↔ Q [.int x] M) ∧
  (∀ (d : Nat) (st : List Value) (M : jx_M) (Q : jx_Po) (l1 l2 l3 : Option Value) (x : Nat), jx_Ev d 121 30 [some (.ref x), l1, l2, l3] st M Q ↔ jx_Ev d 121 31 [some (.ref x), l1, l2, l3] (.ref x :: st) M Q) ∧
  (∀ (d : Nat) (lv : List (Option Value)) (st : List Value) (M : jx_M) (Q : jx_Po), jx_Ev d 121 31 lv (.ref 36 :: st) M Q ↔ jx_Ev d 121 34 lv (.int (M 36 27) :: st) M Q) ∧
  (∀ (d : Nat) (lv : List (Option Value)) (st : List Value) (M : jx_M) (Q : jx_Po), jx_Ev d 121 34 lv st M Q ↔ jx_Ev d 121 36 lv (.int 8 :: st) M Q) ∧
  (∀ (d : Nat) (lv : List (Option Value)) (st : List Value) (M : jx_M) (Q : jx_Po) (x z : Int32), jx_Ev d 121 36 lv (.int z :: .int x :: st) M Q ↔ (if x = z then jx_Ev d 121 39 lv st M Q else jx_Ev d 121 42 lv st M Q)) ∧
  (∀ (d : Nat) (lv : List (Option Value)) (st : List Value) (M : jx_M) (Q : jx_Po), jx_Ev d 121 39 lv st M Q ↔ jx_Ev d 121 41 lv (.int (-4) :: st) M Q) ∧
  (∀ (d : Nat) (lv : List (Option Value)) (M : jx_M) (Q : jx_Po) (x : Int32), jx_Ev d 121 41 lv [.int x] M Q ↔ Q [.int x] M) ∧
  (∀ (d : Nat) (st : List Value) (M : jx_M) (Q : jx_Po) (l1 l2 l3 : Option Value) (x : Nat), jx_Ev d 121 42 [some (.ref x), l1, l2, l3] st M Q ↔ jx_Ev d 121 43 [some (.ref x), l1, l2, l3] (.ref x :: st) M Q) ∧
  (∀ (d : Nat) (lv : List (Option Value)) (st : List Value) (M : jx_M) (Q : jx_Po), jx_Ev d 121 43 lv (.ref 36 :: st) M Q ↔ jx_Ev d 121 46 lv (.ref 53 :: st) M Q) ∧
  (∀ (d : Nat) (st : List Value) (M : jx_M) (Q : jx_Po) (l1 l2 l3 : Option Value) (x : Nat), jx_Ev d 121 46 [some (.ref x), l1, l2, l3] st M Q ↔ jx_Ev d 121 47 [some (.ref x), l1, l2, l3] (.ref x :: st) M Q) ∧
  (∀ (d : Nat) (lv : List (Option Value)) (st : List Value) (M : jx_M) (Q : jx_Po), jx_Ev d 121 47 lv (.ref 36 :: st) M Q ↔ jx_Ev d 121 50 lv (.int (M 36 27) :: st) M Q) ∧
  (∀ (d : Nat) (st : List Value) (M : jx_M) (Q : jx_Po) (l0 l2 l3 : Option Value) (x : Int32), jx_Ev d 121 50 [l0, some (.int x), l2, l3] st M Q ↔ jx_Ev d 121 51 [l0, some (.int x), l2, l3] (.int x :: st) M Q) ∧
  (∀ (d : Nat) (lv : List (Option Value)) (st : List Value) (M : jx_M) (Q : jx_Po) (x z : Int32) (a : Nat) (ha : jx_cl a = 9), jx_Ev d 121 51 lv (.int z :: .int x :: .ref a :: st) M Q ↔ (vp_in x (jx_sz a) ∧ jx_Ev d 121 52 lv st (jx_up M a x.toNatClampNeg z) Q)) ∧
  (∀ (d : Nat) (st : List Value) (M : jx_M) (Q : jx_Po) (l1 l2 l3 : Option Value) (x : Nat), jx_Ev d 121 52 [some (.ref x), l1, l2, l3] st M Q ↔ jx_Ev d 121 53 [some (.ref x), l1, l2, l3] (.ref x :: st) M Q) ∧
  (∀ (d : Nat) (lv : List (Option Value)) (st : List Value) (M : jx_M) (Q : jx_Po), jx_Ev d 121 53 lv (.ref 36 :: st) M Q ↔ jx_Ev d 121 56 lv (.ref 54 :: st) M Q) ∧
  (∀ (d : Nat) (st : List Value) (M : jx_M) (Q : jx_Po) (l1 l2 l3 : Option Value) (x : Nat), jx_Ev d 121 56 [some (.ref x), l1, l2, l3] st M Q ↔ jx_Ev d 121 57 [some (.ref x), l1, l2, l3] (.ref x :: st) M Q) ∧
  (∀ (d : Nat) (lv : List (Option Value)) (st : List Value) (M : jx_M) (Q : jx_Po), jx_Ev d 121 57 lv (.ref 36 :: st) M Q ↔ jx_Ev d 121 60 lv (.int (M 36 27) :: st) M Q) ∧
  (∀ (d : Nat) (st : List Value) (M : jx_M) (Q : jx_Po) (l0 l1 l3 : Option Value) (x : Int32), jx_Ev d 121 60 [l0, l1, some (.int x), l3] st M Q ↔ jx_Ev d 121 61 [l0, l1, some (.int x), l3] (.int x :: st) M Q) ∧
  (∀ (d : Nat) (lv : List (Option Value)) (st : List Value) (M : jx_M) (Q : jx_Po) (x z : Int32) (a : Nat) (ha : jx_cl a = 9), jx_Ev d 121 61 lv (.int z :: .int x :: .ref a :: st) M Q ↔ (vp_in x (jx_sz a) ∧ jx_Ev d 121 62 lv st (jx_up M a x.toNatClampNeg z) Q)) ∧
  (∀ (d : Nat) (st : List Value) (M : jx_M) (Q : jx_Po) (l1 l2 l3 : Option Value) (x : Nat), jx_Ev d 121 62 [some (.ref x), l1, l2, l3] st M Q ↔ jx_Ev d 121 63 [some (.ref x), l1, l2, l3] (.ref x :: st) M Q) ∧
  (∀ (d : Nat) (lv : List (Option Value)) (st : List Value) (M : jx_M) (Q : jx_Po), jx_Ev d 121 63 lv (.ref 36 :: st) M Q ↔ jx_Ev d 121 66 lv (.ref 55 :: st) M Q) ∧
  (∀ (d : Nat) (st : List Value) (M : jx_M) (Q : jx_Po) (l1 l2 l3 : Option Value) (x : Nat), jx_Ev d 121 66 [some (.ref x), l1, l2, l3] st M Q ↔ jx_Ev d 121 67 [some (.ref x), l1, l2, l3] (.ref x :: st) M Q) ∧
  (∀ (d : Nat) (lv : List (Option Value)) (st : List Value) (M : jx_M) (Q : jx_Po), jx_Ev d 121 67 lv (.ref 36 :: st) M Q ↔ jx_Ev d 121 70 lv (.int (M 36 27) :: st) M Q) ∧
  (∀ (d : Nat) (st : List Value) (M : jx_M) (Q : jx_Po) (l0 l1 l2 : Option Value) (x : Int32), jx_Ev d 121 70 [l0, l1, l2, some (.int x)] st M Q ↔ jx_Ev d 121 71 [l0, l1, l2, some (.int x)] (.int x :: st) M Q) ∧
  (∀ (d : Nat) (lv : List (Option Value)) (st : List Value) (M : jx_M) (Q : jx_Po) (x z : Int32) (a : Nat) (ha : jx_cl a = 9), jx_Ev d 121 71 lv (.int z :: .int x :: .ref a :: st) M Q ↔ (vp_in x (jx_sz a) ∧ jx_Ev d 121 72 lv st (jx_up M a x.toNatClampNeg z) Q)) ∧
  (∀ (d : Nat) (st : List Value) (M : jx_M) (Q : jx_Po) (l1 l2 l3 : Option Value) (x : Nat), jx_Ev d 121 72 [some (.ref x), l1, l2, l3] st M Q ↔ jx_Ev d 121 73 [some (.ref x), l1, l2, l3] (.ref x :: st) M Q) ∧
  (∀ (d : Nat) (lv : List (Option Value)) (st : List Value) (M : jx_M) (Q : jx_Po) (x : Nat), jx_Ev d 121 73 lv (.ref x :: st) M Q ↔ jx_Ev d 121 74 lv (.ref x :: .ref x :: st) M Q) ∧
  (∀ (d : Nat) (lv : List (Option Value)) (st : List Value) (M : jx_M) (Q : jx_Po), jx_Ev d 121 74 lv (.ref 36 :: st) M Q ↔ jx_Ev d 121 77 lv (.int (M 36 27) :: st) M Q) ∧
  (∀ (d : Nat) (lv : List (Option Value)) (st : List Value) (M : jx_M) (Q : jx_Po), jx_Ev d 121 77 lv st M Q ↔ jx_Ev d 121 78 lv (.int 1 :: st) M Q) ∧
  (∀ (d : Nat) (lv : List (Option Value)) (st : List Value) (M : jx_M) (Q : jx_Po) (x z : Int32), jx_Ev d 121 78 lv (.int z :: .int x :: st) M Q ↔ jx_Ev d 121 79 lv (.int (x + z) :: st) M Q) ∧
  (∀ (d : Nat) (lv : List (Option Value)) (st : List Value) (M : jx_M) (Q : jx_Po) (x : Int32), jx_Ev d 121 79 lv (.int x :: .ref 36 :: st) M Q ↔ jx_Ev d 121 82 lv st (jx_up M 36 27 x) Q) ∧
  (∀ (d : Nat) (st : List Value) (M : jx_M) (Q : jx_Po) (l1 l2 l3 : Option Value) (x : Nat), jx_Ev d 121 82 [some (.ref x), l1, l2, l3] st M Q ↔ jx_Ev d 121 83 [some (.ref x), l1, l2, l3] (.ref x :: st) M Q) ∧
  (∀ (d : Nat) (lv : List (Option Value)) (st : List Value) (M : jx_M) (Q : jx_Po), jx_Ev d 121 83 lv (.ref 36 :: st) M Q ↔ jx_Ev d 121 86 lv (.int (M 36 27) :: st) M Q) ∧
  (∀ (d : Nat) (lv : List (Option Value)) (st : List Value) (M : jx_M) (Q : jx_Po), jx_Ev d 121 86 lv st M Q ↔ jx_Ev d 121 87 lv (.int 1 :: st) M Q) ∧
  (∀ (d : Nat) (lv : List (Option Value)) (st : List Value) (M : jx_M) (Q : jx_Po) (x z : Int32), jx_Ev d 121 87 lv (.int z :: .int x :: st) M Q ↔ jx_Ev d 121 88 lv (.int (x - z) :: st) M Q) ∧
  (∀ (d : Nat) (lv : List (Option Value)) (M : jx_M) (Q : jx_Po) (x : Int32), jx_Ev d 121 88 lv [.int x] M Q ↔ Q [.int x] M) := by
  refine ⟨?_, ?_, ?_, ?_, ?_, ?_, ?_, ?_, ?_, ?_, ?_, ?_, ?_, ?_, ?_, ?_, ?_, ?_, ?_, ?_, ?_, ?_, ?_, ?_, ?_, ?_, ?_, ?_, ?_, ?_, ?_, ?_, ?_, ?_, ?_, ?_, ?_, ?_, ?_, ?_, ?_, ?_, ?_, ?_, ?_, ?_, ?_, ?_, ?_, ?_, ?_⟩
  · exact fun d st M Q l1 l2 l3 x => jx_ev_st (jx_fok (by decide +kernel : decode (jx_mb 121) 0 = .ok (.aload_n 0, 1))) rfl rfl rfl
  · exact fun d st M Q l0 l2 l3 x => jx_ev_st (jx_fok (by decide +kernel : decode (jx_mb 121) 1 = .ok (.iload_n 1, 1))) rfl rfl rfl
  · exact fun d lv M Q a0 => jx_ev_ci (jx_fok (by decide +kernel : decode (jx_mb 121) 2 = .ok (.invokevirtual 148, 3))) rfl (jx_ccV (As := [.int a0]) (rest := []) rfl rfl rfl rfl rfl rfl) (by decide)
  · exact fun d lv st M Q x => jx_k_b1n (jx_fok (by decide +kernel : decode (jx_mb 121) 5 = .ok (.ifCond .ne 5, 3))) rfl jx_hNe
  · exact fun d lv st M Q => jx_ev_st (jx_fok (by decide +kernel : decode (jx_mb 121) 8 = .ok (.iconst (-1), 1))) rfl rfl rfl
  · exact fun d lv M Q x => jx_k_ri (jx_fok (by decide +kernel : decode (jx_mb 121) 9 = .ok (.ireturn, 1))) rfl
  · exact fun d st M Q l0 l1 l3 x => jx_ev_st (jx_fok (by decide +kernel : decode (jx_mb 121) 10 = .ok (.iload_n 2, 1))) rfl rfl rfl
  · exact fun d lv M Q a0 => jx_ev_ci (jx_fok (by decide +kernel : decode (jx_mb 121) 11 = .ok (.invokestatic 151, 3))) rfl (jx_ccS (As := [.int a0]) (rest := []) rfl rfl rfl rfl rfl) (by decide)
  · exact fun d lv st M Q x => jx_k_b1 (jx_fok (by decide +kernel : decode (jx_mb 121) 14 = .ok (.ifCond .eq 13, 3))) rfl jx_hEq
  · exact fun d st M Q l0 l1 l2 x => jx_ev_st (jx_fok (by decide +kernel : decode (jx_mb 121) 17 = .ok (.iload_n 3, 1))) rfl rfl rfl
  · exact fun d lv st M Q => jx_ev_st (jx_fok (by decide +kernel : decode (jx_mb 121) 18 = .ok (.iconst 0, 1))) rfl rfl rfl
  · exact fun d lv st M Q => jx_ev_st (jx_fok (by decide +kernel : decode (jx_mb 121) 19 = .ok (.bipush 99, 2))) rfl rfl rfl
  · exact fun d lv M Q a0 a1 a2 => jx_ev_ci (jx_fok (by decide +kernel : decode (jx_mb 121) 21 = .ok (.invokestatic 73, 3))) rfl (jx_ccS (As := [.int a2, .int a1, .int a0]) (rest := []) rfl rfl rfl rfl rfl) (by decide)
  · exact fun d lv st M Q x => jx_k_b1n (jx_fok (by decide +kernel : decode (jx_mb 121) 24 = .ok (.ifCond .ne 6, 3))) rfl jx_hNe
  · exact fun d lv st M Q => jx_ev_st (jx_fok (by decide +kernel : decode (jx_mb 121) 27 = .ok (.bipush (-2), 2))) rfl rfl rfl
  · exact fun d lv M Q x => jx_k_ri (jx_fok (by decide +kernel : decode (jx_mb 121) 29 = .ok (.ireturn, 1))) rfl
  · exact fun d st M Q l1 l2 l3 x => jx_ev_st (jx_fok (by decide +kernel : decode (jx_mb 121) 30 = .ok (.aload_n 0, 1))) rfl rfl rfl
  · exact fun d lv st M Q => jx_k_gf (jx_fok (by decide +kernel : decode (jx_mb 121) 31 = .ok (.getfield 125, 3))) rfl rfl rfl
  · exact fun d lv st M Q => jx_ev_st (jx_fok (by decide +kernel : decode (jx_mb 121) 34 = .ok (.bipush 8, 2))) rfl rfl rfl
  · exact fun d lv st M Q x z => jx_k_b2n (jx_fok (by decide +kernel : decode (jx_mb 121) 36 = .ok (.if_icmp .ne 6, 3))) rfl jx_hNe
  · exact fun d lv st M Q => jx_ev_st (jx_fok (by decide +kernel : decode (jx_mb 121) 39 = .ok (.bipush (-4), 2))) rfl rfl rfl
  · exact fun d lv M Q x => jx_k_ri (jx_fok (by decide +kernel : decode (jx_mb 121) 41 = .ok (.ireturn, 1))) rfl
  · exact fun d st M Q l1 l2 l3 x => jx_ev_st (jx_fok (by decide +kernel : decode (jx_mb 121) 42 = .ok (.aload_n 0, 1))) rfl rfl rfl
  · exact fun d lv st M Q => jx_k_gf (jx_fok (by decide +kernel : decode (jx_mb 121) 43 = .ok (.getfield 58, 3))) rfl rfl rfl
  · exact fun d st M Q l1 l2 l3 x => jx_ev_st (jx_fok (by decide +kernel : decode (jx_mb 121) 46 = .ok (.aload_n 0, 1))) rfl rfl rfl
  · exact fun d lv st M Q => jx_k_gf (jx_fok (by decide +kernel : decode (jx_mb 121) 47 = .ok (.getfield 125, 3))) rfl rfl rfl
  · exact fun d st M Q l0 l2 l3 x => jx_ev_st (jx_fok (by decide +kernel : decode (jx_mb 121) 50 = .ok (.iload_n 1, 1))) rfl rfl rfl
  · exact fun d lv st M Q x z a ha => jx_k_as (jx_fok (by decide +kernel : decode (jx_mb 121) 51 = .ok (.iastore, 1))) ha
  · exact fun d st M Q l1 l2 l3 x => jx_ev_st (jx_fok (by decide +kernel : decode (jx_mb 121) 52 = .ok (.aload_n 0, 1))) rfl rfl rfl
  · exact fun d lv st M Q => jx_k_gf (jx_fok (by decide +kernel : decode (jx_mb 121) 53 = .ok (.getfield 61, 3))) rfl rfl rfl
  · exact fun d st M Q l1 l2 l3 x => jx_ev_st (jx_fok (by decide +kernel : decode (jx_mb 121) 56 = .ok (.aload_n 0, 1))) rfl rfl rfl
  · exact fun d lv st M Q => jx_k_gf (jx_fok (by decide +kernel : decode (jx_mb 121) 57 = .ok (.getfield 125, 3))) rfl rfl rfl
  · exact fun d st M Q l0 l1 l3 x => jx_ev_st (jx_fok (by decide +kernel : decode (jx_mb 121) 60 = .ok (.iload_n 2, 1))) rfl rfl rfl
  · exact fun d lv st M Q x z a ha => jx_k_as (jx_fok (by decide +kernel : decode (jx_mb 121) 61 = .ok (.iastore, 1))) ha
  · exact fun d st M Q l1 l2 l3 x => jx_ev_st (jx_fok (by decide +kernel : decode (jx_mb 121) 62 = .ok (.aload_n 0, 1))) rfl rfl rfl
  · exact fun d lv st M Q => jx_k_gf (jx_fok (by decide +kernel : decode (jx_mb 121) 63 = .ok (.getfield 64, 3))) rfl rfl rfl
  · exact fun d st M Q l1 l2 l3 x => jx_ev_st (jx_fok (by decide +kernel : decode (jx_mb 121) 66 = .ok (.aload_n 0, 1))) rfl rfl rfl
  · exact fun d lv st M Q => jx_k_gf (jx_fok (by decide +kernel : decode (jx_mb 121) 67 = .ok (.getfield 125, 3))) rfl rfl rfl
  · exact fun d st M Q l0 l1 l2 x => jx_ev_st (jx_fok (by decide +kernel : decode (jx_mb 121) 70 = .ok (.iload_n 3, 1))) rfl rfl rfl
  · exact fun d lv st M Q x z a ha => jx_k_as (jx_fok (by decide +kernel : decode (jx_mb 121) 71 = .ok (.iastore, 1))) ha
  · exact fun d st M Q l1 l2 l3 x => jx_ev_st (jx_fok (by decide +kernel : decode (jx_mb 121) 72 = .ok (.aload_n 0, 1))) rfl rfl rfl
  · exact fun d lv st M Q x => jx_ev_st (jx_fok (by decide +kernel : decode (jx_mb 121) 73 = .ok (.dup, 1))) rfl rfl rfl
  · exact fun d lv st M Q => jx_k_gf (jx_fok (by decide +kernel : decode (jx_mb 121) 74 = .ok (.getfield 125, 3))) rfl rfl rfl
  · exact fun d lv st M Q => jx_ev_st (jx_fok (by decide +kernel : decode (jx_mb 121) 77 = .ok (.iconst 1, 1))) rfl rfl rfl
  · exact fun d lv st M Q x z => jx_ev_st (jx_fok (by decide +kernel : decode (jx_mb 121) 78 = .ok (.iadd, 1))) rfl rfl rfl
  · exact fun d lv st M Q x => jx_k_pf0 (jx_fok (by decide +kernel : decode (jx_mb 121) 79 = .ok (.putfield 125, 3))) rfl rfl rfl
  · exact fun d st M Q l1 l2 l3 x => jx_ev_st (jx_fok (by decide +kernel : decode (jx_mb 121) 82 = .ok (.aload_n 0, 1))) rfl rfl rfl
  · exact fun d lv st M Q => jx_k_gf (jx_fok (by decide +kernel : decode (jx_mb 121) 83 = .ok (.getfield 125, 3))) rfl rfl rfl
  · exact fun d lv st M Q => jx_ev_st (jx_fok (by decide +kernel : decode (jx_mb 121) 86 = .ok (.iconst 1, 1))) rfl rfl rfl
  · exact fun d lv st M Q x z => jx_ev_st (jx_fok (by decide +kernel : decode (jx_mb 121) 87 = .ok (.isub, 1))) rfl rfl rfl
  · exact fun d lv M Q x => jx_k_ri (jx_fok (by decide +kernel : decode (jx_mb 121) 88 = .ok (.ireturn, 1))) rfl
theorem kX8_reading (d : Nat) (M : jx_M) (q : Int32 → jx_M → Prop) (a0 a1 a2 a3 : Value) : jx_I d 121 [a0, a1, a2, a3] M q ↔ jx_Ev d 121 0 [some a0, some a1, some a2, some a3] [] M (jx_qI q) := Iff.rfl
set_option maxRecDepth 100000 in
theorem eX8_back :
  (∀ (d : Nat) (st : List Value) (M : jx_M) (Q : jx_Po) (l0 : Option Value) (x : Int32), jx_Ev d 122 0 [l0, some (.int x)] st M Q ↔ jx_Ev d 122 1 [l0, some (.int x)] (.int x :: st) M Q) ∧
  (∀ (d : Nat) (lv : List (Option Value)) (st : List Value) (M : jx_M) (Q : jx_Po), jx_Ev d 122 1 lv st M Q ↔ jx_Ev d 122 2 lv (.int 0 :: st) M Q) ∧
  (∀ (d : Nat) (st : List Value) (M : jx_M) (Q : jx_Po) (l1 : Option Value) (x : Nat), jx_Ev d 122 2 [some (.ref x), l1] st M Q ↔ jx_Ev d 122 3 [some (.ref x), l1] (.ref x :: st) M Q) ∧
  (∀ (d : Nat) (lv : List (Option Value)) (st : List Value) (M : jx_M) (Q : jx_Po), jx_Ev d 122 3 lv (.ref 36 :: st) M Q ↔ jx_Ev d 122 6 lv (.int (M 36 27) :: st) M Q) ∧
  (∀ (d : Nat) (lv : List (Option Value)) (M : jx_M) (Q : jx_Po) (a0 : Int32) (a1 : Int32) (a2 : Int32), jx_Ev (d + 1) 122 6 lv [.int a0, .int a1, .int a2] M Q ↔ jx_I d 86 [.int a2, .int a1, .int a0] M (fun x M => jx_Ev (d + 1) 122 9 lv (.int x :: []) M Q)) ∧
  (∀ (d : Nat) (lv : List (Option Value)) (st : List Value) (M : jx_M) (Q : jx_Po) (x : Int32), jx_Ev d 122 9 lv (.int x :: st) M Q ↔ (if x = 0 then jx_Ev d 122 12 lv st M Q else jx_Ev d 122 15 lv st M Q)) ∧
  (∀ (d : Nat) (lv : List (Option Value)) (st : List Value) (M : jx_M) (Q : jx_Po), jx_Ev d 122 12 lv st M Q ↔ jx_Ev d 122 14 lv (.int (-2) :: st) M Q) ∧
  (∀ (d : Nat) (lv : List (Option Value)) (M : jx_M) (Q : jx_Po) (x : Int32), jx_Ev d 122 14 lv [.int x] M Q ↔ Q [.int x] M) ∧
  (∀ (d : Nat) (st : List Value) (M : jx_M) (Q : jx_Po) (l1 : Option Value) (x : Nat), jx_Ev d 122 15 [some (.ref x), l1] st M Q ↔ jx_Ev d 122 16 [some (.ref x), l1] (.ref x :: st) M Q) ∧
  (∀ (d : Nat) (lv : List (Option Value)) (st : List Value) (M : jx_M) (Q : jx_Po) (x : Nat), jx_Ev d 122 16 lv (.ref x :: st) M Q ↔ jx_Ev d 122 17 lv (.ref x :: .ref x :: st) M Q) ∧
  (∀ (d : Nat) (lv : List (Option Value)) (st : List Value) (M : jx_M) (Q : jx_Po), jx_Ev d 122 17 lv (.ref 36 :: st) M Q ↔ jx_Ev d 122 20 lv (.int (M 36 27) :: st) M Q) ∧
  (∀ (d : Nat) (st : List Value) (M : jx_M) (Q : jx_Po) (l0 : Option Value) (x : Int32), jx_Ev d 122 20 [l0, some (.int x)] st M Q ↔ jx_Ev d 122 21 [l0, some (.int x)] (.int x :: st) M Q) ∧
  (∀ (d : Nat) (lv : List (Option Value)) (st : List Value) (M : jx_M) (Q : jx_Po) (x z : Int32), jx_Ev d 122 21 lv (.int z :: .int x :: st) M Q ↔ jx_Ev d 122 22 lv (.int (x - z) :: st) M Q) ∧
  (∀ (d : Nat) (lv : List (Option Value)) (st : List Value) (M : jx_M) (Q : jx_Po) (x : Int32), jx_Ev d 122 22 lv (.int x :: .ref 36 :: st) M Q ↔ jx_Ev d 122 25 lv st (jx_up M 36 27 x) Q) ∧
  (∀ (d : Nat) (st : List Value) (M : jx_M) (Q : jx_Po) (l1 : Option Value) (x : Nat), jx_Ev d 122 25 [some (.ref x), l1] st M Q ↔ jx_Ev d 122 26 [some (.ref x), l1] (.ref x :: st) M Q) ∧
  (∀ (d : Nat) (lv : List (Option Value)) (st : List Value) (M : jx_M) (Q : jx_Po), jx_Ev d 122 26 lv (.ref 36 :: st) M Q ↔ jx_Ev d 122 29 lv (.int (M 36 27) :: st) M Q) ∧
  (∀ (d : Nat) (lv : List (Option Value)) (M : jx_M) (Q : jx_Po) (x : Int32), jx_Ev d 122 29 lv [.int x] M Q ↔ Q [.int x] M) := by
  refine ⟨?_, ?_, ?_, ?_, ?_, ?_, ?_, ?_, ?_, ?_, ?_, ?_, ?_, ?_, ?_, ?_, ?_⟩
  · exact fun d st M Q l0 x => jx_ev_st (jx_fok (by decide +kernel : decode (jx_mb 122) 0 = .ok (.iload_n 1, 1))) rfl rfl rfl
  · exact fun d lv st M Q => jx_ev_st (jx_fok (by decide +kernel : decode (jx_mb 122) 1 = .ok (.iconst 0, 1))) rfl rfl rfl
  · exact fun d st M Q l1 x => jx_ev_st (jx_fok (by decide +kernel : decode (jx_mb 122) 2 = .ok (.aload_n 0, 1))) rfl rfl rfl
  · exact fun d lv st M Q => jx_k_gf (jx_fok (by decide +kernel : decode (jx_mb 122) 3 = .ok (.getfield 125, 3))) rfl rfl rfl
  · exact fun d lv M Q a0 a1 a2 => jx_ev_ci (jx_fok (by decide +kernel : decode (jx_mb 122) 6 = .ok (.invokestatic 73, 3))) rfl (jx_ccS (As := [.int a2, .int a1, .int a0]) (rest := []) rfl rfl rfl rfl rfl) (by decide)
  · exact fun d lv st M Q x => jx_k_b1n (jx_fok (by decide +kernel : decode (jx_mb 122) 9 = .ok (.ifCond .ne 6, 3))) rfl jx_hNe
  · exact fun d lv st M Q => jx_ev_st (jx_fok (by decide +kernel : decode (jx_mb 122) 12 = .ok (.bipush (-2), 2))) rfl rfl rfl
  · exact fun d lv M Q x => jx_k_ri (jx_fok (by decide +kernel : decode (jx_mb 122) 14 = .ok (.ireturn, 1))) rfl
  · exact fun d st M Q l1 x => jx_ev_st (jx_fok (by decide +kernel : decode (jx_mb 122) 15 = .ok (.aload_n 0, 1))) rfl rfl rfl
  · exact fun d lv st M Q x => jx_ev_st (jx_fok (by decide +kernel : decode (jx_mb 122) 16 = .ok (.dup, 1))) rfl rfl rfl
  · exact fun d lv st M Q => jx_k_gf (jx_fok (by decide +kernel : decode (jx_mb 122) 17 = .ok (.getfield 125, 3))) rfl rfl rfl
  · exact fun d st M Q l0 x => jx_ev_st (jx_fok (by decide +kernel : decode (jx_mb 122) 20 = .ok (.iload_n 1, 1))) rfl rfl rfl
  · exact fun d lv st M Q x z => jx_ev_st (jx_fok (by decide +kernel : decode (jx_mb 122) 21 = .ok (.isub, 1))) rfl rfl rfl
  · exact fun d lv st M Q x => jx_k_pf0 (jx_fok (by decide +kernel : decode (jx_mb 122) 22 = .ok (.putfield 125, 3))) rfl rfl rfl
  · exact fun d st M Q l1 x => jx_ev_st (jx_fok (by decide +kernel : decode (jx_mb 122) 25 = .ok (.aload_n 0, 1))) rfl rfl rfl
  · exact fun d lv st M Q => jx_k_gf (jx_fok (by decide +kernel : decode (jx_mb 122) 26 = .ok (.getfield 125, 3))) rfl rfl rfl
  · exact fun d lv M Q x => jx_k_ri (jx_fok (by decide +kernel : decode (jx_mb 122) 29 = .ok (.ireturn, 1))) rfl
theorem kX8_back (d : Nat) (M : jx_M) (q : Int32 → jx_M → Prop) (a0 a1 : Value) : jx_I d 122 [a0, a1] M q ↔ jx_Ev d 122 0 [some a0, some a1] [] M (jx_qI q) := Iff.rfl
set_option maxRecDepth 100000 in
theorem eX8_areSo :
  (∀ (d : Nat) (lv : List (Option Value)) (st : List Value) (M : jx_M) (Q : jx_Po), jx_Ev d 123 0 lv st M Q ↔ jx_Ev d 123 1 lv (.int 0 :: st) M Q) ∧
  (∀ (d : Nat) (st : List Value) (M : jx_M) (Q : jx_Po) (l0 l1 : Option Value) (x : Int32), jx_Ev d 123 1 [l0, l1] (.int x :: st) M Q ↔ jx_Ev d 123 2 [l0, some (.int x)] st M Q) ∧
  (∀ (d : Nat) (st : List Value) (M : jx_M) (Q : jx_Po) (l1 : Option Value) (x : Nat), jx_Ev d 123 3 [some (.ref x), l1] st M Q ↔ jx_Ev d 123 4 [some (.ref x), l1] (.ref x :: st) M Q) ∧
  (∀ (d : Nat) (lv : List (Option Value)) (st : List Value) (M : jx_M) (Q : jx_Po), jx_Ev d 123 4 lv (.ref 36 :: st) M Q ↔ jx_Ev d 123 7 lv (.int (M 36 27) :: st) M Q) ∧
  (∀ (d : Nat) (lv : List (Option Value)) (st : List Value) (M : jx_M) (Q : jx_Po) (x z : Int32), jx_Ev d 123 7 lv (.int z :: .int x :: st) M Q ↔ (if z ≤ x then jx_Ev d 123 43 lv st M Q else jx_Ev d 123 10 lv st M Q)) ∧
  (∀ (d : Nat) (st : List Value) (M : jx_M) (Q : jx_Po) (l1 : Option Value) (x : Nat), jx_Ev d 123 10 [some (.ref x), l1] st M Q ↔ jx_Ev d 123 11 [some (.ref x), l1] (.ref x :: st) M Q) ∧
  (∀ (d : Nat) (st : List Value) (M : jx_M) (Q : jx_Po) (l1 : Option Value) (x : Nat), jx_Ev d 123 11 [some (.ref x), l1] st M Q ↔ jx_Ev d 123 12 [some (.ref x), l1] (.ref x :: st) M Q) ∧
  (∀ (d : Nat) (lv : List (Option Value)) (st : List Value) (M : jx_M) (Q : jx_Po), jx_Ev d 123 12 lv (.ref 36 :: st) M Q ↔ jx_Ev d 123 15 lv (.ref 53 :: st) M Q) ∧
  (∀ (d : Nat) (st : List Value) (M : jx_M) (Q : jx_Po) (l0 : Option Value) (x : Int32), jx_Ev d 123 15 [l0, some (.int x)] st M Q ↔ jx_Ev d 123 16 [l0, some (.int x)] (.int x :: st) M Q) ∧
  (∀ (d : Nat) (lv : List (Option Value)) (st : List Value) (M : jx_M) (Q : jx_Po) (x : Int32) (a : Nat) (ha : jx_cl a = 9), jx_Ev d 123 16 lv (.int x :: .ref a :: st) M Q ↔ (vp_in x (jx_sz a) ∧ jx_Ev d 123 17 lv (.int (M a x.toNatClampNeg) :: st) M Q)) ∧
  (∀ (d : Nat) (st : List Value) (M : jx_M) (Q : jx_Po) (l1 : Option Value) (x : Nat), jx_Ev d 123 17 [some (.ref x), l1] st M Q ↔ jx_Ev d 123 18 [some (.ref x), l1] (.ref x :: st) M Q) ∧
  (∀ (d : Nat) (lv : List (Option Value)) (st : List Value) (M : jx_M) (Q : jx_Po), jx_Ev d 123 18 lv (.ref 36 :: st) M Q ↔ jx_Ev d 123 21 lv (.ref 54 :: st) M Q) ∧
  (∀ (d : Nat) (st : List Value) (M : jx_M) (Q : jx_Po) (l0 : Option Value) (x : Int32), jx_Ev d 123 21 [l0, some (.int x)] st M Q ↔ jx_Ev d 123 22 [l0, some (.int x)] (.int x :: st) M Q) ∧
  (∀ (d : Nat) (lv : List (Option Value)) (st : List Value) (M : jx_M) (Q : jx_Po) (x : Int32) (a : Nat) (ha : jx_cl a = 9), jx_Ev d 123 22 lv (.int x :: .ref a :: st) M Q ↔ (vp_in x (jx_sz a) ∧ jx_Ev d 123 23 lv (.int (M a x.toNatClampNeg) :: st) M Q)) ∧
  (∀ (d : Nat) (lv : List (Option Value)) (M : jx_M) (Q : jx_Po) (a0 : Int32) (a1 : Int32), jx_Ev (d + 1) 123 23 lv [.int a0, .int a1, .ref 36] M Q ↔ jx_I d 105 [.ref 36, .int a1, .int a0] M (fun x M => jx_Ev (d + 1) 123 26 lv (.int x :: []) M Q)) ∧
  (∀ (d : Nat) (st : List Value) (M : jx_M) (Q : jx_Po) (l1 : Option Value) (x : Nat), jx_Ev d 123 26 [some (.ref x), l1] st M Q ↔ jx_Ev d 123 27 [some (.ref x), l1] (.ref x :: st) M Q) ∧
  (∀ (d : Nat) (lv : List (Option Value)) (st : List Value) (M : jx_M) (Q : jx_Po), jx_Ev d 123 27 lv (.ref 36 :: st) M Q ↔ jx_Ev d 123 30 lv (.ref 55 :: st) M Q) ∧
  (∀ (d : Nat) (st : List Value) (M : jx_M) (Q : jx_Po) (l0 : Option Value) (x : Int32), jx_Ev d 123 30 [l0, some (.int x)] st M Q ↔ jx_Ev d 123 31 [l0, some (.int x)] (.int x :: st) M Q) ∧
  (∀ (d : Nat) (lv : List (Option Value)) (st : List Value) (M : jx_M) (Q : jx_Po) (x : Int32) (a : Nat) (ha : jx_cl a = 9), jx_Ev d 123 31 lv (.int x :: .ref a :: st) M Q ↔ (vp_in x (jx_sz a) ∧ jx_Ev d 123 32 lv (.int (M a x.toNatClampNeg) :: st) M Q)) ∧
  (∀ (d : Nat) (lv : List (Option Value)) (st : List Value) (M : jx_M) (Q : jx_Po) (x z : Int32), jx_Ev d 123 32 lv (.int z :: .int x :: st) M Q ↔ (if x = z then jx_Ev d 123 37 lv st M Q else jx_Ev d 123 35 lv st M Q)) ∧
  (∀ (d : Nat) (lv : List (Option Value)) (st : List Value) (M : jx_M) (Q : jx_Po), jx_Ev d 123 35 lv st M Q ↔ jx_Ev d 123 36 lv (.int 0 :: st) M Q) ∧
  (∀ (d : Nat) (lv : List (Option Value)) (M : jx_M) (Q : jx_Po) (x : Int32), jx_Ev d 123 36 lv [.int x] M Q ↔ ((x = 0 ∨ x = 1) ∧ Q [.int x] M)) ∧
  (∀ (d : Nat) (st : List Value) (M : jx_M) (Q : jx_Po) (l0 : Option Value) (x : Int32), jx_Ev d 123 37 [l0, some (.int x)] st M Q ↔ jx_Ev d 123 40 [l0, some (.int (x + 1))] st M Q) ∧
  (∀ (d : Nat) (lv : List (Option Value)) (st : List Value) (M : jx_M) (Q : jx_Po), jx_Ev d 123 40 lv st M Q ↔ jx_Ev d 123 2 lv st M Q) ∧
  (∀ (d : Nat) (lv : List (Option Value)) (st : List Value) (M : jx_M) (Q : jx_Po), jx_Ev d 123 43 lv st M Q ↔ jx_Ev d 123 44 lv (.int 1 :: st) M Q) ∧
  (∀ (d : Nat) (lv : List (Option Value)) (M : jx_M) (Q : jx_Po) (x : Int32), jx_Ev d 123 44 lv [.int x] M Q ↔ ((x = 0 ∨ x = 1) ∧ Q [.int x] M)) := by
  refine ⟨?_, ?_, ?_, ?_, ?_, ?_, ?_, ?_, ?_, ?_, ?_, ?_, ?_, ?_, ?_, ?_, ?_, ?_, ?_, ?_, ?_, ?_, ?_, ?_, ?_, ?_⟩
  · exact fun d lv st M Q => jx_ev_st (jx_fok (by decide +kernel : decode (jx_mb 123) 0 = .ok (.iconst 0, 1))) rfl rfl rfl
  · exact fun d st M Q l0 l1 x => jx_ev_st (jx_fok (by decide +kernel : decode (jx_mb 123) 1 = .ok (.istore_n 1, 1))) rfl rfl rfl
  · exact fun d st M Q l1 x => jx_ev_st (jx_fok (by decide +kernel : decode (jx_mb 123) 3 = .ok (.aload_n 0, 1))) rfl rfl rfl
  · exact fun d lv st M Q => jx_k_gf (jx_fok (by decide +kernel : decode (jx_mb 123) 4 = .ok (.getfield 125, 3))) rfl rfl rfl
  · exact fun d lv st M Q x z => jx_k_b2 (jx_fok (by decide +kernel : decode (jx_mb 123) 7 = .ok (.if_icmp .ge 36, 3))) rfl jx_hGe
  · exact fun d st M Q l1 x => jx_ev_st (jx_fok (by decide +kernel : decode (jx_mb 123) 10 = .ok (.aload_n 0, 1))) rfl rfl rfl
  · exact fun d st M Q l1 x => jx_ev_st (jx_fok (by decide +kernel : decode (jx_mb 123) 11 = .ok (.aload_n 0, 1))) rfl rfl rfl
  · exact fun d lv st M Q => jx_k_gf (jx_fok (by decide +kernel : decode (jx_mb 123) 12 = .ok (.getfield 58, 3))) rfl rfl rfl
  · exact fun d st M Q l0 x => jx_ev_st (jx_fok (by decide +kernel : decode (jx_mb 123) 15 = .ok (.iload_n 1, 1))) rfl rfl rfl
  · exact fun d lv st M Q x a ha => jx_k_al (jx_fok (by decide +kernel : decode (jx_mb 123) 16 = .ok (.iaload, 1))) ha
  · exact fun d st M Q l1 x => jx_ev_st (jx_fok (by decide +kernel : decode (jx_mb 123) 17 = .ok (.aload_n 0, 1))) rfl rfl rfl
  · exact fun d lv st M Q => jx_k_gf (jx_fok (by decide +kernel : decode (jx_mb 123) 18 = .ok (.getfield 61, 3))) rfl rfl rfl
  · exact fun d st M Q l0 x => jx_ev_st (jx_fok (by decide +kernel : decode (jx_mb 123) 21 = .ok (.iload_n 1, 1))) rfl rfl rfl
  · exact fun d lv st M Q x a ha => jx_k_al (jx_fok (by decide +kernel : decode (jx_mb 123) 22 = .ok (.iaload, 1))) ha
  · exact fun d lv M Q a0 a1 => jx_ev_ci (jx_fok (by decide +kernel : decode (jx_mb 123) 23 = .ok (.invokevirtual 154, 3))) rfl (jx_ccV (As := [.int a1, .int a0]) (rest := []) rfl rfl rfl rfl rfl rfl) (by decide)
  · exact fun d st M Q l1 x => jx_ev_st (jx_fok (by decide +kernel : decode (jx_mb 123) 26 = .ok (.aload_n 0, 1))) rfl rfl rfl
  · exact fun d lv st M Q => jx_k_gf (jx_fok (by decide +kernel : decode (jx_mb 123) 27 = .ok (.getfield 64, 3))) rfl rfl rfl
  · exact fun d st M Q l0 x => jx_ev_st (jx_fok (by decide +kernel : decode (jx_mb 123) 30 = .ok (.iload_n 1, 1))) rfl rfl rfl
  · exact fun d lv st M Q x a ha => jx_k_al (jx_fok (by decide +kernel : decode (jx_mb 123) 31 = .ok (.iaload, 1))) ha
  · exact fun d lv st M Q x z => jx_k_b2 (jx_fok (by decide +kernel : decode (jx_mb 123) 32 = .ok (.if_icmp .eq 5, 3))) rfl jx_hEq
  · exact fun d lv st M Q => jx_ev_st (jx_fok (by decide +kernel : decode (jx_mb 123) 35 = .ok (.iconst 0, 1))) rfl rfl rfl
  · exact fun d lv M Q x => jx_k_rz (jx_fok (by decide +kernel : decode (jx_mb 123) 36 = .ok (.ireturn, 1))) rfl
  · exact fun d st M Q l0 x => jx_ev_st (jx_fok (by decide +kernel : decode (jx_mb 123) 37 = .ok (.iinc 1 1, 3))) rfl rfl rfl
  · exact fun d lv st M Q => jx_k_goto (jx_fok (by decide +kernel : decode (jx_mb 123) 40 = .ok (.goto (-38), 3))) rfl
  · exact fun d lv st M Q => jx_ev_st (jx_fok (by decide +kernel : decode (jx_mb 123) 43 = .ok (.iconst 1, 1))) rfl rfl rfl
  · exact fun d lv M Q x => jx_k_rz (jx_fok (by decide +kernel : decode (jx_mb 123) 44 = .ok (.ireturn, 1))) rfl
theorem eX8_areSo_2 (d : Nat) (st : List Value) (M : jx_M) (Q : jx_Po) (l0 : Option Value) (x : Int32) : jx_Ev d 123 2 [l0, some (.int x)] st M Q ↔ jx_Ev d 123 3 [l0, some (.int x)] (.int x :: st) M Q := jx_ev_st (jx_fok (by decide +kernel : decode (jx_mb 123) 2 = .ok (.iload_n 1, 1))) rfl rfl rfl
theorem kX8_areSo (d : Nat) (M : jx_M) (q : Int32 → jx_M → Prop) (a0 : Value) : jx_I d 123 [a0] M q ↔ jx_Ev d 123 0 [some a0, none] [] M (jx_qI q) := Iff.rfl
set_option maxRecDepth 100000 in
theorem eX8_sizes :
  (∀ (d : Nat) (st : List Value) (M : jx_M) (Q : jx_Po) (l1 l2 l3 l4 : Option Value) (x : Nat), jx_Ev d 124 0 [some (.ref x), l1, l2, l3, l4] st M Q ↔ jx_Ev d 124 1 [some (.ref x), l1, l2, l3, l4] (.ref x :: st) M Q) ∧
  (∀ (d : Nat) (st : List Value) (M : jx_M) (Q : jx_Po) (l0 l2 l3 l4 : Option Value) (x : Int32), jx_Ev d 124 1 [l0, some (.int x), l2, l3, l4] st M Q ↔ jx_Ev d 124 2 [l0, some (.int x), l2, l3, l4] (.int x :: st) M Q) ∧
  (∀ (d : Nat) (lv : List (Option Value)) (M : jx_M) (Q : jx_Po) (a0 : Int32), jx_Ev (d + 1) 124 2 lv [.int a0, .ref 36] M Q ↔ jx_I d 91 [.ref 36, .int a0] M (fun x M => jx_Ev (d + 1) 124 5 lv (.int x :: []) M Q)) ∧
  (∀ (d : Nat) (lv : List (Option Value)) (st : List Value) (M : jx_M) (Q : jx_Po) (x : Int32), jx_Ev d 124 5 lv (.int x :: st) M Q ↔ (if x = 0 then jx_Ev d 124 8 lv st M Q else jx_Ev d 124 10 lv st M Q)) ∧
  (∀ (d : Nat) (lv : List (Option Value)) (st : List Value) (M : jx_M) (Q : jx_Po), jx_Ev d 124 8 lv st M Q ↔ jx_Ev d 124 9 lv (.int (-1) :: st) M Q) ∧
  (∀ (d : Nat) (lv : List (Option Value)) (M : jx_M) (Q : jx_Po) (x : Int32), jx_Ev d 124 9 lv [.int x] M Q ↔ Q [.int x] M) ∧
  (∀ (d : Nat) (st : List Value) (M : jx_M) (Q : jx_Po) (l1 l2 l3 l4 : Option Value) (x : Nat), jx_Ev d 124 10 [some (.ref x), l1, l2, l3, l4] st M Q ↔ jx_Ev d 124 11 [some (.ref x), l1, l2, l3, l4] (.ref x :: st) M Q) ∧
  (∀ (d : Nat) (lv : List (Option Value)) (st : List Value) (M : jx_M) (Q : jx_Po), jx_Ev d 124 11 lv (.ref 36 :: st) M Q ↔ jx_Ev d 124 14 lv (.ref 43 :: st) M Q) ∧
  (∀ (d : Nat) (st : List Value) (M : jx_M) (Q : jx_Po) (l0 l2 l3 l4 : Option Value) (x : Int32), jx_Ev d 124 14 [l0, some (.int x), l2, l3, l4] st M Q ↔ jx_Ev d 124 15 [l0, some (.int x), l2, l3, l4] (.int x :: st) M Q) ∧
  (∀ (d : Nat) (lv : List (Option Value)) (st : List Value) (M : jx_M) (Q : jx_Po) (x : Int32) (a : Nat) (ha : jx_cl a = 9), jx_Ev d 124 15 lv (.int x :: .ref a :: st) M Q ↔ (vp_in x (jx_sz a) ∧ jx_Ev d 124 16 lv (.int (M a x.toNatClampNeg) :: st) M Q)) ∧
  (∀ (d : Nat) (st : List Value) (M : jx_M) (Q : jx_Po) (l0 l1 l2 l3 l4 : Option Value) (x : Int32), jx_Ev d 124 16 [l0, l1, l2, l3, l4] (.int x :: st) M Q ↔ jx_Ev d 124 17 [l0, l1, some (.int x), l3, l4] st M Q) ∧
  (∀ (d : Nat) (lv : List (Option Value)) (st : List Value) (M : jx_M) (Q : jx_Po), jx_Ev d 124 17 lv st M Q ↔ jx_Ev d 124 18 lv (.int 0 :: st) M Q) ∧
  (∀ (d : Nat) (st : List Value) (M : jx_M) (Q : jx_Po) (l0 l1 l2 l3 l4 : Option Value) (x : Int32), jx_Ev d 124 18 [l0, l1, l2, l3, l4] (.int x :: st) M Q ↔ jx_Ev d 124 19 [l0, l1, l2, some (.int x), l4] st M Q) ∧
  (∀ (d : Nat) (lv : List (Option Value)) (st : List Value) (M : jx_M) (Q : jx_Po), jx_Ev d 124 19 lv st M Q ↔ jx_Ev d 124 20 lv (.int 1 :: st) M Q) ∧
  (∀ (d : Nat) (st : List Value) (M : jx_M) (Q : jx_Po) (l0 l1 l2 l3 l4 : Option Value) (x : Int32), jx_Ev d 124 20 [l0, l1, l2, l3, l4] (.int x :: st) M Q ↔ jx_Ev d 124 22 [l0, l1, l2, l3, some (.int x)] st M Q) ∧
  (∀ (d : Nat) (lv : List (Option Value)) (st : List Value) (M : jx_M) (Q : jx_Po), jx_Ev d 124 24 lv st M Q ↔ jx_Ev d 124 26 lv (.int 9 :: st) M Q) ∧
  (∀ (d : Nat) (lv : List (Option Value)) (st : List Value) (M : jx_M) (Q : jx_Po) (x z : Int32), jx_Ev d 124 26 lv (.int z :: .int x :: st) M Q ↔ (if z < x then jx_Ev d 124 61 lv st M Q else jx_Ev d 124 29 lv st M Q)) ∧
  (∀ (d : Nat) (st : List Value) (M : jx_M) (Q : jx_Po) (l1 l2 l3 l4 : Option Value) (x : Nat), jx_Ev d 124 29 [some (.ref x), l1, l2, l3, l4] st M Q ↔ jx_Ev d 124 30 [some (.ref x), l1, l2, l3, l4] (.ref x :: st) M Q) ∧
  (∀ (d : Nat) (lv : List (Option Value)) (st : List Value) (M : jx_M) (Q : jx_Po), jx_Ev d 124 30 lv (.ref 36 :: st) M Q ↔ jx_Ev d 124 33 lv (.ref 43 :: st) M Q) ∧
  (∀ (d : Nat) (st : List Value) (M : jx_M) (Q : jx_Po) (l0 l2 l3 l4 : Option Value) (x : Int32), jx_Ev d 124 33 [l0, some (.int x), l2, l3, l4] st M Q ↔ jx_Ev d 124 34 [l0, some (.int x), l2, l3, l4] (.int x :: st) M Q) ∧
  (∀ (d : Nat) (st : List Value) (M : jx_M) (Q : jx_Po) (l0 l1 l2 l3 : Option Value) (x : Int32), jx_Ev d 124 34 [l0, l1, l2, l3, some (.int x)] st M Q ↔ jx_Ev d 124 36 [l0, l1, l2, l3, some (.int x)] (.int x :: st) M Q) ∧
  (∀ (d : Nat) (lv : List (Option Value)) (st : List Value) (M : jx_M) (Q : jx_Po) (x z : Int32) (a : Nat) (ha : jx_cl a = 9), jx_Ev d 124 36 lv (.int z :: .int x :: .ref a :: st) M Q ↔ (vp_in x (jx_sz a) ∧ jx_Ev d 124 37 lv st (jx_up M a x.toNatClampNeg z) Q)) ∧
  (∀ (d : Nat) (st : List Value) (M : jx_M) (Q : jx_Po) (l0 l1 l2 l4 : Option Value) (x : Int32), jx_Ev d 124 37 [l0, l1, l2, some (.int x), l4] st M Q ↔ jx_Ev d 124 38 [l0, l1, l2, some (.int x), l4] (.int x :: st) M Q) ∧
  (∀ (d : Nat) (st : List Value) (M : jx_M) (Q : jx_Po) (l1 l2 l3 l4 : Option Value) (x : Nat), jx_Ev d 124 38 [some (.ref x), l1, l2, l3, l4] st M Q ↔ jx_Ev d 124 39 [some (.ref x), l1, l2, l3, l4] (.ref x :: st) M Q) ∧
  (∀ (d : Nat) (lv : List (Option Value)) (M : jx_M) (Q : jx_Po) (a1 : Int32), jx_Ev (d + 1) 124 39 lv [.ref 36, .int a1] M Q ↔ jx_I d 123 [.ref 36] M (fun x M => jx_Ev (d + 1) 124 42 lv (.int x :: [.int a1]) M Q)) ∧
  (∀ (d : Nat) (lv : List (Option Value)) (st : List Value) (M : jx_M) (Q : jx_Po) (x : Int32), jx_Ev d 124 42 lv (.int x :: st) M Q ↔ (if x = 0 then jx_Ev d 124 52 lv st M Q else jx_Ev d 124 45 lv st M Q)) ∧
  (∀ (d : Nat) (lv : List (Option Value)) (st : List Value) (M : jx_M) (Q : jx_Po), jx_Ev d 124 45 lv st M Q ↔ jx_Ev d 124 46 lv (.int 1 :: st) M Q) ∧
  (∀ (d : Nat) (st : List Value) (M : jx_M) (Q : jx_Po) (l0 l1 l2 l3 : Option Value) (x : Int32), jx_Ev d 124 46 [l0, l1, l2, l3, some (.int x)] st M Q ↔ jx_Ev d 124 48 [l0, l1, l2, l3, some (.int x)] (.int x :: st) M Q) ∧
  (∀ (d : Nat) (lv : List (Option Value)) (st : List Value) (M : jx_M) (Q : jx_Po) (x z : Int32), jx_Ev d 124 48 lv (.int z :: .int x :: st) M Q ↔ jx_Ev d 124 49 lv (.int (x <<< (z &&& 31)) :: st) M Q) ∧
  (∀ (d : Nat) (lv : List (Option Value)) (st : List Value) (M : jx_M) (Q : jx_Po), jx_Ev d 124 49 lv st M Q ↔ jx_Ev d 124 53 lv st M Q) ∧
  (∀ (d : Nat) (lv : List (Option Value)) (st : List Value) (M : jx_M) (Q : jx_Po), jx_Ev d 124 52 lv st M Q ↔ jx_Ev d 124 53 lv (.int 0 :: st) M Q) ∧
  (∀ (d : Nat) (lv : List (Option Value)) (st : List Value) (M : jx_M) (Q : jx_Po) (x z : Int32), jx_Ev d 124 53 lv (.int z :: .int x :: st) M Q ↔ jx_Ev d 124 54 lv (.int (x ||| z) :: st) M Q) ∧
  (∀ (d : Nat) (st : List Value) (M : jx_M) (Q : jx_Po) (l0 l1 l2 l3 l4 : Option Value) (x : Int32), jx_Ev d 124 54 [l0, l1, l2, l3, l4] (.int x :: st) M Q ↔ jx_Ev d 124 55 [l0, l1, l2, some (.int x), l4] st M Q) ∧
  (∀ (d : Nat) (st : List Value) (M : jx_M) (Q : jx_Po) (l0 l1 l2 l3 : Option Value) (x : Int32), jx_Ev d 124 55 [l0, l1, l2, l3, some (.int x)] st M Q ↔ jx_Ev d 124 58 [l0, l1, l2, l3, some (.int (x + 1))] st M Q) ∧
  (∀ (d : Nat) (lv : List (Option Value)) (st : List Value) (M : jx_M) (Q : jx_Po), jx_Ev d 124 58 lv st M Q ↔ jx_Ev d 124 22 lv st M Q) ∧
  (∀ (d : Nat) (st : List Value) (M : jx_M) (Q : jx_Po) (l1 l2 l3 l4 : Option Value) (x : Nat), jx_Ev d 124 61 [some (.ref x), l1, l2, l3, l4] st M Q ↔ jx_Ev d 124 62 [some (.ref x), l1, l2, l3, l4] (.ref x :: st) M Q) ∧
  (∀ (d : Nat) (lv : List (Option Value)) (st : List Value) (M : jx_M) (Q : jx_Po), jx_Ev d 124 62 lv (.ref 36 :: st) M Q ↔ jx_Ev d 124 65 lv (.ref 43 :: st) M Q) ∧
  (∀ (d : Nat) (st : List Value) (M : jx_M) (Q : jx_Po) (l0 l2 l3 l4 : Option Value) (x : Int32), jx_Ev d 124 65 [l0, some (.int x), l2, l3, l4] st M Q ↔ jx_Ev d 124 66 [l0, some (.int x), l2, l3, l4] (.int x :: st) M Q) ∧
  (∀ (d : Nat) (st : List Value) (M : jx_M) (Q : jx_Po) (l0 l1 l3 l4 : Option Value) (x : Int32), jx_Ev d 124 66 [l0, l1, some (.int x), l3, l4] st M Q ↔ jx_Ev d 124 67 [l0, l1, some (.int x), l3, l4] (.int x :: st) M Q) ∧
  (∀ (d : Nat) (lv : List (Option Value)) (st : List Value) (M : jx_M) (Q : jx_Po) (x z : Int32) (a : Nat) (ha : jx_cl a = 9), jx_Ev d 124 67 lv (.int z :: .int x :: .ref a :: st) M Q ↔ (vp_in x (jx_sz a) ∧ jx_Ev d 124 68 lv st (jx_up M a x.toNatClampNeg z) Q)) ∧
  (∀ (d : Nat) (st : List Value) (M : jx_M) (Q : jx_Po) (l0 l1 l2 l4 : Option Value) (x : Int32), jx_Ev d 124 68 [l0, l1, l2, some (.int x), l4] st M Q ↔ jx_Ev d 124 69 [l0, l1, l2, some (.int x), l4] (.int x :: st) M Q) ∧
  (∀ (d : Nat) (lv : List (Option Value)) (M : jx_M) (Q : jx_Po) (x : Int32), jx_Ev d 124 69 lv [.int x] M Q ↔ Q [.int x] M) := by
  refine ⟨?_, ?_, ?_, ?_, ?_, ?_, ?_, ?_, ?_, ?_, ?_, ?_, ?_, ?_, ?_, ?_, ?_, ?_, ?_, ?_, ?_, ?_, ?_, ?_, ?_, ?_, ?_, ?_, ?_, ?_, ?_, ?_, ?_, ?_, ?_, ?_, ?_, ?_, ?_, ?_, ?_, ?_⟩
  · exact fun d st M Q l1 l2 l3 l4 x => jx_ev_st (jx_fok (by decide +kernel : decode (jx_mb 124) 0 = .ok (.aload_n 0, 1))) rfl rfl rfl
  · exact fun d st M Q l0 l2 l3 l4 x => jx_ev_st (jx_fok (by decide +kernel : decode (jx_mb 124) 1 = .ok (.iload_n 1, 1))) rfl rfl rfl
  · exact fun d lv M Q a0 => jx_ev_ci (jx_fok (by decide +kernel : decode (jx_mb 124) 2 = .ok (.invokevirtual 148, 3))) rfl (jx_ccV (As := [.int a0]) (rest := []) rfl rfl rfl rfl rfl rfl) (by decide)
  · exact fun d lv st M Q x => jx_k_b1n (jx_fok (by decide +kernel : decode (jx_mb 124) 5 = .ok (.ifCond .ne 5, 3))) rfl jx_hNe
  · exact fun d lv st M Q => jx_ev_st (jx_fok (by decide +kernel : decode (jx_mb 124) 8 = .ok (.iconst (-1), 1))) rfl rfl rfl
  · exact fun d lv M Q x => jx_k_ri (jx_fok (by decide +kernel : decode (jx_mb 124) 9 = .ok (.ireturn, 1))) rfl
  · exact fun d st M Q l1 l2 l3 l4 x => jx_ev_st (jx_fok (by decide +kernel : decode (jx_mb 124) 10 = .ok (.aload_n 0, 1))) rfl rfl rfl
  · exact fun d lv st M Q => jx_k_gf (jx_fok (by decide +kernel : decode (jx_mb 124) 11 = .ok (.getfield 28, 3))) rfl rfl rfl
  · exact fun d st M Q l0 l2 l3 l4 x => jx_ev_st (jx_fok (by decide +kernel : decode (jx_mb 124) 14 = .ok (.iload_n 1, 1))) rfl rfl rfl
  · exact fun d lv st M Q x a ha => jx_k_al (jx_fok (by decide +kernel : decode (jx_mb 124) 15 = .ok (.iaload, 1))) ha
  · exact fun d st M Q l0 l1 l2 l3 l4 x => jx_ev_st (jx_fok (by decide +kernel : decode (jx_mb 124) 16 = .ok (.istore_n 2, 1))) rfl rfl rfl
  · exact fun d lv st M Q => jx_ev_st (jx_fok (by decide +kernel : decode (jx_mb 124) 17 = .ok (.iconst 0, 1))) rfl rfl rfl
  · exact fun d st M Q l0 l1 l2 l3 l4 x => jx_ev_st (jx_fok (by decide +kernel : decode (jx_mb 124) 18 = .ok (.istore_n 3, 1))) rfl rfl rfl
  · exact fun d lv st M Q => jx_ev_st (jx_fok (by decide +kernel : decode (jx_mb 124) 19 = .ok (.iconst 1, 1))) rfl rfl rfl
  · exact fun d st M Q l0 l1 l2 l3 l4 x => jx_ev_st (jx_fok (by decide +kernel : decode (jx_mb 124) 20 = .ok (.istore 4, 2))) rfl rfl rfl
  · exact fun d lv st M Q => jx_ev_st (jx_fok (by decide +kernel : decode (jx_mb 124) 24 = .ok (.bipush 9, 2))) rfl rfl rfl
  · exact fun d lv st M Q x z => jx_k_b2 (jx_fok (by decide +kernel : decode (jx_mb 124) 26 = .ok (.if_icmp .gt 35, 3))) rfl jx_hGt
  · exact fun d st M Q l1 l2 l3 l4 x => jx_ev_st (jx_fok (by decide +kernel : decode (jx_mb 124) 29 = .ok (.aload_n 0, 1))) rfl rfl rfl
  · exact fun d lv st M Q => jx_k_gf (jx_fok (by decide +kernel : decode (jx_mb 124) 30 = .ok (.getfield 28, 3))) rfl rfl rfl
  · exact fun d st M Q l0 l2 l3 l4 x => jx_ev_st (jx_fok (by decide +kernel : decode (jx_mb 124) 33 = .ok (.iload_n 1, 1))) rfl rfl rfl
  · exact fun d st M Q l0 l1 l2 l3 x => jx_ev_st (jx_fok (by decide +kernel : decode (jx_mb 124) 34 = .ok (.iload 4, 2))) rfl rfl rfl
  · exact fun d lv st M Q x z a ha => jx_k_as (jx_fok (by decide +kernel : decode (jx_mb 124) 36 = .ok (.iastore, 1))) ha
  · exact fun d st M Q l0 l1 l2 l4 x => jx_ev_st (jx_fok (by decide +kernel : decode (jx_mb 124) 37 = .ok (.iload_n 3, 1))) rfl rfl rfl
  · exact fun d st M Q l1 l2 l3 l4 x => jx_ev_st (jx_fok (by decide +kernel : decode (jx_mb 124) 38 = .ok (.aload_n 0, 1))) rfl rfl rfl
  · exact fun d lv M Q a1 => jx_ev_ci (jx_fok (by decide +kernel : decode (jx_mb 124) 39 = .ok (.invokevirtual 179, 3))) rfl (jx_ccV (As := []) (rest := [.int a1]) rfl rfl rfl rfl rfl rfl) (by decide)
  · exact fun d lv st M Q x => jx_k_b1 (jx_fok (by decide +kernel : decode (jx_mb 124) 42 = .ok (.ifCond .eq 10, 3))) rfl jx_hEq
  · exact fun d lv st M Q => jx_ev_st (jx_fok (by decide +kernel : decode (jx_mb 124) 45 = .ok (.iconst 1, 1))) rfl rfl rfl
  · exact fun d st M Q l0 l1 l2 l3 x => jx_ev_st (jx_fok (by decide +kernel : decode (jx_mb 124) 46 = .ok (.iload 4, 2))) rfl rfl rfl
  · exact fun d lv st M Q x z => jx_ev_st (jx_fok (by decide +kernel : decode (jx_mb 124) 48 = .ok (.ishl, 1))) rfl rfl rfl
  · exact fun d lv st M Q => jx_k_goto (jx_fok (by decide +kernel : decode (jx_mb 124) 49 = .ok (.goto 4, 3))) rfl
  · exact fun d lv st M Q => jx_ev_st (jx_fok (by decide +kernel : decode (jx_mb 124) 52 = .ok (.iconst 0, 1))) rfl rfl rfl
  · exact fun d lv st M Q x z => jx_ev_st (jx_fok (by decide +kernel : decode (jx_mb 124) 53 = .ok (.ior, 1))) rfl rfl rfl
  · exact fun d st M Q l0 l1 l2 l3 l4 x => jx_ev_st (jx_fok (by decide +kernel : decode (jx_mb 124) 54 = .ok (.istore_n 3, 1))) rfl rfl rfl
  · exact fun d st M Q l0 l1 l2 l3 x => jx_ev_st (jx_fok (by decide +kernel : decode (jx_mb 124) 55 = .ok (.iinc 4 1, 3))) rfl rfl rfl
  · exact fun d lv st M Q => jx_k_goto (jx_fok (by decide +kernel : decode (jx_mb 124) 58 = .ok (.goto (-36), 3))) rfl
  · exact fun d st M Q l1 l2 l3 l4 x => jx_ev_st (jx_fok (by decide +kernel : decode (jx_mb 124) 61 = .ok (.aload_n 0, 1))) rfl rfl rfl
  · exact fun d lv st M Q => jx_k_gf (jx_fok (by decide +kernel : decode (jx_mb 124) 62 = .ok (.getfield 28, 3))) rfl rfl rfl
  · exact fun d st M Q l0 l2 l3 l4 x => jx_ev_st (jx_fok (by decide +kernel : decode (jx_mb 124) 65 = .ok (.iload_n 1, 1))) rfl rfl rfl
  · exact fun d st M Q l0 l1 l3 l4 x => jx_ev_st (jx_fok (by decide +kernel : decode (jx_mb 124) 66 = .ok (.iload_n 2, 1))) rfl rfl rfl
  · exact fun d lv st M Q x z a ha => jx_k_as (jx_fok (by decide +kernel : decode (jx_mb 124) 67 = .ok (.iastore, 1))) ha
  · exact fun d st M Q l0 l1 l2 l4 x => jx_ev_st (jx_fok (by decide +kernel : decode (jx_mb 124) 68 = .ok (.iload_n 3, 1))) rfl rfl rfl
  · exact fun d lv M Q x => jx_k_ri (jx_fok (by decide +kernel : decode (jx_mb 124) 69 = .ok (.ireturn, 1))) rfl
theorem eX8_sizes_22 (d : Nat) (st : List Value) (M : jx_M) (Q : jx_Po) (l0 l1 l2 l3 : Option Value) (x : Int32) : jx_Ev d 124 22 [l0, l1, l2, l3, some (.int x)] st M Q ↔ jx_Ev d 124 24 [l0, l1, l2, l3, some (.int x)] (.int x :: st) M Q := jx_ev_st (jx_fok (by decide +kernel : decode (jx_mb 124) 22 = .ok (.iload 4, 2))) rfl rfl rfl
theorem kX8_sizes (d : Nat) (M : jx_M) (q : Int32 → jx_M → Prop) (a0 a1 : Value) : jx_I d 124 [a0, a1] M q ↔ jx_Ev d 124 0 [some a0, some a1, none, none, none] [] M (jx_qI q) := Iff.rfl
set_option maxRecDepth 100000 in
theorem eX8_kinds :
  (∀ (d : Nat) (st : List Value) (M : jx_M) (Q : jx_Po) (l1 l2 l3 l4 : Option Value) (x : Nat), jx_Ev d 125 0 [some (.ref x), l1, l2, l3, l4] st M Q ↔ jx_Ev d 125 1 [some (.ref x), l1, l2, l3, l4] (.ref x :: st) M Q) ∧
  (∀ (d : Nat) (st : List Value) (M : jx_M) (Q : jx_Po) (l0 l2 l3 l4 : Option Value) (x : Int32), jx_Ev d 125 1 [l0, some (.int x), l2, l3, l4] st M Q ↔ jx_Ev d 125 2 [l0, some (.int x), l2, l3, l4] (.int x :: st) M Q) ∧
  (∀ (d : Nat) (lv : List (Option Value)) (M : jx_M) (Q : jx_Po) (a0 : Int32), jx_Ev (d + 1) 125 2 lv [.int a0, .ref 36] M Q ↔ jx_I d 91 [.ref 36, .int a0] M (fun x M => jx_Ev (d + 1) 125 5 lv (.int x :: []) M Q)) ∧
  (∀ (d : Nat) (lv : List (Option Value)) (st : List Value) (M : jx_M) (Q : jx_Po) (x : Int32), jx_Ev d 125 5 lv (.int x :: st) M Q ↔ (if x = 0 then jx_Ev d 125 8 lv st M Q else jx_Ev d 125 10 lv st M Q)) ∧
  (∀ (d : Nat) (lv : List (Option Value)) (st : List Value) (M : jx_M) (Q : jx_Po), jx_Ev d 125 8 lv st M Q ↔ jx_Ev d 125 9 lv (.int (-1) :: st) M Q) ∧
  (∀ (d : Nat) (lv : List (Option Value)) (M : jx_M) (Q : jx_Po) (x : Int32), jx_Ev d 125 9 lv [.int x] M Q ↔ Q [.int x] M) ∧
  (∀ (d : Nat) (st : List Value) (M : jx_M) (Q : jx_Po) (l1 l2 l3 l4 : Option Value) (x : Nat), jx_Ev d 125 10 [some (.ref x), l1, l2, l3, l4] st M Q ↔ jx_Ev d 125 11 [some (.ref x), l1, l2, l3, l4] (.ref x :: st) M Q) ∧
  (∀ (d : Nat) (lv : List (Option Value)) (st : List Value) (M : jx_M) (Q : jx_Po), jx_Ev d 125 11 lv (.ref 36 :: st) M Q ↔ jx_Ev d 125 14 lv (.ref 42 :: st) M Q) ∧
  (∀ (d : Nat) (st : List Value) (M : jx_M) (Q : jx_Po) (l0 l2 l3 l4 : Option Value) (x : Int32), jx_Ev d 125 14 [l0, some (.int x), l2, l3, l4] st M Q ↔ jx_Ev d 125 15 [l0, some (.int x), l2, l3, l4] (.int x :: st) M Q) ∧
  (∀ (d : Nat) (lv : List (Option Value)) (st : List Value) (M : jx_M) (Q : jx_Po) (x : Int32) (a : Nat) (ha : jx_cl a = 9), jx_Ev d 125 15 lv (.int x :: .ref a :: st) M Q ↔ (vp_in x (jx_sz a) ∧ jx_Ev d 125 16 lv (.int (M a x.toNatClampNeg) :: st) M Q)) ∧
  (∀ (d : Nat) (st : List Value) (M : jx_M) (Q : jx_Po) (l0 l1 l2 l3 l4 : Option Value) (x : Int32), jx_Ev d 125 16 [l0, l1, l2, l3, l4] (.int x :: st) M Q ↔ jx_Ev d 125 17 [l0, l1, some (.int x), l3, l4] st M Q) ∧
  (∀ (d : Nat) (lv : List (Option Value)) (st : List Value) (M : jx_M) (Q : jx_Po), jx_Ev d 125 17 lv st M Q ↔ jx_Ev d 125 18 lv (.int 0 :: st) M Q) ∧
  (∀ (d : Nat) (st : List Value) (M : jx_M) (Q : jx_Po) (l0 l1 l2 l3 l4 : Option Value) (x : Int32), jx_Ev d 125 18 [l0, l1, l2, l3, l4] (.int x :: st) M Q ↔ jx_Ev d 125 19 [l0, l1, l2, some (.int x), l4] st M Q) ∧
  (∀ (d : Nat) (lv : List (Option Value)) (st : List Value) (M : jx_M) (Q : jx_Po), jx_Ev d 125 19 lv st M Q ↔ jx_Ev d 125 20 lv (.int 0 :: st) M Q) ∧
  (∀ (d : Nat) (st : List Value) (M : jx_M) (Q : jx_Po) (l0 l1 l2 l3 l4 : Option Value) (x : Int32), jx_Ev d 125 20 [l0, l1, l2, l3, l4] (.int x :: st) M Q ↔ jx_Ev d 125 22 [l0, l1, l2, l3, some (.int x)] st M Q) ∧
  (∀ (d : Nat) (lv : List (Option Value)) (st : List Value) (M : jx_M) (Q : jx_Po), jx_Ev d 125 24 lv st M Q ↔ jx_Ev d 125 25 lv (.int 3 :: st) M Q) ∧
  (∀ (d : Nat) (lv : List (Option Value)) (st : List Value) (M : jx_M) (Q : jx_Po) (x z : Int32), jx_Ev d 125 25 lv (.int z :: .int x :: st) M Q ↔ (if z ≤ x then jx_Ev d 125 60 lv st M Q else jx_Ev d 125 28 lv st M Q)) ∧
  (∀ (d : Nat) (st : List Value) (M : jx_M) (Q : jx_Po) (l1 l2 l3 l4 : Option Value) (x : Nat), jx_Ev d 125 28 [some (.ref x), l1, l2, l3, l4] st M Q ↔ jx_Ev d 125 29 [some (.ref x), l1, l2, l3, l4] (.ref x :: st) M Q) ∧
  (∀ (d : Nat) (lv : List (Option Value)) (st : List Value) (M : jx_M) (Q : jx_Po), jx_Ev d 125 29 lv (.ref 36 :: st) M Q ↔ jx_Ev d 125 32 lv (.ref 42 :: st) M Q) ∧
  (∀ (d : Nat) (st : List Value) (M : jx_M) (Q : jx_Po) (l0 l2 l3 l4 : Option Value) (x : Int32), jx_Ev d 125 32 [l0, some (.int x), l2, l3, l4] st M Q ↔ jx_Ev d 125 33 [l0, some (.int x), l2, l3, l4] (.int x :: st) M Q) ∧
  (∀ (d : Nat) (st : List Value) (M : jx_M) (Q : jx_Po) (l0 l1 l2 l3 : Option Value) (x : Int32), jx_Ev d 125 33 [l0, l1, l2, l3, some (.int x)] st M Q ↔ jx_Ev d 125 35 [l0, l1, l2, l3, some (.int x)] (.int x :: st) M Q) ∧
  (∀ (d : Nat) (lv : List (Option Value)) (st : List Value) (M : jx_M) (Q : jx_Po) (x z : Int32) (a : Nat) (ha : jx_cl a = 9), jx_Ev d 125 35 lv (.int z :: .int x :: .ref a :: st) M Q ↔ (vp_in x (jx_sz a) ∧ jx_Ev d 125 36 lv st (jx_up M a x.toNatClampNeg z) Q)) ∧
  (∀ (d : Nat) (st : List Value) (M : jx_M) (Q : jx_Po) (l0 l1 l2 l4 : Option Value) (x : Int32), jx_Ev d 125 36 [l0, l1, l2, some (.int x), l4] st M Q ↔ jx_Ev d 125 37 [l0, l1, l2, some (.int x), l4] (.int x :: st) M Q) ∧
  (∀ (d : Nat) (st : List Value) (M : jx_M) (Q : jx_Po) (l1 l2 l3 l4 : Option Value) (x : Nat), jx_Ev d 125 37 [some (.ref x), l1, l2, l3, l4] st M Q ↔ jx_Ev d 125 38 [some (.ref x), l1, l2, l3, l4] (.ref x :: st) M Q) ∧
  (∀ (d : Nat) (lv : List (Option Value)) (M : jx_M) (Q : jx_Po) (a1 : Int32), jx_Ev (d + 1) 125 38 lv [.ref 36, .int a1] M Q ↔ jx_I d 123 [.ref 36] M (fun x M => jx_Ev (d + 1) 125 41 lv (.int x :: [.int a1]) M Q)) ∧
  (∀ (d : Nat) (lv : List (Option Value)) (st : List Value) (M : jx_M) (Q : jx_Po) (x : Int32), jx_Ev d 125 41 lv (.int x :: st) M Q ↔ (if x = 0 then jx_Ev d 125 51 lv st M Q else jx_Ev d 125 44 lv st M Q)) ∧
  (∀ (d : Nat) (lv : List (Option Value)) (st : List Value) (M : jx_M) (Q : jx_Po), jx_Ev d 125 44 lv st M Q ↔ jx_Ev d 125 45 lv (.int 1 :: st) M Q) ∧
  (∀ (d : Nat) (st : List Value) (M : jx_M) (Q : jx_Po) (l0 l1 l2 l3 : Option Value) (x : Int32), jx_Ev d 125 45 [l0, l1, l2, l3, some (.int x)] st M Q ↔ jx_Ev d 125 47 [l0, l1, l2, l3, some (.int x)] (.int x :: st) M Q) ∧
  (∀ (d : Nat) (lv : List (Option Value)) (st : List Value) (M : jx_M) (Q : jx_Po) (x z : Int32), jx_Ev d 125 47 lv (.int z :: .int x :: st) M Q ↔ jx_Ev d 125 48 lv (.int (x <<< (z &&& 31)) :: st) M Q) ∧
  (∀ (d : Nat) (lv : List (Option Value)) (st : List Value) (M : jx_M) (Q : jx_Po), jx_Ev d 125 48 lv st M Q ↔ jx_Ev d 125 52 lv st M Q) ∧
  (∀ (d : Nat) (lv : List (Option Value)) (st : List Value) (M : jx_M) (Q : jx_Po), jx_Ev d 125 51 lv st M Q ↔ jx_Ev d 125 52 lv (.int 0 :: st) M Q) ∧
  (∀ (d : Nat) (lv : List (Option Value)) (st : List Value) (M : jx_M) (Q : jx_Po) (x z : Int32), jx_Ev d 125 52 lv (.int z :: .int x :: st) M Q ↔ jx_Ev d 125 53 lv (.int (x ||| z) :: st) M Q) ∧
  (∀ (d : Nat) (st : List Value) (M : jx_M) (Q : jx_Po) (l0 l1 l2 l3 l4 : Option Value) (x : Int32), jx_Ev d 125 53 [l0, l1, l2, l3, l4] (.int x :: st) M Q ↔ jx_Ev d 125 54 [l0, l1, l2, some (.int x), l4] st M Q) ∧
  (∀ (d : Nat) (st : List Value) (M : jx_M) (Q : jx_Po) (l0 l1 l2 l3 : Option Value) (x : Int32), jx_Ev d 125 54 [l0, l1, l2, l3, some (.int x)] st M Q ↔ jx_Ev d 125 57 [l0, l1, l2, l3, some (.int (x + 1))] st M Q) ∧
  (∀ (d : Nat) (lv : List (Option Value)) (st : List Value) (M : jx_M) (Q : jx_Po), jx_Ev d 125 57 lv st M Q ↔ jx_Ev d 125 22 lv st M Q) ∧
  (∀ (d : Nat) (st : List Value) (M : jx_M) (Q : jx_Po) (l1 l2 l3 l4 : Option Value) (x : Nat), jx_Ev d 125 60 [some (.ref x), l1, l2, l3, l4] st M Q ↔ jx_Ev d 125 61 [some (.ref x), l1, l2, l3, l4] (.ref x :: st) M Q) ∧
  (∀ (d : Nat) (lv : List (Option Value)) (st : List Value) (M : jx_M) (Q : jx_Po), jx_Ev d 125 61 lv (.ref 36 :: st) M Q ↔ jx_Ev d 125 64 lv (.ref 42 :: st) M Q) ∧
  (∀ (d : Nat) (st : List Value) (M : jx_M) (Q : jx_Po) (l0 l2 l3 l4 : Option Value) (x : Int32), jx_Ev d 125 64 [l0, some (.int x), l2, l3, l4] st M Q ↔ jx_Ev d 125 65 [l0, some (.int x), l2, l3, l4] (.int x :: st) M Q) ∧
  (∀ (d : Nat) (st : List Value) (M : jx_M) (Q : jx_Po) (l0 l1 l3 l4 : Option Value) (x : Int32), jx_Ev d 125 65 [l0, l1, some (.int x), l3, l4] st M Q ↔ jx_Ev d 125 66 [l0, l1, some (.int x), l3, l4] (.int x :: st) M Q) ∧
  (∀ (d : Nat) (lv : List (Option Value)) (st : List Value) (M : jx_M) (Q : jx_Po) (x z : Int32) (a : Nat) (ha : jx_cl a = 9), jx_Ev d 125 66 lv (.int z :: .int x :: .ref a :: st) M Q ↔ (vp_in x (jx_sz a) ∧ jx_Ev d 125 67 lv st (jx_up M a x.toNatClampNeg z) Q)) ∧
  (∀ (d : Nat) (st : List Value) (M : jx_M) (Q : jx_Po) (l0 l1 l2 l4 : Option Value) (x : Int32), jx_Ev d 125 67 [l0, l1, l2, some (.int x), l4] st M Q ↔ jx_Ev d 125 68 [l0, l1, l2, some (.int x), l4] (.int x :: st) M Q) ∧
  (∀ (d : Nat) (lv : List (Option Value)) (M : jx_M) (Q : jx_Po) (x : Int32), jx_Ev d 125 68 lv [.int x] M Q ↔ Q [.int x] M) := by
  refine ⟨?_, ?_, ?_, ?_, ?_, ?_, ?_, ?_, ?_, ?_, ?_, ?_, ?_, ?_, ?_, ?_, ?_, ?_, ?_, ?_, ?_, ?_, ?_, ?_, ?_, ?_, ?_, ?_, ?_, ?_, ?_, ?_, ?_, ?_, ?_, ?_, ?_, ?_, ?_, ?_, ?_, ?_⟩
  · exact fun d st M Q l1 l2 l3 l4 x => jx_ev_st (jx_fok (by decide +kernel : decode (jx_mb 125) 0 = .ok (.aload_n 0, 1))) rfl rfl rfl
  · exact fun d st M Q l0 l2 l3 l4 x => jx_ev_st (jx_fok (by decide +kernel : decode (jx_mb 125) 1 = .ok (.iload_n 1, 1))) rfl rfl rfl
  · exact fun d lv M Q a0 => jx_ev_ci (jx_fok (by decide +kernel : decode (jx_mb 125) 2 = .ok (.invokevirtual 148, 3))) rfl (jx_ccV (As := [.int a0]) (rest := []) rfl rfl rfl rfl rfl rfl) (by decide)
  · exact fun d lv st M Q x => jx_k_b1n (jx_fok (by decide +kernel : decode (jx_mb 125) 5 = .ok (.ifCond .ne 5, 3))) rfl jx_hNe
  · exact fun d lv st M Q => jx_ev_st (jx_fok (by decide +kernel : decode (jx_mb 125) 8 = .ok (.iconst (-1), 1))) rfl rfl rfl
  · exact fun d lv M Q x => jx_k_ri (jx_fok (by decide +kernel : decode (jx_mb 125) 9 = .ok (.ireturn, 1))) rfl
  · exact fun d st M Q l1 l2 l3 l4 x => jx_ev_st (jx_fok (by decide +kernel : decode (jx_mb 125) 10 = .ok (.aload_n 0, 1))) rfl rfl rfl
  · exact fun d lv st M Q => jx_k_gf (jx_fok (by decide +kernel : decode (jx_mb 125) 11 = .ok (.getfield 25, 3))) rfl rfl rfl
  · exact fun d st M Q l0 l2 l3 l4 x => jx_ev_st (jx_fok (by decide +kernel : decode (jx_mb 125) 14 = .ok (.iload_n 1, 1))) rfl rfl rfl
  · exact fun d lv st M Q x a ha => jx_k_al (jx_fok (by decide +kernel : decode (jx_mb 125) 15 = .ok (.iaload, 1))) ha
  · exact fun d st M Q l0 l1 l2 l3 l4 x => jx_ev_st (jx_fok (by decide +kernel : decode (jx_mb 125) 16 = .ok (.istore_n 2, 1))) rfl rfl rfl
  · exact fun d lv st M Q => jx_ev_st (jx_fok (by decide +kernel : decode (jx_mb 125) 17 = .ok (.iconst 0, 1))) rfl rfl rfl
  · exact fun d st M Q l0 l1 l2 l3 l4 x => jx_ev_st (jx_fok (by decide +kernel : decode (jx_mb 125) 18 = .ok (.istore_n 3, 1))) rfl rfl rfl
  · exact fun d lv st M Q => jx_ev_st (jx_fok (by decide +kernel : decode (jx_mb 125) 19 = .ok (.iconst 0, 1))) rfl rfl rfl
  · exact fun d st M Q l0 l1 l2 l3 l4 x => jx_ev_st (jx_fok (by decide +kernel : decode (jx_mb 125) 20 = .ok (.istore 4, 2))) rfl rfl rfl
  · exact fun d lv st M Q => jx_ev_st (jx_fok (by decide +kernel : decode (jx_mb 125) 24 = .ok (.iconst 3, 1))) rfl rfl rfl
  · exact fun d lv st M Q x z => jx_k_b2 (jx_fok (by decide +kernel : decode (jx_mb 125) 25 = .ok (.if_icmp .ge 35, 3))) rfl jx_hGe
  · exact fun d st M Q l1 l2 l3 l4 x => jx_ev_st (jx_fok (by decide +kernel : decode (jx_mb 125) 28 = .ok (.aload_n 0, 1))) rfl rfl rfl
  · exact fun d lv st M Q => jx_k_gf (jx_fok (by decide +kernel : decode (jx_mb 125) 29 = .ok (.getfield 25, 3))) rfl rfl rfl
  · exact fun d st M Q l0 l2 l3 l4 x => jx_ev_st (jx_fok (by decide +kernel : decode (jx_mb 125) 32 = .ok (.iload_n 1, 1))) rfl rfl rfl
  · exact fun d st M Q l0 l1 l2 l3 x => jx_ev_st (jx_fok (by decide +kernel : decode (jx_mb 125) 33 = .ok (.iload 4, 2))) rfl rfl rfl
  · exact fun d lv st M Q x z a ha => jx_k_as (jx_fok (by decide +kernel : decode (jx_mb 125) 35 = .ok (.iastore, 1))) ha
  · exact fun d st M Q l0 l1 l2 l4 x => jx_ev_st (jx_fok (by decide +kernel : decode (jx_mb 125) 36 = .ok (.iload_n 3, 1))) rfl rfl rfl
  · exact fun d st M Q l1 l2 l3 l4 x => jx_ev_st (jx_fok (by decide +kernel : decode (jx_mb 125) 37 = .ok (.aload_n 0, 1))) rfl rfl rfl
  · exact fun d lv M Q a1 => jx_ev_ci (jx_fok (by decide +kernel : decode (jx_mb 125) 38 = .ok (.invokevirtual 179, 3))) rfl (jx_ccV (As := []) (rest := [.int a1]) rfl rfl rfl rfl rfl rfl) (by decide)
  · exact fun d lv st M Q x => jx_k_b1 (jx_fok (by decide +kernel : decode (jx_mb 125) 41 = .ok (.ifCond .eq 10, 3))) rfl jx_hEq
  · exact fun d lv st M Q => jx_ev_st (jx_fok (by decide +kernel : decode (jx_mb 125) 44 = .ok (.iconst 1, 1))) rfl rfl rfl
  · exact fun d st M Q l0 l1 l2 l3 x => jx_ev_st (jx_fok (by decide +kernel : decode (jx_mb 125) 45 = .ok (.iload 4, 2))) rfl rfl rfl
  · exact fun d lv st M Q x z => jx_ev_st (jx_fok (by decide +kernel : decode (jx_mb 125) 47 = .ok (.ishl, 1))) rfl rfl rfl
  · exact fun d lv st M Q => jx_k_goto (jx_fok (by decide +kernel : decode (jx_mb 125) 48 = .ok (.goto 4, 3))) rfl
  · exact fun d lv st M Q => jx_ev_st (jx_fok (by decide +kernel : decode (jx_mb 125) 51 = .ok (.iconst 0, 1))) rfl rfl rfl
  · exact fun d lv st M Q x z => jx_ev_st (jx_fok (by decide +kernel : decode (jx_mb 125) 52 = .ok (.ior, 1))) rfl rfl rfl
  · exact fun d st M Q l0 l1 l2 l3 l4 x => jx_ev_st (jx_fok (by decide +kernel : decode (jx_mb 125) 53 = .ok (.istore_n 3, 1))) rfl rfl rfl
  · exact fun d st M Q l0 l1 l2 l3 x => jx_ev_st (jx_fok (by decide +kernel : decode (jx_mb 125) 54 = .ok (.iinc 4 1, 3))) rfl rfl rfl
  · exact fun d lv st M Q => jx_k_goto (jx_fok (by decide +kernel : decode (jx_mb 125) 57 = .ok (.goto (-35), 3))) rfl
  · exact fun d st M Q l1 l2 l3 l4 x => jx_ev_st (jx_fok (by decide +kernel : decode (jx_mb 125) 60 = .ok (.aload_n 0, 1))) rfl rfl rfl
  · exact fun d lv st M Q => jx_k_gf (jx_fok (by decide +kernel : decode (jx_mb 125) 61 = .ok (.getfield 25, 3))) rfl rfl rfl
  · exact fun d st M Q l0 l2 l3 l4 x => jx_ev_st (jx_fok (by decide +kernel : decode (jx_mb 125) 64 = .ok (.iload_n 1, 1))) rfl rfl rfl
  · exact fun d st M Q l0 l1 l3 l4 x => jx_ev_st (jx_fok (by decide +kernel : decode (jx_mb 125) 65 = .ok (.iload_n 2, 1))) rfl rfl rfl
  · exact fun d lv st M Q x z a ha => jx_k_as (jx_fok (by decide +kernel : decode (jx_mb 125) 66 = .ok (.iastore, 1))) ha
  · exact fun d st M Q l0 l1 l2 l4 x => jx_ev_st (jx_fok (by decide +kernel : decode (jx_mb 125) 67 = .ok (.iload_n 3, 1))) rfl rfl rfl
  · exact fun d lv M Q x => jx_k_ri (jx_fok (by decide +kernel : decode (jx_mb 125) 68 = .ok (.ireturn, 1))) rfl
theorem eX8_kinds_22 (d : Nat) (st : List Value) (M : jx_M) (Q : jx_Po) (l0 l1 l2 l3 : Option Value) (x : Int32) : jx_Ev d 125 22 [l0, l1, l2, l3, some (.int x)] st M Q ↔ jx_Ev d 125 24 [l0, l1, l2, l3, some (.int x)] (.int x :: st) M Q := jx_ev_st (jx_fok (by decide +kernel : decode (jx_mb 125) 22 = .ok (.iload 4, 2))) rfl rfl rfl
theorem kX8_kinds (d : Nat) (M : jx_M) (q : Int32 → jx_M → Prop) (a0 a1 : Value) : jx_I d 125 [a0, a1] M q ↔ jx_Ev d 125 0 [some a0, some a1, none, none, none] [] M (jx_qI q) := Iff.rfl
set_option maxRecDepth 100000 in
theorem eX8_damps :
  (∀ (d : Nat) (st : List Value) (M : jx_M) (Q : jx_Po) (l1 l2 l3 : Option Value) (x : Nat), jx_Ev d 126 0 [some (.ref x), l1, l2, l3] st M Q ↔ jx_Ev d 126 1 [some (.ref x), l1, l2, l3] (.ref x :: st) M Q) ∧
  (∀ (d : Nat) (lv : List (Option Value)) (st : List Value) (M : jx_M) (Q : jx_Po), jx_Ev d 126 1 lv (.ref 36 :: st) M Q ↔ jx_Ev d 126 4 lv (.int (M 36 6) :: st) M Q) ∧
  (∀ (d : Nat) (lv : List (Option Value)) (st : List Value) (M : jx_M) (Q : jx_Po) (x : Int32), jx_Ev d 126 4 lv (.int x :: st) M Q ↔ (if x = 0 then jx_Ev d 126 7 lv st M Q else jx_Ev d 126 10 lv st M Q)) ∧
  (∀ (d : Nat) (lv : List (Option Value)) (st : List Value) (M : jx_M) (Q : jx_Po), jx_Ev d 126 7 lv st M Q ↔ jx_Ev d 126 9 lv (.int (-3) :: st) M Q) ∧
  (∀ (d : Nat) (lv : List (Option Value)) (M : jx_M) (Q : jx_Po) (x : Int32), jx_Ev d 126 9 lv [.int x] M Q ↔ Q [.int x] M) ∧
  (∀ (d : Nat) (st : List Value) (M : jx_M) (Q : jx_Po) (l1 l2 l3 : Option Value) (x : Nat), jx_Ev d 126 10 [some (.ref x), l1, l2, l3] st M Q ↔ jx_Ev d 126 11 [some (.ref x), l1, l2, l3] (.ref x :: st) M Q) ∧
  (∀ (d : Nat) (lv : List (Option Value)) (st : List Value) (M : jx_M) (Q : jx_Po), jx_Ev d 126 11 lv (.ref 36 :: st) M Q ↔ jx_Ev d 126 14 lv (.int (M 36 7) :: st) M Q) ∧
  (∀ (d : Nat) (st : List Value) (M : jx_M) (Q : jx_Po) (l0 l1 l2 l3 : Option Value) (x : Int32), jx_Ev d 126 14 [l0, l1, l2, l3] (.int x :: st) M Q ↔ jx_Ev d 126 15 [l0, some (.int x), l2, l3] st M Q) ∧
  (∀ (d : Nat) (lv : List (Option Value)) (st : List Value) (M : jx_M) (Q : jx_Po), jx_Ev d 126 15 lv st M Q ↔ jx_Ev d 126 16 lv (.int 0 :: st) M Q) ∧
  (∀ (d : Nat) (st : List Value) (M : jx_M) (Q : jx_Po) (l0 l1 l2 l3 : Option Value) (x : Int32), jx_Ev d 126 16 [l0, l1, l2, l3] (.int x :: st) M Q ↔ jx_Ev d 126 17 [l0, l1, some (.int x), l3] st M Q) ∧
  (∀ (d : Nat) (lv : List (Option Value)) (st : List Value) (M : jx_M) (Q : jx_Po), jx_Ev d 126 17 lv st M Q ↔ jx_Ev d 126 18 lv (.int 0 :: st) M Q) ∧
  (∀ (d : Nat) (st : List Value) (M : jx_M) (Q : jx_Po) (l0 l1 l2 l3 : Option Value) (x : Int32), jx_Ev d 126 18 [l0, l1, l2, l3] (.int x :: st) M Q ↔ jx_Ev d 126 19 [l0, l1, l2, some (.int x)] st M Q) ∧
  (∀ (d : Nat) (lv : List (Option Value)) (st : List Value) (M : jx_M) (Q : jx_Po), jx_Ev d 126 20 lv st M Q ↔ jx_Ev d 126 21 lv (.int 3 :: st) M Q) ∧
  (∀ (d : Nat) (lv : List (Option Value)) (st : List Value) (M : jx_M) (Q : jx_Po) (x z : Int32), jx_Ev d 126 21 lv (.int z :: .int x :: st) M Q ↔ (if z < x then jx_Ev d 126 52 lv st M Q else jx_Ev d 126 24 lv st M Q)) ∧
  (∀ (d : Nat) (st : List Value) (M : jx_M) (Q : jx_Po) (l1 l2 l3 : Option Value) (x : Nat), jx_Ev d 126 24 [some (.ref x), l1, l2, l3] st M Q ↔ jx_Ev d 126 25 [some (.ref x), l1, l2, l3] (.ref x :: st) M Q) ∧
  (∀ (d : Nat) (st : List Value) (M : jx_M) (Q : jx_Po) (l0 l1 l2 : Option Value) (x : Int32), jx_Ev d 126 25 [l0, l1, l2, some (.int x)] st M Q ↔ jx_Ev d 126 26 [l0, l1, l2, some (.int x)] (.int x :: st) M Q) ∧
  (∀ (d : Nat) (lv : List (Option Value)) (st : List Value) (M : jx_M) (Q : jx_Po) (x : Int32), jx_Ev d 126 26 lv (.int x :: .ref 36 :: st) M Q ↔ jx_Ev d 126 29 lv st (jx_up M 36 7 x) Q) ∧
  (∀ (d : Nat) (st : List Value) (M : jx_M) (Q : jx_Po) (l0 l1 l3 : Option Value) (x : Int32), jx_Ev d 126 29 [l0, l1, some (.int x), l3] st M Q ↔ jx_Ev d 126 30 [l0, l1, some (.int x), l3] (.int x :: st) M Q) ∧
  (∀ (d : Nat) (st : List Value) (M : jx_M) (Q : jx_Po) (l1 l2 l3 : Option Value) (x : Nat), jx_Ev d 126 30 [some (.ref x), l1, l2, l3] st M Q ↔ jx_Ev d 126 31 [some (.ref x), l1, l2, l3] (.ref x :: st) M Q) ∧
  (∀ (d : Nat) (lv : List (Option Value)) (M : jx_M) (Q : jx_Po) (a1 : Int32), jx_Ev (d + 1) 126 31 lv [.ref 36, .int a1] M Q ↔ jx_I d 123 [.ref 36] M (fun x M => jx_Ev (d + 1) 126 34 lv (.int x :: [.int a1]) M Q)) ∧
  (∀ (d : Nat) (lv : List (Option Value)) (st : List Value) (M : jx_M) (Q : jx_Po) (x : Int32), jx_Ev d 126 34 lv (.int x :: st) M Q ↔ (if x = 0 then jx_Ev d 126 43 lv st M Q else jx_Ev d 126 37 lv st M Q)) ∧
  (∀ (d : Nat) (lv : List (Option Value)) (st : List Value) (M : jx_M) (Q : jx_Po), jx_Ev d 126 37 lv st M Q ↔ jx_Ev d 126 38 lv (.int 1 :: st) M Q) ∧
  (∀ (d : Nat) (st : List Value) (M : jx_M) (Q : jx_Po) (l0 l1 l2 : Option Value) (x : Int32), jx_Ev d 126 38 [l0, l1, l2, some (.int x)] st M Q ↔ jx_Ev d 126 39 [l0, l1, l2, some (.int x)] (.int x :: st) M Q) ∧
  (∀ (d : Nat) (lv : List (Option Value)) (st : List Value) (M : jx_M) (Q : jx_Po) (x z : Int32), jx_Ev d 126 39 lv (.int z :: .int x :: st) M Q ↔ jx_Ev d 126 40 lv (.int (x <<< (z &&& 31)) :: st) M Q) ∧
  (∀ (d : Nat) (lv : List (Option Value)) (st : List Value) (M : jx_M) (Q : jx_Po), jx_Ev d 126 40 lv st M Q ↔ jx_Ev d 126 44 lv st M Q) ∧
  (∀ (d : Nat) (lv : List (Option Value)) (st : List Value) (M : jx_M) (Q : jx_Po), jx_Ev d 126 43 lv st M Q ↔ jx_Ev d 126 44 lv (.int 0 :: st) M Q) ∧
  (∀ (d : Nat) (lv : List (Option Value)) (st : List Value) (M : jx_M) (Q : jx_Po) (x z : Int32), jx_Ev d 126 44 lv (.int z :: .int x :: st) M Q ↔ jx_Ev d 126 45 lv (.int (x ||| z) :: st) M Q) ∧
  (∀ (d : Nat) (st : List Value) (M : jx_M) (Q : jx_Po) (l0 l1 l2 l3 : Option Value) (x : Int32), jx_Ev d 126 45 [l0, l1, l2, l3] (.int x :: st) M Q ↔ jx_Ev d 126 46 [l0, l1, some (.int x), l3] st M Q) ∧
  (∀ (d : Nat) (st : List Value) (M : jx_M) (Q : jx_Po) (l0 l1 l2 : Option Value) (x : Int32), jx_Ev d 126 46 [l0, l1, l2, some (.int x)] st M Q ↔ jx_Ev d 126 49 [l0, l1, l2, some (.int (x + 1))] st M Q) ∧
  (∀ (d : Nat) (lv : List (Option Value)) (st : List Value) (M : jx_M) (Q : jx_Po), jx_Ev d 126 49 lv st M Q ↔ jx_Ev d 126 19 lv st M Q) ∧
  (∀ (d : Nat) (st : List Value) (M : jx_M) (Q : jx_Po) (l1 l2 l3 : Option Value) (x : Nat), jx_Ev d 126 52 [some (.ref x), l1, l2, l3] st M Q ↔ jx_Ev d 126 53 [some (.ref x), l1, l2, l3] (.ref x :: st) M Q) ∧
  (∀ (d : Nat) (st : List Value) (M : jx_M) (Q : jx_Po) (l0 l2 l3 : Option Value) (x : Int32), jx_Ev d 126 53 [l0, some (.int x), l2, l3] st M Q ↔ jx_Ev d 126 54 [l0, some (.int x), l2, l3] (.int x :: st) M Q) ∧
  (∀ (d : Nat) (lv : List (Option Value)) (st : List Value) (M : jx_M) (Q : jx_Po) (x : Int32), jx_Ev d 126 54 lv (.int x :: .ref 36 :: st) M Q ↔ jx_Ev d 126 57 lv st (jx_up M 36 7 x) Q) ∧
  (∀ (d : Nat) (st : List Value) (M : jx_M) (Q : jx_Po) (l0 l1 l3 : Option Value) (x : Int32), jx_Ev d 126 57 [l0, l1, some (.int x), l3] st M Q ↔ jx_Ev d 126 58 [l0, l1, some (.int x), l3] (.int x :: st) M Q) ∧
  (∀ (d : Nat) (lv : List (Option Value)) (M : jx_M) (Q : jx_Po) (x : Int32), jx_Ev d 126 58 lv [.int x] M Q ↔ Q [.int x] M) := by
  refine ⟨?_, ?_, ?_, ?_, ?_, ?_, ?_, ?_, ?_, ?_, ?_, ?_, ?_, ?_, ?_, ?_, ?_, ?_, ?_, ?_, ?_, ?_, ?_, ?_, ?_, ?_, ?_, ?_, ?_, ?_, ?_, ?_, ?_, ?_, ?_⟩
  · exact fun d st M Q l1 l2 l3 x => jx_ev_st (jx_fok (by decide +kernel : decode (jx_mb 126) 0 = .ok (.aload_n 0, 1))) rfl rfl rfl
  · exact fun d lv st M Q => jx_k_gf (jx_fok (by decide +kernel : decode (jx_mb 126) 1 = .ok (.getfield 80, 3))) rfl rfl rfl
  · exact fun d lv st M Q x => jx_k_b1n (jx_fok (by decide +kernel : decode (jx_mb 126) 4 = .ok (.ifCond .ne 6, 3))) rfl jx_hNe
  · exact fun d lv st M Q => jx_ev_st (jx_fok (by decide +kernel : decode (jx_mb 126) 7 = .ok (.bipush (-3), 2))) rfl rfl rfl
  · exact fun d lv M Q x => jx_k_ri (jx_fok (by decide +kernel : decode (jx_mb 126) 9 = .ok (.ireturn, 1))) rfl
  · exact fun d st M Q l1 l2 l3 x => jx_ev_st (jx_fok (by decide +kernel : decode (jx_mb 126) 10 = .ok (.aload_n 0, 1))) rfl rfl rfl
  · exact fun d lv st M Q => jx_k_gf (jx_fok (by decide +kernel : decode (jx_mb 126) 11 = .ok (.getfield 110, 3))) rfl rfl rfl
  · exact fun d st M Q l0 l1 l2 l3 x => jx_ev_st (jx_fok (by decide +kernel : decode (jx_mb 126) 14 = .ok (.istore_n 1, 1))) rfl rfl rfl
  · exact fun d lv st M Q => jx_ev_st (jx_fok (by decide +kernel : decode (jx_mb 126) 15 = .ok (.iconst 0, 1))) rfl rfl rfl
  · exact fun d st M Q l0 l1 l2 l3 x => jx_ev_st (jx_fok (by decide +kernel : decode (jx_mb 126) 16 = .ok (.istore_n 2, 1))) rfl rfl rfl
  · exact fun d lv st M Q => jx_ev_st (jx_fok (by decide +kernel : decode (jx_mb 126) 17 = .ok (.iconst 0, 1))) rfl rfl rfl
  · exact fun d st M Q l0 l1 l2 l3 x => jx_ev_st (jx_fok (by decide +kernel : decode (jx_mb 126) 18 = .ok (.istore_n 3, 1))) rfl rfl rfl
  · exact fun d lv st M Q => jx_ev_st (jx_fok (by decide +kernel : decode (jx_mb 126) 20 = .ok (.iconst 3, 1))) rfl rfl rfl
  · exact fun d lv st M Q x z => jx_k_b2 (jx_fok (by decide +kernel : decode (jx_mb 126) 21 = .ok (.if_icmp .gt 31, 3))) rfl jx_hGt
  · exact fun d st M Q l1 l2 l3 x => jx_ev_st (jx_fok (by decide +kernel : decode (jx_mb 126) 24 = .ok (.aload_n 0, 1))) rfl rfl rfl
  · exact fun d st M Q l0 l1 l2 x => jx_ev_st (jx_fok (by decide +kernel : decode (jx_mb 126) 25 = .ok (.iload_n 3, 1))) rfl rfl rfl
  · exact fun d lv st M Q x => jx_k_pf0 (jx_fok (by decide +kernel : decode (jx_mb 126) 26 = .ok (.putfield 110, 3))) rfl rfl rfl
  · exact fun d st M Q l0 l1 l3 x => jx_ev_st (jx_fok (by decide +kernel : decode (jx_mb 126) 29 = .ok (.iload_n 2, 1))) rfl rfl rfl
  · exact fun d st M Q l1 l2 l3 x => jx_ev_st (jx_fok (by decide +kernel : decode (jx_mb 126) 30 = .ok (.aload_n 0, 1))) rfl rfl rfl
  · exact fun d lv M Q a1 => jx_ev_ci (jx_fok (by decide +kernel : decode (jx_mb 126) 31 = .ok (.invokevirtual 179, 3))) rfl (jx_ccV (As := []) (rest := [.int a1]) rfl rfl rfl rfl rfl rfl) (by decide)
  · exact fun d lv st M Q x => jx_k_b1 (jx_fok (by decide +kernel : decode (jx_mb 126) 34 = .ok (.ifCond .eq 9, 3))) rfl jx_hEq
  · exact fun d lv st M Q => jx_ev_st (jx_fok (by decide +kernel : decode (jx_mb 126) 37 = .ok (.iconst 1, 1))) rfl rfl rfl
  · exact fun d st M Q l0 l1 l2 x => jx_ev_st (jx_fok (by decide +kernel : decode (jx_mb 126) 38 = .ok (.iload_n 3, 1))) rfl rfl rfl
  · exact fun d lv st M Q x z => jx_ev_st (jx_fok (by decide +kernel : decode (jx_mb 126) 39 = .ok (.ishl, 1))) rfl rfl rfl
  · exact fun d lv st M Q => jx_k_goto (jx_fok (by decide +kernel : decode (jx_mb 126) 40 = .ok (.goto 4, 3))) rfl
  · exact fun d lv st M Q => jx_ev_st (jx_fok (by decide +kernel : decode (jx_mb 126) 43 = .ok (.iconst 0, 1))) rfl rfl rfl
  · exact fun d lv st M Q x z => jx_ev_st (jx_fok (by decide +kernel : decode (jx_mb 126) 44 = .ok (.ior, 1))) rfl rfl rfl
  · exact fun d st M Q l0 l1 l2 l3 x => jx_ev_st (jx_fok (by decide +kernel : decode (jx_mb 126) 45 = .ok (.istore_n 2, 1))) rfl rfl rfl
  · exact fun d st M Q l0 l1 l2 x => jx_ev_st (jx_fok (by decide +kernel : decode (jx_mb 126) 46 = .ok (.iinc 3 1, 3))) rfl rfl rfl
  · exact fun d lv st M Q => jx_k_goto (jx_fok (by decide +kernel : decode (jx_mb 126) 49 = .ok (.goto (-30), 3))) rfl
  · exact fun d st M Q l1 l2 l3 x => jx_ev_st (jx_fok (by decide +kernel : decode (jx_mb 126) 52 = .ok (.aload_n 0, 1))) rfl rfl rfl
  · exact fun d st M Q l0 l2 l3 x => jx_ev_st (jx_fok (by decide +kernel : decode (jx_mb 126) 53 = .ok (.iload_n 1, 1))) rfl rfl rfl
  · exact fun d lv st M Q x => jx_k_pf0 (jx_fok (by decide +kernel : decode (jx_mb 126) 54 = .ok (.putfield 110, 3))) rfl rfl rfl
  · exact fun d st M Q l0 l1 l3 x => jx_ev_st (jx_fok (by decide +kernel : decode (jx_mb 126) 57 = .ok (.iload_n 2, 1))) rfl rfl rfl
  · exact fun d lv M Q x => jx_k_ri (jx_fok (by decide +kernel : decode (jx_mb 126) 58 = .ok (.ireturn, 1))) rfl
theorem eX8_damps_19 (d : Nat) (st : List Value) (M : jx_M) (Q : jx_Po) (l0 l1 l2 : Option Value) (x : Int32) : jx_Ev d 126 19 [l0, l1, l2, some (.int x)] st M Q ↔ jx_Ev d 126 20 [l0, l1, l2, some (.int x)] (.int x :: st) M Q := jx_ev_st (jx_fok (by decide +kernel : decode (jx_mb 126) 19 = .ok (.iload_n 3, 1))) rfl rfl rfl
theorem kX8_damps (d : Nat) (M : jx_M) (q : Int32 → jx_M → Prop) (a0 : Value) : jx_I d 126 [a0] M q ↔ jx_Ev d 126 0 [some a0, none, none, none] [] M (jx_qI q) := Iff.rfl
set_option maxRecDepth 100000 in
theorem eX8_odds :
  (∀ (d : Nat) (st : List Value) (M : jx_M) (Q : jx_Po) (l1 l2 l3 l4 l5 : Option Value) (x : Nat), jx_Ev d 128 0 [some (.ref x), l1, l2, l3, l4, l5] st M Q ↔ jx_Ev d 128 1 [some (.ref x), l1, l2, l3, l4, l5] (.ref x :: st) M Q) ∧
  (∀ (d : Nat) (st : List Value) (M : jx_M) (Q : jx_Po) (l0 l2 l3 l4 l5 : Option Value) (x : Int32), jx_Ev d 128 1 [l0, some (.int x), l2, l3, l4, l5] st M Q ↔ jx_Ev d 128 2 [l0, some (.int x), l2, l3, l4, l5] (.int x :: st) M Q) ∧
  (∀ (d : Nat) (lv : List (Option Value)) (M : jx_M) (Q : jx_Po) (a0 : Int32), jx_Ev (d + 1) 128 2 lv [.int a0, .ref 36] M Q ↔ jx_I d 91 [.ref 36, .int a0] M (fun x M => jx_Ev (d + 1) 128 5 lv (.int x :: []) M Q)) ∧
  (∀ (d : Nat) (lv : List (Option Value)) (st : List Value) (M : jx_M) (Q : jx_Po) (x : Int32), jx_Ev d 128 5 lv (.int x :: st) M Q ↔ (if x = 0 then jx_Ev d 128 24 lv st M Q else jx_Ev d 128 8 lv st M Q)) ∧
  (∀ (d : Nat) (st : List Value) (M : jx_M) (Q : jx_Po) (l0 l1 l3 l4 l5 : Option Value) (x : Int32), jx_Ev d 128 8 [l0, l1, some (.int x), l3, l4, l5] st M Q ↔ jx_Ev d 128 9 [l0, l1, some (.int x), l3, l4, l5] (.int x :: st) M Q) ∧
  (∀ (d : Nat) (lv : List (Option Value)) (M : jx_M) (Q : jx_Po) (a0 : Int32), jx_Ev (d + 1) 128 9 lv [.int a0] M Q ↔ jx_I d 106 [.int a0] M (fun x M => jx_Ev (d + 1) 128 12 lv (.int x :: []) M Q)) ∧
  (∀ (d : Nat) (lv : List (Option Value)) (st : List Value) (M : jx_M) (Q : jx_Po) (x : Int32), jx_Ev d 128 12 lv (.int x :: st) M Q ↔ (if x = 0 then jx_Ev d 128 24 lv st M Q else jx_Ev d 128 15 lv st M Q)) ∧
  (∀ (d : Nat) (st : List Value) (M : jx_M) (Q : jx_Po) (l0 l1 l2 l4 l5 : Option Value) (x : Int32), jx_Ev d 128 15 [l0, l1, l2, some (.int x), l4, l5] st M Q ↔ jx_Ev d 128 16 [l0, l1, l2, some (.int x), l4, l5] (.int x :: st) M Q) ∧
  (∀ (d : Nat) (lv : List (Option Value)) (st : List Value) (M : jx_M) (Q : jx_Po), jx_Ev d 128 16 lv st M Q ↔ jx_Ev d 128 17 lv (.int 0 :: st) M Q) ∧
  (∀ (d : Nat) (lv : List (Option Value)) (st : List Value) (M : jx_M) (Q : jx_Po), jx_Ev d 128 17 lv st M Q ↔ jx_Ev d 128 18 lv (.int 1 :: st) M Q) ∧
  (∀ (d : Nat) (lv : List (Option Value)) (M : jx_M) (Q : jx_Po) (a0 : Int32) (a1 : Int32) (a2 : Int32), jx_Ev (d + 1) 128 18 lv [.int a0, .int a1, .int a2] M Q ↔ jx_I d 86 [.int a2, .int a1, .int a0] M (fun x M => jx_Ev (d + 1) 128 21 lv (.int x :: []) M Q)) ∧
  (∀ (d : Nat) (lv : List (Option Value)) (st : List Value) (M : jx_M) (Q : jx_Po) (x : Int32), jx_Ev d 128 21 lv (.int x :: st) M Q ↔ (if x = 0 then jx_Ev d 128 24 lv st M Q else jx_Ev d 128 28 lv st M Q)) ∧
  (∀ (d : Nat) (lv : List (Option Value)) (st : List Value) (M : jx_M) (Q : jx_Po), jx_Ev d 128 24 lv st M Q ↔ jx_Ev d 128 27 lv (.long (-9223372036854775808) :: st) M Q) ∧
  (∀ (d : Nat) (lv : List (Option Value)) (M : jx_M) (Q : jx_Po) (x : Int64), jx_Ev d 128 27 lv [.long x] M Q ↔ Q [.long x] M) ∧
  (∀ (d : Nat) (lv : List (Option Value)) (st : List Value) (M : jx_M) (Q : jx_Po), jx_Ev d 128 28 lv st M Q ↔ jx_Ev d 128 29 lv (.int 0 :: st) M Q) ∧
  (∀ (d : Nat) (st : List Value) (M : jx_M) (Q : jx_Po) (l0 l1 l2 l3 l4 l5 : Option Value) (x : Int32), jx_Ev d 128 29 [l0, l1, l2, l3, l4, l5] (.int x :: st) M Q ↔ jx_Ev d 128 31 [l0, l1, l2, l3, some (.int x), l5] st M Q) ∧
  (∀ (d : Nat) (lv : List (Option Value)) (st : List Value) (M : jx_M) (Q : jx_Po), jx_Ev d 128 31 lv st M Q ↔ jx_Ev d 128 32 lv (.int 0 :: st) M Q) ∧
  (∀ (d : Nat) (st : List Value) (M : jx_M) (Q : jx_Po) (l0 l1 l2 l3 l4 l5 : Option Value) (x : Int32), jx_Ev d 128 32 [l0, l1, l2, l3, l4, l5] (.int x :: st) M Q ↔ jx_Ev d 128 34 [l0, l1, l2, l3, l4, some (.int x)] st M Q) ∧
  (∀ (d : Nat) (lv : List (Option Value)) (st : List Value) (M : jx_M) (Q : jx_Po), jx_Ev d 128 36 lv st M Q ↔ jx_Ev d 128 37 lv (.int 1 :: st) M Q) ∧
  (∀ (d : Nat) (st : List Value) (M : jx_M) (Q : jx_Po) (l1 l2 l3 l4 l5 : Option Value) (x : Nat), jx_Ev d 128 37 [some (.ref x), l1, l2, l3, l4, l5] st M Q ↔ jx_Ev d 128 38 [some (.ref x), l1, l2, l3, l4, l5] (.ref x :: st) M Q) ∧
  (∀ (d : Nat) (lv : List (Option Value)) (st : List Value) (M : jx_M) (Q : jx_Po), jx_Ev d 128 38 lv (.ref 36 :: st) M Q ↔ jx_Ev d 128 41 lv (.int (M 36 5) :: st) M Q) ∧
  (∀ (d : Nat) (lv : List (Option Value)) (st : List Value) (M : jx_M) (Q : jx_Po) (x z : Int32), jx_Ev d 128 41 lv (.int z :: .int x :: st) M Q ↔ jx_Ev d 128 42 lv (.int (x <<< (z &&& 31)) :: st) M Q) ∧
  (∀ (d : Nat) (lv : List (Option Value)) (st : List Value) (M : jx_M) (Q : jx_Po) (x z : Int32), jx_Ev d 128 42 lv (.int z :: .int x :: st) M Q ↔ (if z ≤ x then jx_Ev d 128 74 lv st M Q else jx_Ev d 128 45 lv st M Q)) ∧
  (∀ (d : Nat) (st : List Value) (M : jx_M) (Q : jx_Po) (l0 l1 l2 l3 l5 : Option Value) (x : Int32), jx_Ev d 128 45 [l0, l1, l2, l3, some (.int x), l5] st M Q ↔ jx_Ev d 128 47 [l0, l1, l2, l3, some (.int x), l5] (.int x :: st) M Q) ∧
  (∀ (d : Nat) (st : List Value) (M : jx_M) (Q : jx_Po) (l1 l2 l3 l4 l5 : Option Value) (x : Nat), jx_Ev d 128 47 [some (.ref x), l1, l2, l3, l4, l5] st M Q ↔ jx_Ev d 128 48 [some (.ref x), l1, l2, l3, l4, l5] (.ref x :: st) M Q) ∧
  (∀ (d : Nat) (st : List Value) (M : jx_M) (Q : jx_Po) (l0 l2 l3 l4 l5 : Option Value) (x : Int32), jx_Ev d 128 48 [l0, some (.int x), l2, l3, l4, l5] st M Q ↔ jx_Ev d 128 49 [l0, some (.int x), l2, l3, l4, l5] (.int x :: st) M Q) ∧
  (∀ (d : Nat) (st : List Value) (M : jx_M) (Q : jx_Po) (l0 l1 l3 l4 l5 : Option Value) (x : Int32), jx_Ev d 128 49 [l0, l1, some (.int x), l3, l4, l5] st M Q ↔ jx_Ev d 128 50 [l0, l1, some (.int x), l3, l4, l5] (.int x :: st) M Q) ∧
  (∀ (d : Nat) (st : List Value) (M : jx_M) (Q : jx_Po) (l0 l1 l2 l3 l4 : Option Value) (x : Int32), jx_Ev d 128 50 [l0, l1, l2, l3, l4, some (.int x)] st M Q ↔ jx_Ev d 128 52 [l0, l1, l2, l3, l4, some (.int x)] (.int x :: st) M Q) ∧
  (∀ (d : Nat) (lv : List (Option Value)) (M : jx_M) (Q : jx_Po) (a0 : Int32) (a1 : Int32) (a2 : Int32) (a4 : Int32), jx_Ev (d + 1) 128 52 lv [.int a0, .int a1, .int a2, .ref 36, .int a4] M Q ↔ jx_I d 108 [.ref 36, .int a2, .int a1, .int a0] M (fun x M => jx_Ev (d + 1) 128 55 lv (.int x :: [.int a4]) M Q)) ∧
  (∀ (d : Nat) (lv : List (Option Value)) (st : List Value) (M : jx_M) (Q : jx_Po), jx_Ev d 128 55 lv st M Q ↔ jx_Ev d 128 57 lv (.int (-9) :: st) M Q) ∧
  (∀ (d : Nat) (lv : List (Option Value)) (st : List Value) (M : jx_M) (Q : jx_Po) (x z : Int32), jx_Ev d 128 57 lv (.int z :: .int x :: st) M Q ↔ (if x = z then jx_Ev d 128 60 lv st M Q else jx_Ev d 128 64 lv st M Q)) ∧
  (∀ (d : Nat) (lv : List (Option Value)) (st : List Value) (M : jx_M) (Q : jx_Po), jx_Ev d 128 60 lv st M Q ↔ jx_Ev d 128 61 lv (.int 0 :: st) M Q) ∧
  (∀ (d : Nat) (lv : List (Option Value)) (st : List Value) (M : jx_M) (Q : jx_Po), jx_Ev d 128 61 lv st M Q ↔ jx_Ev d 128 65 lv st M Q) ∧
  (∀ (d : Nat) (lv : List (Option Value)) (st : List Value) (M : jx_M) (Q : jx_Po), jx_Ev d 128 64 lv st M Q ↔ jx_Ev d 128 65 lv (.int 1 :: st) M Q) ∧
  (∀ (d : Nat) (lv : List (Option Value)) (st : List Value) (M : jx_M) (Q : jx_Po) (x z : Int32), jx_Ev d 128 65 lv (.int z :: .int x :: st) M Q ↔ jx_Ev d 128 66 lv (.int (x + z) :: st) M Q) ∧
  (∀ (d : Nat) (st : List Value) (M : jx_M) (Q : jx_Po) (l0 l1 l2 l3 l4 l5 : Option Value) (x : Int32), jx_Ev d 128 66 [l0, l1, l2, l3, l4, l5] (.int x :: st) M Q ↔ jx_Ev d 128 68 [l0, l1, l2, l3, some (.int x), l5] st M Q) ∧
  (∀ (d : Nat) (st : List Value) (M : jx_M) (Q : jx_Po) (l0 l1 l2 l3 l4 : Option Value) (x : Int32), jx_Ev d 128 68 [l0, l1, l2, l3, l4, some (.int x)] st M Q ↔ jx_Ev d 128 71 [l0, l1, l2, l3, l4, some (.int (x + 1))] st M Q) ∧
  (∀ (d : Nat) (lv : List (Option Value)) (st : List Value) (M : jx_M) (Q : jx_Po), jx_Ev d 128 71 lv st M Q ↔ jx_Ev d 128 34 lv st M Q) ∧
  (∀ (d : Nat) (st : List Value) (M : jx_M) (Q : jx_Po) (l0 l1 l2 l3 l5 : Option Value) (x : Int32), jx_Ev d 128 74 [l0, l1, l2, l3, some (.int x), l5] st M Q ↔ jx_Ev d 128 76 [l0, l1, l2, l3, some (.int x), l5] (.int x :: st) M Q) ∧
  (∀ (d : Nat) (lv : List (Option Value)) (st : List Value) (M : jx_M) (Q : jx_Po) (x : Int32), jx_Ev d 128 76 lv (.int x :: st) M Q ↔ jx_Ev d 128 77 lv (.long x.toInt64 :: st) M Q) ∧
  (∀ (d : Nat) (lv : List (Option Value)) (st : List Value) (M : jx_M) (Q : jx_Po), jx_Ev d 128 77 lv st M Q ↔ jx_Ev d 128 78 lv (.long 1 :: st) M Q) ∧
  (∀ (d : Nat) (st : List Value) (M : jx_M) (Q : jx_Po) (l1 l2 l3 l4 l5 : Option Value) (x : Nat), jx_Ev d 128 78 [some (.ref x), l1, l2, l3, l4, l5] st M Q ↔ jx_Ev d 128 79 [some (.ref x), l1, l2, l3, l4, l5] (.ref x :: st) M Q) ∧
  (∀ (d : Nat) (lv : List (Option Value)) (st : List Value) (M : jx_M) (Q : jx_Po), jx_Ev d 128 79 lv (.ref 36 :: st) M Q ↔ jx_Ev d 128 82 lv (.int (M 36 5) :: st) M Q) ∧
  (∀ (d : Nat) (lv : List (Option Value)) (st : List Value) (M : jx_M) (Q : jx_Po) (x : Int64) (z : Int32), jx_Ev d 128 82 lv (.int z :: .long x :: st) M Q ↔ jx_Ev d 128 83 lv (.long (x <<< (z.toInt64 &&& 63)) :: st) M Q) ∧
  (∀ (d : Nat) (st : List Value) (M : jx_M) (Q : jx_Po) (l0 l1 l2 l4 l5 : Option Value) (x : Int32), jx_Ev d 128 83 [l0, l1, l2, some (.int x), l4, l5] st M Q ↔ jx_Ev d 128 84 [l0, l1, l2, some (.int x), l4, l5] (.int x :: st) M Q) ∧
  (∀ (d : Nat) (lv : List (Option Value)) (M : jx_M) (Q : jx_Po) (a0 : Int32) (a1 : Int64) (a2 : Int64) (r : Int64) (hr : jx_ilt a2 a1 a0 = some r), jx_Ev (d + 1) 128 84 lv [.int a0, .long a1, .long a2] M Q ↔ jx_Ev (d + 1) 128 87 lv (.long r :: []) M Q) ∧
  (∀ (d : Nat) (lv : List (Option Value)) (M : jx_M) (Q : jx_Po) (x : Int64), jx_Ev d 128 87 lv [.long x] M Q ↔ Q [.long x] M) := by
  refine ⟨?_, ?_, ?_, ?_, ?_, ?_, ?_, ?_, ?_, ?_, ?_, ?_, ?_, ?_, ?_, ?_, ?_, ?_, ?_, ?_, ?_, ?_, ?_, ?_, ?_, ?_, ?_, ?_, ?_, ?_, ?_, ?_, ?_, ?_, ?_, ?_, ?_, ?_, ?_, ?_, ?_, ?_, ?_, ?_, ?_, ?_, ?_⟩
  · exact fun d st M Q l1 l2 l3 l4 l5 x => jx_ev_st (jx_fok (by decide +kernel : decode (jx_mb 128) 0 = .ok (.aload_n 0, 1))) rfl rfl rfl
  · exact fun d st M Q l0 l2 l3 l4 l5 x => jx_ev_st (jx_fok (by decide +kernel : decode (jx_mb 128) 1 = .ok (.iload_n 1, 1))) rfl rfl rfl
  · exact fun d lv M Q a0 => jx_ev_ci (jx_fok (by decide +kernel : decode (jx_mb 128) 2 = .ok (.invokevirtual 148, 3))) rfl (jx_ccV (As := [.int a0]) (rest := []) rfl rfl rfl rfl rfl rfl) (by decide)
  · exact fun d lv st M Q x => jx_k_b1 (jx_fok (by decide +kernel : decode (jx_mb 128) 5 = .ok (.ifCond .eq 19, 3))) rfl jx_hEq
  · exact fun d st M Q l0 l1 l3 l4 l5 x => jx_ev_st (jx_fok (by decide +kernel : decode (jx_mb 128) 8 = .ok (.iload_n 2, 1))) rfl rfl rfl
  · exact fun d lv M Q a0 => jx_ev_ci (jx_fok (by decide +kernel : decode (jx_mb 128) 9 = .ok (.invokestatic 151, 3))) rfl (jx_ccS (As := [.int a0]) (rest := []) rfl rfl rfl rfl rfl) (by decide)
  · exact fun d lv st M Q x => jx_k_b1 (jx_fok (by decide +kernel : decode (jx_mb 128) 12 = .ok (.ifCond .eq 12, 3))) rfl jx_hEq
  · exact fun d st M Q l0 l1 l2 l4 l5 x => jx_ev_st (jx_fok (by decide +kernel : decode (jx_mb 128) 15 = .ok (.iload_n 3, 1))) rfl rfl rfl
  · exact fun d lv st M Q => jx_ev_st (jx_fok (by decide +kernel : decode (jx_mb 128) 16 = .ok (.iconst 0, 1))) rfl rfl rfl
  · exact fun d lv st M Q => jx_ev_st (jx_fok (by decide +kernel : decode (jx_mb 128) 17 = .ok (.iconst 1, 1))) rfl rfl rfl
  · exact fun d lv M Q a0 a1 a2 => jx_ev_ci (jx_fok (by decide +kernel : decode (jx_mb 128) 18 = .ok (.invokestatic 73, 3))) rfl (jx_ccS (As := [.int a2, .int a1, .int a0]) (rest := []) rfl rfl rfl rfl rfl) (by decide)
  · exact fun d lv st M Q x => jx_k_b1n (jx_fok (by decide +kernel : decode (jx_mb 128) 21 = .ok (.ifCond .ne 7, 3))) rfl jx_hNe
  · exact fun d lv st M Q => jx_ev_st (jx_fok (by decide +kernel : decode (jx_mb 128) 24 = .ok (.ldc2_w 71, 3))) rfl rfl rfl
  · exact fun d lv M Q x => jx_k_rl (jx_fok (by decide +kernel : decode (jx_mb 128) 27 = .ok (.lreturn, 1))) rfl
  · exact fun d lv st M Q => jx_ev_st (jx_fok (by decide +kernel : decode (jx_mb 128) 28 = .ok (.iconst 0, 1))) rfl rfl rfl
  · exact fun d st M Q l0 l1 l2 l3 l4 l5 x => jx_ev_st (jx_fok (by decide +kernel : decode (jx_mb 128) 29 = .ok (.istore 4, 2))) rfl rfl rfl
  · exact fun d lv st M Q => jx_ev_st (jx_fok (by decide +kernel : decode (jx_mb 128) 31 = .ok (.iconst 0, 1))) rfl rfl rfl
  · exact fun d st M Q l0 l1 l2 l3 l4 l5 x => jx_ev_st (jx_fok (by decide +kernel : decode (jx_mb 128) 32 = .ok (.istore 5, 2))) rfl rfl rfl
  · exact fun d lv st M Q => jx_ev_st (jx_fok (by decide +kernel : decode (jx_mb 128) 36 = .ok (.iconst 1, 1))) rfl rfl rfl
  · exact fun d st M Q l1 l2 l3 l4 l5 x => jx_ev_st (jx_fok (by decide +kernel : decode (jx_mb 128) 37 = .ok (.aload_n 0, 1))) rfl rfl rfl
  · exact fun d lv st M Q => jx_k_gf (jx_fok (by decide +kernel : decode (jx_mb 128) 38 = .ok (.getfield 77, 3))) rfl rfl rfl
  · exact fun d lv st M Q x z => jx_ev_st (jx_fok (by decide +kernel : decode (jx_mb 128) 41 = .ok (.ishl, 1))) rfl rfl rfl
  · exact fun d lv st M Q x z => jx_k_b2 (jx_fok (by decide +kernel : decode (jx_mb 128) 42 = .ok (.if_icmp .ge 32, 3))) rfl jx_hGe
  · exact fun d st M Q l0 l1 l2 l3 l5 x => jx_ev_st (jx_fok (by decide +kernel : decode (jx_mb 128) 45 = .ok (.iload 4, 2))) rfl rfl rfl
  · exact fun d st M Q l1 l2 l3 l4 l5 x => jx_ev_st (jx_fok (by decide +kernel : decode (jx_mb 128) 47 = .ok (.aload_n 0, 1))) rfl rfl rfl
  · exact fun d st M Q l0 l2 l3 l4 l5 x => jx_ev_st (jx_fok (by decide +kernel : decode (jx_mb 128) 48 = .ok (.iload_n 1, 1))) rfl rfl rfl
  · exact fun d st M Q l0 l1 l3 l4 l5 x => jx_ev_st (jx_fok (by decide +kernel : decode (jx_mb 128) 49 = .ok (.iload_n 2, 1))) rfl rfl rfl
  · exact fun d st M Q l0 l1 l2 l3 l4 x => jx_ev_st (jx_fok (by decide +kernel : decode (jx_mb 128) 50 = .ok (.iload 5, 2))) rfl rfl rfl
  · exact fun d lv M Q a0 a1 a2 a4 => jx_ev_ci (jx_fok (by decide +kernel : decode (jx_mb 128) 52 = .ok (.invokevirtual 158, 3))) rfl (jx_ccV (As := [.int a2, .int a1, .int a0]) (rest := [.int a4]) rfl rfl rfl rfl rfl rfl) (by decide)
  · exact fun d lv st M Q => jx_ev_st (jx_fok (by decide +kernel : decode (jx_mb 128) 55 = .ok (.bipush (-9), 2))) rfl rfl rfl
  · exact fun d lv st M Q x z => jx_k_b2n (jx_fok (by decide +kernel : decode (jx_mb 128) 57 = .ok (.if_icmp .ne 7, 3))) rfl jx_hNe
  · exact fun d lv st M Q => jx_ev_st (jx_fok (by decide +kernel : decode (jx_mb 128) 60 = .ok (.iconst 0, 1))) rfl rfl rfl
  · exact fun d lv st M Q => jx_k_goto (jx_fok (by decide +kernel : decode (jx_mb 128) 61 = .ok (.goto 4, 3))) rfl
  · exact fun d lv st M Q => jx_ev_st (jx_fok (by decide +kernel : decode (jx_mb 128) 64 = .ok (.iconst 1, 1))) rfl rfl rfl
  · exact fun d lv st M Q x z => jx_ev_st (jx_fok (by decide +kernel : decode (jx_mb 128) 65 = .ok (.iadd, 1))) rfl rfl rfl
  · exact fun d st M Q l0 l1 l2 l3 l4 l5 x => jx_ev_st (jx_fok (by decide +kernel : decode (jx_mb 128) 66 = .ok (.istore 4, 2))) rfl rfl rfl
  · exact fun d st M Q l0 l1 l2 l3 l4 x => jx_ev_st (jx_fok (by decide +kernel : decode (jx_mb 128) 68 = .ok (.iinc 5 1, 3))) rfl rfl rfl
  · exact fun d lv st M Q => jx_k_goto (jx_fok (by decide +kernel : decode (jx_mb 128) 71 = .ok (.goto (-37), 3))) rfl
  · exact fun d st M Q l0 l1 l2 l3 l5 x => jx_ev_st (jx_fok (by decide +kernel : decode (jx_mb 128) 74 = .ok (.iload 4, 2))) rfl rfl rfl
  · exact fun d lv st M Q x => jx_ev_st (jx_fok (by decide +kernel : decode (jx_mb 128) 76 = .ok (.i2l, 1))) rfl rfl rfl
  · exact fun d lv st M Q => jx_ev_st (jx_fok (by decide +kernel : decode (jx_mb 128) 77 = .ok (.lconst 1, 1))) rfl rfl rfl
  · exact fun d st M Q l1 l2 l3 l4 l5 x => jx_ev_st (jx_fok (by decide +kernel : decode (jx_mb 128) 78 = .ok (.aload_n 0, 1))) rfl rfl rfl
  · exact fun d lv st M Q => jx_k_gf (jx_fok (by decide +kernel : decode (jx_mb 128) 79 = .ok (.getfield 77, 3))) rfl rfl rfl
  · exact fun d lv st M Q x z => jx_ev_st (jx_fok (by decide +kernel : decode (jx_mb 128) 82 = .ok (.lshl, 1))) rfl rfl rfl
  · exact fun d st M Q l0 l1 l2 l4 l5 x => jx_ev_st (jx_fok (by decide +kernel : decode (jx_mb 128) 83 = .ok (.iload_n 3, 1))) rfl rfl rfl
  · exact fun d lv M Q a0 a1 a2 r hr => jx_k_ilt (jx_fok (by decide +kernel : decode (jx_mb 128) 84 = .ok (.invokestatic 183, 3))) rfl rfl (Nat.le_of_ble_eq_true rfl) hr
  · exact fun d lv M Q x => jx_k_rl (jx_fok (by decide +kernel : decode (jx_mb 128) 87 = .ok (.lreturn, 1))) rfl
theorem eX8_odds_34 (d : Nat) (st : List Value) (M : jx_M) (Q : jx_Po) (l0 l1 l2 l3 l4 : Option Value) (x : Int32) : jx_Ev d 128 34 [l0, l1, l2, l3, l4, some (.int x)] st M Q ↔ jx_Ev d 128 36 [l0, l1, l2, l3, l4, some (.int x)] (.int x :: st) M Q := jx_ev_st (jx_fok (by decide +kernel : decode (jx_mb 128) 34 = .ok (.iload 5, 2))) rfl rfl rfl
theorem kX8_odds (d : Nat) (M : jx_M) (q : Int64 → jx_M → Prop) (a0 a1 a2 a3 : Value) : jx_L d 128 [a0, a1, a2, a3] M q ↔ jx_Ev d 128 0 [some a0, some a1, some a2, some a3, none, none] [] M (jx_qL q) := Iff.rfl
set_option maxRecDepth 100000 in
theorem eX8_sheet :
  (∀ (d : Nat) (st : List Value) (M : jx_M) (Q : jx_Po) (l1 l2 l3 l4 : Option Value) (x : Nat), jx_Ev d 129 0 [some (.ref x), l1, l2, l3, l4] st M Q ↔ jx_Ev d 129 1 [some (.ref x), l1, l2, l3, l4] (.ref x :: st) M Q) ∧
  (∀ (d : Nat) (lv : List (Option Value)) (st : List Value) (M : jx_M) (Q : jx_Po), jx_Ev d 129 1 lv st M Q ↔ jx_Ev d 129 2 lv (.int 0 :: st) M Q) ∧
  (∀ (d : Nat) (lv : List (Option Value)) (st : List Value) (M : jx_M) (Q : jx_Po) (x : Int32), jx_Ev d 129 2 lv (.int x :: .ref 36 :: st) M Q ↔ jx_Ev d 129 5 lv st (jx_up M 36 0 x) Q) ∧
  (∀ (d : Nat) (st : List Value) (M : jx_M) (Q : jx_Po) (l0 l2 l3 l4 : Option Value) (x : Int32), jx_Ev d 129 5 [l0, some (.int x), l2, l3, l4] st M Q ↔ jx_Ev d 129 6 [l0, some (.int x), l2, l3, l4] (.int x :: st) M Q) ∧
  (∀ (d : Nat) (lv : List (Option Value)) (M : jx_M) (Q : jx_Po) (a0 : Int32), jx_Ev (d + 1) 129 6 lv [.int a0] M Q ↔ jx_I d 87 [.int a0] M (fun x M => jx_Ev (d + 1) 129 9 lv (.int x :: []) M Q)) ∧
  (∀ (d : Nat) (lv : List (Option Value)) (st : List Value) (M : jx_M) (Q : jx_Po) (x : Int32), jx_Ev d 129 9 lv (.int x :: st) M Q ↔ (if x = 0 then jx_Ev d 129 12 lv st M Q else jx_Ev d 129 14 lv st M Q)) ∧
  (∀ (d : Nat) (lv : List (Option Value)) (st : List Value) (M : jx_M) (Q : jx_Po), jx_Ev d 129 12 lv st M Q ↔ jx_Ev d 129 13 lv (.int (-1) :: st) M Q) ∧
  (∀ (d : Nat) (lv : List (Option Value)) (M : jx_M) (Q : jx_Po) (x : Int32), jx_Ev d 129 13 lv [.int x] M Q ↔ Q [.int x] M) ∧
  (∀ (d : Nat) (st : List Value) (M : jx_M) (Q : jx_Po) (l0 l1 l3 l4 : Option Value) (x : Int32), jx_Ev d 129 14 [l0, l1, some (.int x), l3, l4] st M Q ↔ jx_Ev d 129 15 [l0, l1, some (.int x), l3, l4] (.int x :: st) M Q) ∧
  (∀ (d : Nat) (lv : List (Option Value)) (M : jx_M) (Q : jx_Po) (a0 : Int32), jx_Ev (d + 1) 129 15 lv [.int a0] M Q ↔ jx_I d 88 [.int a0] M (fun x M => jx_Ev (d + 1) 129 18 lv (.int x :: []) M Q)) ∧
  (∀ (d : Nat) (lv : List (Option Value)) (st : List Value) (M : jx_M) (Q : jx_Po) (x : Int32), jx_Ev d 129 18 lv (.int x :: st) M Q ↔ (if x = 0 then jx_Ev d 129 27 lv st M Q else jx_Ev d 129 21 lv st M Q)) ∧
  (∀ (d : Nat) (st : List Value) (M : jx_M) (Q : jx_Po) (l0 l1 l2 l4 : Option Value) (x : Int32), jx_Ev d 129 21 [l0, l1, l2, some (.int x), l4] st M Q ↔ jx_Ev d 129 22 [l0, l1, l2, some (.int x), l4] (.int x :: st) M Q) ∧
  (∀ (d : Nat) (lv : List (Option Value)) (st : List Value) (M : jx_M) (Q : jx_Po), jx_Ev d 129 22 lv st M Q ↔ jx_Ev d 129 24 lv (.int 60 :: st) M Q) ∧
  (∀ (d : Nat) (lv : List (Option Value)) (st : List Value) (M : jx_M) (Q : jx_Po) (x z : Int32), jx_Ev d 129 24 lv (.int z :: .int x :: st) M Q ↔ (if x ≤ z then jx_Ev d 129 30 lv st M Q else jx_Ev d 129 27 lv st M Q)) ∧
  (∀ (d : Nat) (lv : List (Option Value)) (st : List Value) (M : jx_M) (Q : jx_Po), jx_Ev d 129 27 lv st M Q ↔ jx_Ev d 129 29 lv (.int (-2) :: st) M Q) ∧
  (∀ (d : Nat) (lv : List (Option Value)) (M : jx_M) (Q : jx_Po) (x : Int32), jx_Ev d 129 29 lv [.int x] M Q ↔ Q [.int x] M) ∧
  (∀ (d : Nat) (st : List Value) (M : jx_M) (Q : jx_Po) (l0 l1 l2 l4 : Option Value) (x : Int32), jx_Ev d 129 30 [l0, l1, l2, some (.int x), l4] st M Q ↔ jx_Ev d 129 31 [l0, l1, l2, some (.int x), l4] (.int x :: st) M Q) ∧
  (∀ (d : Nat) (lv : List (Option Value)) (st : List Value) (M : jx_M) (Q : jx_Po) (x : Int32), jx_Ev d 129 31 lv (.int x :: st) M Q ↔ (if 0 ≤ x then jx_Ev d 129 40 lv st M Q else jx_Ev d 129 34 lv st M Q)) ∧
  (∀ (d : Nat) (st : List Value) (M : jx_M) (Q : jx_Po) (l1 l2 l3 l4 : Option Value) (x : Nat), jx_Ev d 129 34 [some (.ref x), l1, l2, l3, l4] st M Q ↔ jx_Ev d 129 35 [some (.ref x), l1, l2, l3, l4] (.ref x :: st) M Q) ∧
  (∀ (d : Nat) (lv : List (Option Value)) (st : List Value) (M : jx_M) (Q : jx_Po), jx_Ev d 129 35 lv st M Q ↔ jx_Ev d 129 36 lv (.int 4 :: st) M Q) ∧
  (∀ (d : Nat) (lv : List (Option Value)) (M : jx_M) (Q : jx_Po) (a0 : Int32), jx_Ev (d + 1) 129 36 lv [.int a0, .ref 36] M Q ↔ jx_I d 84 [.ref 36, .int a0] M (fun x M => jx_Ev (d + 1) 129 39 lv (.int x :: []) M Q)) ∧
  (∀ (d : Nat) (lv : List (Option Value)) (M : jx_M) (Q : jx_Po) (x : Int32), jx_Ev d 129 39 lv [.int x] M Q ↔ Q [.int x] M) ∧
  (∀ (d : Nat) (st : List Value) (M : jx_M) (Q : jx_Po) (l1 l2 l3 l4 : Option Value) (x : Nat), jx_Ev d 129 40 [some (.ref x), l1, l2, l3, l4] st M Q ↔ jx_Ev d 129 41 [some (.ref x), l1, l2, l3, l4] (.ref x :: st) M Q) ∧
  (∀ (d : Nat) (lv : List (Option Value)) (st : List Value) (M : jx_M) (Q : jx_Po), jx_Ev d 129 41 lv (.ref 36 :: st) M Q ↔ jx_Ev d 129 44 lv (.ref 37 :: st) M Q) ∧
  (∀ (d : Nat) (st : List Value) (M : jx_M) (Q : jx_Po) (l0 l2 l3 l4 : Option Value) (x : Int32), jx_Ev d 129 44 [l0, some (.int x), l2, l3, l4] st M Q ↔ jx_Ev d 129 45 [l0, some (.int x), l2, l3, l4] (.int x :: st) M Q) ∧
  (∀ (d : Nat) (st : List Value) (M : jx_M) (Q : jx_Po) (l0 l1 l3 l4 : Option Value) (x : Int32), jx_Ev d 129 45 [l0, l1, some (.int x), l3, l4] st M Q ↔ jx_Ev d 129 46 [l0, l1, some (.int x), l3, l4] (.int x :: st) M Q) ∧
  (∀ (d : Nat) (lv : List (Option Value)) (st : List Value) (M : jx_M) (Q : jx_Po) (x z : Int32) (a : Nat) (ha : jx_cl a = 9), jx_Ev d 129 46 lv (.int z :: .int x :: .ref a :: st) M Q ↔ (vp_in x (jx_sz a) ∧ jx_Ev d 129 47 lv st (jx_up M a x.toNatClampNeg z) Q)) ∧
  (∀ (d : Nat) (st : List Value) (M : jx_M) (Q : jx_Po) (l1 l2 l3 l4 : Option Value) (x : Nat), jx_Ev d 129 47 [some (.ref x), l1, l2, l3, l4] st M Q ↔ jx_Ev d 129 48 [some (.ref x), l1, l2, l3, l4] (.ref x :: st) M Q) ∧
  (∀ (d : Nat) (lv : List (Option Value)) (st : List Value) (M : jx_M) (Q : jx_Po), jx_Ev d 129 48 lv (.ref 36 :: st) M Q ↔ jx_Ev d 129 51 lv (.ref 38 :: st) M Q) ∧
  (∀ (d : Nat) (st : List Value) (M : jx_M) (Q : jx_Po) (l0 l2 l3 l4 : Option Value) (x : Int32), jx_Ev d 129 51 [l0, some (.int x), l2, l3, l4] st M Q ↔ jx_Ev d 129 52 [l0, some (.int x), l2, l3, l4] (.int x :: st) M Q) ∧
  (∀ (d : Nat) (st : List Value) (M : jx_M) (Q : jx_Po) (l0 l1 l2 l4 : Option Value) (x : Int32), jx_Ev d 129 52 [l0, l1, l2, some (.int x), l4] st M Q ↔ jx_Ev d 129 53 [l0, l1, l2, some (.int x), l4] (.int x :: st) M Q) ∧
  (∀ (d : Nat) (lv : List (Option Value)) (st : List Value) (M : jx_M) (Q : jx_Po) (x z : Int32) (a : Nat) (ha : jx_cl a = 9), jx_Ev d 129 53 lv (.int z :: .int x :: .ref a :: st) M Q ↔ (vp_in x (jx_sz a) ∧ jx_Ev d 129 54 lv st (jx_up M a x.toNatClampNeg z) Q)) ∧
  (∀ (d : Nat) (lv : List (Option Value)) (st : List Value) (M : jx_M) (Q : jx_Po), jx_Ev d 129 54 lv st M Q ↔ jx_Ev d 129 55 lv (.int 0 :: st) M Q) ∧
  (∀ (d : Nat) (st : List Value) (M : jx_M) (Q : jx_Po) (l0 l1 l2 l3 l4 : Option Value) (x : Int32), jx_Ev d 129 55 [l0, l1, l2, l3, l4] (.int x :: st) M Q ↔ jx_Ev d 129 57 [l0, l1, l2, l3, some (.int x)] st M Q) ∧
  (∀ (d : Nat) (lv : List (Option Value)) (st : List Value) (M : jx_M) (Q : jx_Po), jx_Ev d 129 59 lv st M Q ↔ jx_Ev d 129 61 lv (.int 60 :: st) M Q) ∧
  (∀ (d : Nat) (lv : List (Option Value)) (st : List Value) (M : jx_M) (Q : jx_Po) (x z : Int32), jx_Ev d 129 61 lv (.int z :: .int x :: st) M Q ↔ (if z ≤ x then jx_Ev d 129 83 lv st M Q else jx_Ev d 129 64 lv st M Q)) ∧
  (∀ (d : Nat) (st : List Value) (M : jx_M) (Q : jx_Po) (l1 l2 l3 l4 : Option Value) (x : Nat), jx_Ev d 129 64 [some (.ref x), l1, l2, l3, l4] st M Q ↔ jx_Ev d 129 65 [some (.ref x), l1, l2, l3, l4] (.ref x :: st) M Q) ∧
  (∀ (d : Nat) (lv : List (Option Value)) (st : List Value) (M : jx_M) (Q : jx_Po), jx_Ev d 129 65 lv (.ref 36 :: st) M Q ↔ jx_Ev d 129 68 lv (.ref 39 :: st) M Q) ∧
  (∀ (d : Nat) (lv : List (Option Value)) (st : List Value) (M : jx_M) (Q : jx_Po), jx_Ev d 129 68 lv st M Q ↔ jx_Ev d 129 70 lv (.int 60 :: st) M Q) ∧
  (∀ (d : Nat) (st : List Value) (M : jx_M) (Q : jx_Po) (l0 l2 l3 l4 : Option Value) (x : Int32), jx_Ev d 129 70 [l0, some (.int x), l2, l3, l4] st M Q ↔ jx_Ev d 129 71 [l0, some (.int x), l2, l3, l4] (.int x :: st) M Q) ∧
  (∀ (d : Nat) (lv : List (Option Value)) (st : List Value) (M : jx_M) (Q : jx_Po) (x z : Int32), jx_Ev d 129 71 lv (.int z :: .int x :: st) M Q ↔ jx_Ev d 129 72 lv (.int (x * z) :: st) M Q) ∧
  (∀ (d : Nat) (st : List Value) (M : jx_M) (Q : jx_Po) (l0 l1 l2 l3 : Option Value) (x : Int32), jx_Ev d 129 72 [l0, l1, l2, l3, some (.int x)] st M Q ↔ jx_Ev d 129 74 [l0, l1, l2, l3, some (.int x)] (.int x :: st) M Q) ∧
  (∀ (d : Nat) (lv : List (Option Value)) (st : List Value) (M : jx_M) (Q : jx_Po) (x z : Int32), jx_Ev d 129 74 lv (.int z :: .int x :: st) M Q ↔ jx_Ev d 129 75 lv (.int (x + z) :: st) M Q) ∧
  (∀ (d : Nat) (lv : List (Option Value)) (st : List Value) (M : jx_M) (Q : jx_Po), jx_Ev d 129 75 lv st M Q ↔ jx_Ev d 129 76 lv (.int 0 :: st) M Q) ∧
  (∀ (d : Nat) (lv : List (Option Value)) (st : List Value) (M : jx_M) (Q : jx_Po) (x z : Int32) (a : Nat) (ha : jx_cl a = 9), jx_Ev d 129 76 lv (.int z :: .int x :: .ref a :: st) M Q ↔ (vp_in x (jx_sz a) ∧ jx_Ev d 129 77 lv st (jx_up M a x.toNatClampNeg z) Q)) ∧
  (∀ (d : Nat) (st : List Value) (M : jx_M) (Q : jx_Po) (l0 l1 l2 l3 : Option Value) (x : Int32), jx_Ev d 129 77 [l0, l1, l2, l3, some (.int x)] st M Q ↔ jx_Ev d 129 80 [l0, l1, l2, l3, some (.int (x + 1))] st M Q) ∧
  (∀ (d : Nat) (lv : List (Option Value)) (st : List Value) (M : jx_M) (Q : jx_Po), jx_Ev d 129 80 lv st M Q ↔ jx_Ev d 129 57 lv st M Q) ∧
  (∀ (d : Nat) (lv : List (Option Value)) (st : List Value) (M : jx_M) (Q : jx_Po), jx_Ev d 129 83 lv st M Q ↔ jx_Ev d 129 84 lv (.int 1 :: st) M Q) ∧
  (∀ (d : Nat) (lv : List (Option Value)) (M : jx_M) (Q : jx_Po) (x : Int32), jx_Ev d 129 84 lv [.int x] M Q ↔ Q [.int x] M) := by
  refine ⟨?_, ?_, ?_, ?_, ?_, ?_, ?_, ?_, ?_, ?_, ?_, ?_, ?_, ?_, ?_, ?_, ?_, ?_, ?_, ?_, ?_, ?_, ?_, ?_, ?_, ?_, ?_, ?_, ?_, ?_, ?_, ?_, ?_, ?_, ?_, ?_, ?_, ?_, ?_, ?_, ?_, ?_, ?_, ?_, ?_, ?_, ?_, ?_, ?_⟩
  · exact fun d st M Q l1 l2 l3 l4 x => jx_ev_st (jx_fok (by decide +kernel : decode (jx_mb 129) 0 = .ok (.aload_n 0, 1))) rfl rfl rfl
  · exact fun d lv st M Q => jx_ev_st (jx_fok (by decide +kernel : decode (jx_mb 129) 1 = .ok (.iconst 0, 1))) rfl rfl rfl
  · exact fun d lv st M Q x => jx_k_pf0 (jx_fok (by decide +kernel : decode (jx_mb 129) 2 = .ok (.putfield 67, 3))) rfl rfl rfl
  · exact fun d st M Q l0 l2 l3 l4 x => jx_ev_st (jx_fok (by decide +kernel : decode (jx_mb 129) 5 = .ok (.iload_n 1, 1))) rfl rfl rfl
  · exact fun d lv M Q a0 => jx_ev_ci (jx_fok (by decide +kernel : decode (jx_mb 129) 6 = .ok (.invokestatic 86, 3))) rfl (jx_ccS (As := [.int a0]) (rest := []) rfl rfl rfl rfl rfl) (by decide)
  · exact fun d lv st M Q x => jx_k_b1n (jx_fok (by decide +kernel : decode (jx_mb 129) 9 = .ok (.ifCond .ne 5, 3))) rfl jx_hNe
  · exact fun d lv st M Q => jx_ev_st (jx_fok (by decide +kernel : decode (jx_mb 129) 12 = .ok (.iconst (-1), 1))) rfl rfl rfl
  · exact fun d lv M Q x => jx_k_ri (jx_fok (by decide +kernel : decode (jx_mb 129) 13 = .ok (.ireturn, 1))) rfl
  · exact fun d st M Q l0 l1 l3 l4 x => jx_ev_st (jx_fok (by decide +kernel : decode (jx_mb 129) 14 = .ok (.iload_n 2, 1))) rfl rfl rfl
  · exact fun d lv M Q a0 => jx_ev_ci (jx_fok (by decide +kernel : decode (jx_mb 129) 15 = .ok (.invokestatic 90, 3))) rfl (jx_ccS (As := [.int a0]) (rest := []) rfl rfl rfl rfl rfl) (by decide)
  · exact fun d lv st M Q x => jx_k_b1 (jx_fok (by decide +kernel : decode (jx_mb 129) 18 = .ok (.ifCond .eq 9, 3))) rfl jx_hEq
  · exact fun d st M Q l0 l1 l2 l4 x => jx_ev_st (jx_fok (by decide +kernel : decode (jx_mb 129) 21 = .ok (.iload_n 3, 1))) rfl rfl rfl
  · exact fun d lv st M Q => jx_ev_st (jx_fok (by decide +kernel : decode (jx_mb 129) 22 = .ok (.bipush 60, 2))) rfl rfl rfl
  · exact fun d lv st M Q x z => jx_k_b2 (jx_fok (by decide +kernel : decode (jx_mb 129) 24 = .ok (.if_icmp .le 6, 3))) rfl jx_hLe
  · exact fun d lv st M Q => jx_ev_st (jx_fok (by decide +kernel : decode (jx_mb 129) 27 = .ok (.bipush (-2), 2))) rfl rfl rfl
  · exact fun d lv M Q x => jx_k_ri (jx_fok (by decide +kernel : decode (jx_mb 129) 29 = .ok (.ireturn, 1))) rfl
  · exact fun d st M Q l0 l1 l2 l4 x => jx_ev_st (jx_fok (by decide +kernel : decode (jx_mb 129) 30 = .ok (.iload_n 3, 1))) rfl rfl rfl
  · exact fun d lv st M Q x => jx_k_b1 (jx_fok (by decide +kernel : decode (jx_mb 129) 31 = .ok (.ifCond .ge 9, 3))) rfl jx_hGe
  · exact fun d st M Q l1 l2 l3 l4 x => jx_ev_st (jx_fok (by decide +kernel : decode (jx_mb 129) 34 = .ok (.aload_n 0, 1))) rfl rfl rfl
  · exact fun d lv st M Q => jx_ev_st (jx_fok (by decide +kernel : decode (jx_mb 129) 35 = .ok (.iconst 4, 1))) rfl rfl rfl
  · exact fun d lv M Q a0 => jx_ev_ci (jx_fok (by decide +kernel : decode (jx_mb 129) 36 = .ok (.invokevirtual 97, 3))) rfl (jx_ccV (As := [.int a0]) (rest := []) rfl rfl rfl rfl rfl rfl) (by decide)
  · exact fun d lv M Q x => jx_k_ri (jx_fok (by decide +kernel : decode (jx_mb 129) 39 = .ok (.ireturn, 1))) rfl
  · exact fun d st M Q l1 l2 l3 l4 x => jx_ev_st (jx_fok (by decide +kernel : decode (jx_mb 129) 40 = .ok (.aload_n 0, 1))) rfl rfl rfl
  · exact fun d lv st M Q => jx_k_gf (jx_fok (by decide +kernel : decode (jx_mb 129) 41 = .ok (.getfield 9, 3))) rfl rfl rfl
  · exact fun d st M Q l0 l2 l3 l4 x => jx_ev_st (jx_fok (by decide +kernel : decode (jx_mb 129) 44 = .ok (.iload_n 1, 1))) rfl rfl rfl
  · exact fun d st M Q l0 l1 l3 l4 x => jx_ev_st (jx_fok (by decide +kernel : decode (jx_mb 129) 45 = .ok (.iload_n 2, 1))) rfl rfl rfl
  · exact fun d lv st M Q x z a ha => jx_k_as (jx_fok (by decide +kernel : decode (jx_mb 129) 46 = .ok (.iastore, 1))) ha
  · exact fun d st M Q l1 l2 l3 l4 x => jx_ev_st (jx_fok (by decide +kernel : decode (jx_mb 129) 47 = .ok (.aload_n 0, 1))) rfl rfl rfl
  · exact fun d lv st M Q => jx_k_gf (jx_fok (by decide +kernel : decode (jx_mb 129) 48 = .ok (.getfield 13, 3))) rfl rfl rfl
  · exact fun d st M Q l0 l2 l3 l4 x => jx_ev_st (jx_fok (by decide +kernel : decode (jx_mb 129) 51 = .ok (.iload_n 1, 1))) rfl rfl rfl
  · exact fun d st M Q l0 l1 l2 l4 x => jx_ev_st (jx_fok (by decide +kernel : decode (jx_mb 129) 52 = .ok (.iload_n 3, 1))) rfl rfl rfl
  · exact fun d lv st M Q x z a ha => jx_k_as (jx_fok (by decide +kernel : decode (jx_mb 129) 53 = .ok (.iastore, 1))) ha
  · exact fun d lv st M Q => jx_ev_st (jx_fok (by decide +kernel : decode (jx_mb 129) 54 = .ok (.iconst 0, 1))) rfl rfl rfl
  · exact fun d st M Q l0 l1 l2 l3 l4 x => jx_ev_st (jx_fok (by decide +kernel : decode (jx_mb 129) 55 = .ok (.istore 4, 2))) rfl rfl rfl
  · exact fun d lv st M Q => jx_ev_st (jx_fok (by decide +kernel : decode (jx_mb 129) 59 = .ok (.bipush 60, 2))) rfl rfl rfl
  · exact fun d lv st M Q x z => jx_k_b2 (jx_fok (by decide +kernel : decode (jx_mb 129) 61 = .ok (.if_icmp .ge 22, 3))) rfl jx_hGe
  · exact fun d st M Q l1 l2 l3 l4 x => jx_ev_st (jx_fok (by decide +kernel : decode (jx_mb 129) 64 = .ok (.aload_n 0, 1))) rfl rfl rfl
  · exact fun d lv st M Q => jx_k_gf (jx_fok (by decide +kernel : decode (jx_mb 129) 65 = .ok (.getfield 16, 3))) rfl rfl rfl
  · exact fun d lv st M Q => jx_ev_st (jx_fok (by decide +kernel : decode (jx_mb 129) 68 = .ok (.bipush 60, 2))) rfl rfl rfl
  · exact fun d st M Q l0 l2 l3 l4 x => jx_ev_st (jx_fok (by decide +kernel : decode (jx_mb 129) 70 = .ok (.iload_n 1, 1))) rfl rfl rfl
  · exact fun d lv st M Q x z => jx_ev_st (jx_fok (by decide +kernel : decode (jx_mb 129) 71 = .ok (.imul, 1))) rfl rfl rfl
  · exact fun d st M Q l0 l1 l2 l3 x => jx_ev_st (jx_fok (by decide +kernel : decode (jx_mb 129) 72 = .ok (.iload 4, 2))) rfl rfl rfl
  · exact fun d lv st M Q x z => jx_ev_st (jx_fok (by decide +kernel : decode (jx_mb 129) 74 = .ok (.iadd, 1))) rfl rfl rfl
  · exact fun d lv st M Q => jx_ev_st (jx_fok (by decide +kernel : decode (jx_mb 129) 75 = .ok (.iconst 0, 1))) rfl rfl rfl
  · exact fun d lv st M Q x z a ha => jx_k_as (jx_fok (by decide +kernel : decode (jx_mb 129) 76 = .ok (.iastore, 1))) ha
  · exact fun d st M Q l0 l1 l2 l3 x => jx_ev_st (jx_fok (by decide +kernel : decode (jx_mb 129) 77 = .ok (.iinc 4 1, 3))) rfl rfl rfl
  · exact fun d lv st M Q => jx_k_goto (jx_fok (by decide +kernel : decode (jx_mb 129) 80 = .ok (.goto (-23), 3))) rfl
  · exact fun d lv st M Q => jx_ev_st (jx_fok (by decide +kernel : decode (jx_mb 129) 83 = .ok (.iconst 1, 1))) rfl rfl rfl
  · exact fun d lv M Q x => jx_k_ri (jx_fok (by decide +kernel : decode (jx_mb 129) 84 = .ok (.ireturn, 1))) rfl
theorem eX8_sheet_57 (d : Nat) (st : List Value) (M : jx_M) (Q : jx_Po) (l0 l1 l2 l3 : Option Value) (x : Int32) : jx_Ev d 129 57 [l0, l1, l2, l3, some (.int x)] st M Q ↔ jx_Ev d 129 59 [l0, l1, l2, l3, some (.int x)] (.int x :: st) M Q := jx_ev_st (jx_fok (by decide +kernel : decode (jx_mb 129) 57 = .ok (.iload 4, 2))) rfl rfl rfl
theorem kX8_sheet (d : Nat) (M : jx_M) (q : Int32 → jx_M → Prop) (a0 a1 a2 a3 : Value) : jx_I d 129 [a0, a1, a2, a3] M q ↔ jx_Ev d 129 0 [some a0, some a1, some a2, some a3, none] [] M (jx_qI q) := Iff.rfl
set_option maxRecDepth 100000 in
theorem eX8_lose :
  (∀ (d : Nat) (st : List Value) (M : jx_M) (Q : jx_Po) (l0 l2 : Option Value) (x : Int32), jx_Ev d 130 0 [l0, some (.int x), l2] st M Q ↔ jx_Ev d 130 1 [l0, some (.int x), l2] (.int x :: st) M Q) ∧
  (∀ (d : Nat) (lv : List (Option Value)) (M : jx_M) (Q : jx_Po) (a0 : Int32), jx_Ev (d + 1) 130 1 lv [.int a0] M Q ↔ jx_I d 87 [.int a0] M (fun x M => jx_Ev (d + 1) 130 4 lv (.int x :: []) M Q)) ∧
  (∀ (d : Nat) (lv : List (Option Value)) (st : List Value) (M : jx_M) (Q : jx_Po) (x : Int32), jx_Ev d 130 4 lv (.int x :: st) M Q ↔ (if x = 0 then jx_Ev d 130 7 lv st M Q else jx_Ev d 130 9 lv st M Q)) ∧
  (∀ (d : Nat) (lv : List (Option Value)) (st : List Value) (M : jx_M) (Q : jx_Po), jx_Ev d 130 7 lv st M Q ↔ jx_Ev d 130 8 lv (.int (-1) :: st) M Q) ∧
  (∀ (d : Nat) (lv : List (Option Value)) (M : jx_M) (Q : jx_Po) (x : Int32), jx_Ev d 130 8 lv [.int x] M Q ↔ Q [.int x] M) ∧
  (∀ (d : Nat) (st : List Value) (M : jx_M) (Q : jx_Po) (l1 l2 : Option Value) (x : Nat), jx_Ev d 130 9 [some (.ref x), l1, l2] st M Q ↔ jx_Ev d 130 10 [some (.ref x), l1, l2] (.ref x :: st) M Q) ∧
  (∀ (d : Nat) (lv : List (Option Value)) (st : List Value) (M : jx_M) (Q : jx_Po), jx_Ev d 130 10 lv (.ref 36 :: st) M Q ↔ jx_Ev d 130 13 lv (.ref 37 :: st) M Q) ∧
  (∀ (d : Nat) (st : List Value) (M : jx_M) (Q : jx_Po) (l0 l2 : Option Value) (x : Int32), jx_Ev d 130 13 [l0, some (.int x), l2] st M Q ↔ jx_Ev d 130 14 [l0, some (.int x), l2] (.int x :: st) M Q) ∧
  (∀ (d : Nat) (lv : List (Option Value)) (st : List Value) (M : jx_M) (Q : jx_Po) (x : Int32) (a : Nat) (ha : jx_cl a = 9), jx_Ev d 130 14 lv (.int x :: .ref a :: st) M Q ↔ (vp_in x (jx_sz a) ∧ jx_Ev d 130 15 lv (.int (M a x.toNatClampNeg) :: st) M Q)) ∧
  (∀ (d : Nat) (lv : List (Option Value)) (st : List Value) (M : jx_M) (Q : jx_Po), jx_Ev d 130 15 lv st M Q ↔ jx_Ev d 130 17 lv (.int (-9) :: st) M Q) ∧
  (∀ (d : Nat) (lv : List (Option Value)) (st : List Value) (M : jx_M) (Q : jx_Po) (x z : Int32), jx_Ev d 130 17 lv (.int z :: .int x :: st) M Q ↔ (if x = z then jx_Ev d 130 20 lv st M Q else jx_Ev d 130 24 lv st M Q)) ∧
  (∀ (d : Nat) (lv : List (Option Value)) (st : List Value) (M : jx_M) (Q : jx_Po), jx_Ev d 130 20 lv st M Q ↔ jx_Ev d 130 21 lv (.int 0 :: st) M Q) ∧
  (∀ (d : Nat) (lv : List (Option Value)) (st : List Value) (M : jx_M) (Q : jx_Po), jx_Ev d 130 21 lv st M Q ↔ jx_Ev d 130 25 lv st M Q) ∧
  (∀ (d : Nat) (lv : List (Option Value)) (st : List Value) (M : jx_M) (Q : jx_Po), jx_Ev d 130 24 lv st M Q ↔ jx_Ev d 130 25 lv (.int 1 :: st) M Q) ∧
  (∀ (d : Nat) (st : List Value) (M : jx_M) (Q : jx_Po) (l0 l1 l2 : Option Value) (x : Int32), jx_Ev d 130 25 [l0, l1, l2] (.int x :: st) M Q ↔ jx_Ev d 130 26 [l0, l1, some (.int x)] st M Q) ∧
  (∀ (d : Nat) (st : List Value) (M : jx_M) (Q : jx_Po) (l1 l2 : Option Value) (x : Nat), jx_Ev d 130 26 [some (.ref x), l1, l2] st M Q ↔ jx_Ev d 130 27 [some (.ref x), l1, l2] (.ref x :: st) M Q) ∧
  (∀ (d : Nat) (lv : List (Option Value)) (st : List Value) (M : jx_M) (Q : jx_Po), jx_Ev d 130 27 lv (.ref 36 :: st) M Q ↔ jx_Ev d 130 30 lv (.ref 37 :: st) M Q) ∧
  (∀ (d : Nat) (st : List Value) (M : jx_M) (Q : jx_Po) (l0 l2 : Option Value) (x : Int32), jx_Ev d 130 30 [l0, some (.int x), l2] st M Q ↔ jx_Ev d 130 31 [l0, some (.int x), l2] (.int x :: st) M Q) ∧
  (∀ (d : Nat) (lv : List (Option Value)) (st : List Value) (M : jx_M) (Q : jx_Po), jx_Ev d 130 31 lv st M Q ↔ jx_Ev d 130 33 lv (.int (-9) :: st) M Q) ∧
  (∀ (d : Nat) (lv : List (Option Value)) (st : List Value) (M : jx_M) (Q : jx_Po) (x z : Int32) (a : Nat) (ha : jx_cl a = 9), jx_Ev d 130 33 lv (.int z :: .int x :: .ref a :: st) M Q ↔ (vp_in x (jx_sz a) ∧ jx_Ev d 130 34 lv st (jx_up M a x.toNatClampNeg z) Q)) ∧
  (∀ (d : Nat) (st : List Value) (M : jx_M) (Q : jx_Po) (l0 l1 : Option Value) (x : Int32), jx_Ev d 130 34 [l0, l1, some (.int x)] st M Q ↔ jx_Ev d 130 35 [l0, l1, some (.int x)] (.int x :: st) M Q) ∧
  (∀ (d : Nat) (lv : List (Option Value)) (M : jx_M) (Q : jx_Po) (x : Int32), jx_Ev d 130 35 lv [.int x] M Q ↔ Q [.int x] M) := by
  refine ⟨?_, ?_, ?_, ?_, ?_, ?_, ?_, ?_, ?_, ?_, ?_, ?_, ?_, ?_, ?_, ?_, ?_, ?_, ?_, ?_, ?_, ?_⟩
  · exact fun d st M Q l0 l2 x => jx_ev_st (jx_fok (by decide +kernel : decode (jx_mb 130) 0 = .ok (.iload_n 1, 1))) rfl rfl rfl
  · exact fun d lv M Q a0 => jx_ev_ci (jx_fok (by decide +kernel : decode (jx_mb 130) 1 = .ok (.invokestatic 86, 3))) rfl (jx_ccS (As := [.int a0]) (rest := []) rfl rfl rfl rfl rfl) (by decide)
  · exact fun d lv st M Q x => jx_k_b1n (jx_fok (by decide +kernel : decode (jx_mb 130) 4 = .ok (.ifCond .ne 5, 3))) rfl jx_hNe
  · exact fun d lv st M Q => jx_ev_st (jx_fok (by decide +kernel : decode (jx_mb 130) 7 = .ok (.iconst (-1), 1))) rfl rfl rfl
  · exact fun d lv M Q x => jx_k_ri (jx_fok (by decide +kernel : decode (jx_mb 130) 8 = .ok (.ireturn, 1))) rfl
  · exact fun d st M Q l1 l2 x => jx_ev_st (jx_fok (by decide +kernel : decode (jx_mb 130) 9 = .ok (.aload_n 0, 1))) rfl rfl rfl
  · exact fun d lv st M Q => jx_k_gf (jx_fok (by decide +kernel : decode (jx_mb 130) 10 = .ok (.getfield 9, 3))) rfl rfl rfl
  · exact fun d st M Q l0 l2 x => jx_ev_st (jx_fok (by decide +kernel : decode (jx_mb 130) 13 = .ok (.iload_n 1, 1))) rfl rfl rfl
  · exact fun d lv st M Q x a ha => jx_k_al (jx_fok (by decide +kernel : decode (jx_mb 130) 14 = .ok (.iaload, 1))) ha
  · exact fun d lv st M Q => jx_ev_st (jx_fok (by decide +kernel : decode (jx_mb 130) 15 = .ok (.bipush (-9), 2))) rfl rfl rfl
  · exact fun d lv st M Q x z => jx_k_b2n (jx_fok (by decide +kernel : decode (jx_mb 130) 17 = .ok (.if_icmp .ne 7, 3))) rfl jx_hNe
  · exact fun d lv st M Q => jx_ev_st (jx_fok (by decide +kernel : decode (jx_mb 130) 20 = .ok (.iconst 0, 1))) rfl rfl rfl
  · exact fun d lv st M Q => jx_k_goto (jx_fok (by decide +kernel : decode (jx_mb 130) 21 = .ok (.goto 4, 3))) rfl
  · exact fun d lv st M Q => jx_ev_st (jx_fok (by decide +kernel : decode (jx_mb 130) 24 = .ok (.iconst 1, 1))) rfl rfl rfl
  · exact fun d st M Q l0 l1 l2 x => jx_ev_st (jx_fok (by decide +kernel : decode (jx_mb 130) 25 = .ok (.istore_n 2, 1))) rfl rfl rfl
  · exact fun d st M Q l1 l2 x => jx_ev_st (jx_fok (by decide +kernel : decode (jx_mb 130) 26 = .ok (.aload_n 0, 1))) rfl rfl rfl
  · exact fun d lv st M Q => jx_k_gf (jx_fok (by decide +kernel : decode (jx_mb 130) 27 = .ok (.getfield 9, 3))) rfl rfl rfl
  · exact fun d st M Q l0 l2 x => jx_ev_st (jx_fok (by decide +kernel : decode (jx_mb 130) 30 = .ok (.iload_n 1, 1))) rfl rfl rfl
  · exact fun d lv st M Q => jx_ev_st (jx_fok (by decide +kernel : decode (jx_mb 130) 31 = .ok (.bipush (-9), 2))) rfl rfl rfl
  · exact fun d lv st M Q x z a ha => jx_k_as (jx_fok (by decide +kernel : decode (jx_mb 130) 33 = .ok (.iastore, 1))) ha
  · exact fun d st M Q l0 l1 x => jx_ev_st (jx_fok (by decide +kernel : decode (jx_mb 130) 34 = .ok (.iload_n 2, 1))) rfl rfl rfl
  · exact fun d lv M Q x => jx_k_ri (jx_fok (by decide +kernel : decode (jx_mb 130) 35 = .ok (.ireturn, 1))) rfl
theorem kX8_lose (d : Nat) (M : jx_M) (q : Int32 → jx_M → Prop) (a0 a1 : Value) : jx_I d 130 [a0, a1] M q ↔ jx_Ev d 130 0 [some a0, some a1, none] [] M (jx_qI q) := Iff.rfl
set_option maxRecDepth 100000 in
theorem eX8_put :
  (∀ (d : Nat) (st : List Value) (M : jx_M) (Q : jx_Po) (l1 l2 l3 : Option Value) (x : Nat), jx_Ev d 131 0 [some (.ref x), l1, l2, l3] st M Q ↔ jx_Ev d 131 1 [some (.ref x), l1, l2, l3] (.ref x :: st) M Q) ∧
  (∀ (d : Nat) (lv : List (Option Value)) (st : List Value) (M : jx_M) (Q : jx_Po), jx_Ev d 131 1 lv st M Q ↔ jx_Ev d 131 2 lv (.int 0 :: st) M Q) ∧
  (∀ (d : Nat) (lv : List (Option Value)) (st : List Value) (M : jx_M) (Q : jx_Po) (x : Int32), jx_Ev d 131 2 lv (.int x :: .ref 36 :: st) M Q ↔ jx_Ev d 131 5 lv st (jx_up M 36 0 x) Q) ∧
  (∀ (d : Nat) (st : List Value) (M : jx_M) (Q : jx_Po) (l0 l2 l3 : Option Value) (x : Int32), jx_Ev d 131 5 [l0, some (.int x), l2, l3] st M Q ↔ jx_Ev d 131 6 [l0, some (.int x), l2, l3] (.int x :: st) M Q) ∧
  (∀ (d : Nat) (lv : List (Option Value)) (M : jx_M) (Q : jx_Po) (a0 : Int32), jx_Ev (d + 1) 131 6 lv [.int a0] M Q ↔ jx_I d 87 [.int a0] M (fun x M => jx_Ev (d + 1) 131 9 lv (.int x :: []) M Q)) ∧
  (∀ (d : Nat) (lv : List (Option Value)) (st : List Value) (M : jx_M) (Q : jx_Po) (x : Int32), jx_Ev d 131 9 lv (.int x :: st) M Q ↔ (if x = 0 then jx_Ev d 131 12 lv st M Q else jx_Ev d 131 14 lv st M Q)) ∧
  (∀ (d : Nat) (lv : List (Option Value)) (st : List Value) (M : jx_M) (Q : jx_Po), jx_Ev d 131 12 lv st M Q ↔ jx_Ev d 131 13 lv (.int (-1) :: st) M Q) ∧
  (∀ (d : Nat) (lv : List (Option Value)) (M : jx_M) (Q : jx_Po) (x : Int32), jx_Ev d 131 13 lv [.int x] M Q ↔ Q [.int x] M) ∧
  (∀ (d : Nat) (st : List Value) (M : jx_M) (Q : jx_Po) (l1 l2 l3 : Option Value) (x : Nat), jx_Ev d 131 14 [some (.ref x), l1, l2, l3] st M Q ↔ jx_Ev d 131 15 [some (.ref x), l1, l2, l3] (.ref x :: st) M Q) ∧
  (∀ (d : Nat) (lv : List (Option Value)) (st : List Value) (M : jx_M) (Q : jx_Po), jx_Ev d 131 15 lv (.ref 36 :: st) M Q ↔ jx_Ev d 131 18 lv (.ref 37 :: st) M Q) ∧
  (∀ (d : Nat) (st : List Value) (M : jx_M) (Q : jx_Po) (l0 l2 l3 : Option Value) (x : Int32), jx_Ev d 131 18 [l0, some (.int x), l2, l3] st M Q ↔ jx_Ev d 131 19 [l0, some (.int x), l2, l3] (.int x :: st) M Q) ∧
  (∀ (d : Nat) (lv : List (Option Value)) (st : List Value) (M : jx_M) (Q : jx_Po) (x : Int32) (a : Nat) (ha : jx_cl a = 9), jx_Ev d 131 19 lv (.int x :: .ref a :: st) M Q ↔ (vp_in x (jx_sz a) ∧ jx_Ev d 131 20 lv (.int (M a x.toNatClampNeg) :: st) M Q)) ∧
  (∀ (d : Nat) (lv : List (Option Value)) (st : List Value) (M : jx_M) (Q : jx_Po), jx_Ev d 131 20 lv st M Q ↔ jx_Ev d 131 22 lv (.int (-9) :: st) M Q) ∧
  (∀ (d : Nat) (lv : List (Option Value)) (st : List Value) (M : jx_M) (Q : jx_Po) (x z : Int32), jx_Ev d 131 22 lv (.int z :: .int x :: st) M Q ↔ (if x = z then jx_Ev d 131 25 lv st M Q else jx_Ev d 131 31 lv st M Q)) ∧
  (∀ (d : Nat) (st : List Value) (M : jx_M) (Q : jx_Po) (l1 l2 l3 : Option Value) (x : Nat), jx_Ev d 131 25 [some (.ref x), l1, l2, l3] st M Q ↔ jx_Ev d 131 26 [some (.ref x), l1, l2, l3] (.ref x :: st) M Q) ∧
  (∀ (d : Nat) (lv : List (Option Value)) (st : List Value) (M : jx_M) (Q : jx_Po), jx_Ev d 131 26 lv st M Q ↔ jx_Ev d 131 27 lv (.int 1 :: st) M Q) ∧
  (∀ (d : Nat) (lv : List (Option Value)) (M : jx_M) (Q : jx_Po) (a0 : Int32), jx_Ev (d + 1) 131 27 lv [.int a0, .ref 36] M Q ↔ jx_I d 84 [.ref 36, .int a0] M (fun x M => jx_Ev (d + 1) 131 30 lv (.int x :: []) M Q)) ∧
  (∀ (d : Nat) (lv : List (Option Value)) (M : jx_M) (Q : jx_Po) (x : Int32), jx_Ev d 131 30 lv [.int x] M Q ↔ Q [.int x] M) ∧
  (∀ (d : Nat) (st : List Value) (M : jx_M) (Q : jx_Po) (l0 l1 l3 : Option Value) (x : Int32), jx_Ev d 131 31 [l0, l1, some (.int x), l3] st M Q ↔ jx_Ev d 131 32 [l0, l1, some (.int x), l3] (.int x :: st) M Q) ∧
  (∀ (d : Nat) (lv : List (Option Value)) (st : List Value) (M : jx_M) (Q : jx_Po), jx_Ev d 131 32 lv st M Q ↔ jx_Ev d 131 33 lv (.int 0 :: st) M Q) ∧
  (∀ (d : Nat) (st : List Value) (M : jx_M) (Q : jx_Po) (l1 l2 l3 : Option Value) (x : Nat), jx_Ev d 131 33 [some (.ref x), l1, l2, l3] st M Q ↔ jx_Ev d 131 34 [some (.ref x), l1, l2, l3] (.ref x :: st) M Q) ∧
  (∀ (d : Nat) (lv : List (Option Value)) (st : List Value) (M : jx_M) (Q : jx_Po), jx_Ev d 131 34 lv (.ref 36 :: st) M Q ↔ jx_Ev d 131 37 lv (.ref 38 :: st) M Q) ∧
  (∀ (d : Nat) (st : List Value) (M : jx_M) (Q : jx_Po) (l0 l2 l3 : Option Value) (x : Int32), jx_Ev d 131 37 [l0, some (.int x), l2, l3] st M Q ↔ jx_Ev d 131 38 [l0, some (.int x), l2, l3] (.int x :: st) M Q) ∧
  (∀ (d : Nat) (lv : List (Option Value)) (st : List Value) (M : jx_M) (Q : jx_Po) (x : Int32) (a : Nat) (ha : jx_cl a = 9), jx_Ev d 131 38 lv (.int x :: .ref a :: st) M Q ↔ (vp_in x (jx_sz a) ∧ jx_Ev d 131 39 lv (.int (M a x.toNatClampNeg) :: st) M Q)) ∧
  (∀ (d : Nat) (lv : List (Option Value)) (st : List Value) (M : jx_M) (Q : jx_Po), jx_Ev d 131 39 lv st M Q ↔ jx_Ev d 131 40 lv (.int 1 :: st) M Q) ∧
  (∀ (d : Nat) (lv : List (Option Value)) (st : List Value) (M : jx_M) (Q : jx_Po) (x z : Int32), jx_Ev d 131 40 lv (.int z :: .int x :: st) M Q ↔ jx_Ev d 131 41 lv (.int (x - z) :: st) M Q) ∧
  (∀ (d : Nat) (lv : List (Option Value)) (M : jx_M) (Q : jx_Po) (a0 : Int32) (a1 : Int32) (a2 : Int32), jx_Ev (d + 1) 131 41 lv [.int a0, .int a1, .int a2] M Q ↔ jx_I d 86 [.int a2, .int a1, .int a0] M (fun x M => jx_Ev (d + 1) 131 44 lv (.int x :: []) M Q)) ∧
  (∀ (d : Nat) (lv : List (Option Value)) (st : List Value) (M : jx_M) (Q : jx_Po) (x : Int32), jx_Ev d 131 44 lv (.int x :: st) M Q ↔ (if x = 0 then jx_Ev d 131 47 lv st M Q else jx_Ev d 131 53 lv st M Q)) ∧
  (∀ (d : Nat) (st : List Value) (M : jx_M) (Q : jx_Po) (l1 l2 l3 : Option Value) (x : Nat), jx_Ev d 131 47 [some (.ref x), l1, l2, l3] st M Q ↔ jx_Ev d 131 48 [some (.ref x), l1, l2, l3] (.ref x :: st) M Q) ∧
  (∀ (d : Nat) (lv : List (Option Value)) (st : List Value) (M : jx_M) (Q : jx_Po), jx_Ev d 131 48 lv st M Q ↔ jx_Ev d 131 49 lv (.int 3 :: st) M Q) ∧
  (∀ (d : Nat) (lv : List (Option Value)) (M : jx_M) (Q : jx_Po) (a0 : Int32), jx_Ev (d + 1) 131 49 lv [.int a0, .ref 36] M Q ↔ jx_I d 84 [.ref 36, .int a0] M (fun x M => jx_Ev (d + 1) 131 52 lv (.int x :: []) M Q)) ∧
  (∀ (d : Nat) (lv : List (Option Value)) (M : jx_M) (Q : jx_Po) (x : Int32), jx_Ev d 131 52 lv [.int x] M Q ↔ Q [.int x] M) ∧
  (∀ (d : Nat) (st : List Value) (M : jx_M) (Q : jx_Po) (l1 l2 l3 : Option Value) (x : Nat), jx_Ev d 131 53 [some (.ref x), l1, l2, l3] st M Q ↔ jx_Ev d 131 54 [some (.ref x), l1, l2, l3] (.ref x :: st) M Q) ∧
  (∀ (d : Nat) (lv : List (Option Value)) (st : List Value) (M : jx_M) (Q : jx_Po), jx_Ev d 131 54 lv (.ref 36 :: st) M Q ↔ jx_Ev d 131 57 lv (.ref 39 :: st) M Q) ∧
  (∀ (d : Nat) (lv : List (Option Value)) (st : List Value) (M : jx_M) (Q : jx_Po), jx_Ev d 131 57 lv st M Q ↔ jx_Ev d 131 59 lv (.int 60 :: st) M Q) ∧
  (∀ (d : Nat) (st : List Value) (M : jx_M) (Q : jx_Po) (l0 l2 l3 : Option Value) (x : Int32), jx_Ev d 131 59 [l0, some (.int x), l2, l3] st M Q ↔ jx_Ev d 131 60 [l0, some (.int x), l2, l3] (.int x :: st) M Q) ∧
  (∀ (d : Nat) (lv : List (Option Value)) (st : List Value) (M : jx_M) (Q : jx_Po) (x z : Int32), jx_Ev d 131 60 lv (.int z :: .int x :: st) M Q ↔ jx_Ev d 131 61 lv (.int (x * z) :: st) M Q) ∧
  (∀ (d : Nat) (st : List Value) (M : jx_M) (Q : jx_Po) (l0 l1 l3 : Option Value) (x : Int32), jx_Ev d 131 61 [l0, l1, some (.int x), l3] st M Q ↔ jx_Ev d 131 62 [l0, l1, some (.int x), l3] (.int x :: st) M Q) ∧
  (∀ (d : Nat) (lv : List (Option Value)) (st : List Value) (M : jx_M) (Q : jx_Po) (x z : Int32), jx_Ev d 131 62 lv (.int z :: .int x :: st) M Q ↔ jx_Ev d 131 63 lv (.int (x + z) :: st) M Q) ∧
  (∀ (d : Nat) (st : List Value) (M : jx_M) (Q : jx_Po) (l1 l2 l3 : Option Value) (x : Nat), jx_Ev d 131 63 [some (.ref x), l1, l2, l3] st M Q ↔ jx_Ev d 131 64 [some (.ref x), l1, l2, l3] (.ref x :: st) M Q) ∧
  (∀ (d : Nat) (lv : List (Option Value)) (st : List Value) (M : jx_M) (Q : jx_Po), jx_Ev d 131 64 lv (.ref 36 :: st) M Q ↔ jx_Ev d 131 67 lv (.ref 37 :: st) M Q) ∧
  (∀ (d : Nat) (st : List Value) (M : jx_M) (Q : jx_Po) (l0 l2 l3 : Option Value) (x : Int32), jx_Ev d 131 67 [l0, some (.int x), l2, l3] st M Q ↔ jx_Ev d 131 68 [l0, some (.int x), l2, l3] (.int x :: st) M Q) ∧
  (∀ (d : Nat) (lv : List (Option Value)) (st : List Value) (M : jx_M) (Q : jx_Po) (x : Int32) (a : Nat) (ha : jx_cl a = 9), jx_Ev d 131 68 lv (.int x :: .ref a :: st) M Q ↔ (vp_in x (jx_sz a) ∧ jx_Ev d 131 69 lv (.int (M a x.toNatClampNeg) :: st) M Q)) ∧
  (∀ (d : Nat) (lv : List (Option Value)) (st : List Value) (M : jx_M) (Q : jx_Po) (x : Int32), jx_Ev d 131 69 lv (.int x :: st) M Q ↔ (if x = 0 then jx_Ev d 131 72 lv st M Q else jx_Ev d 131 77 lv st M Q)) ∧
  (∀ (d : Nat) (st : List Value) (M : jx_M) (Q : jx_Po) (l0 l1 l2 : Option Value) (x : Int32), jx_Ev d 131 72 [l0, l1, l2, some (.int x)] st M Q ↔ jx_Ev d 131 73 [l0, l1, l2, some (.int x)] (.int x :: st) M Q) ∧
  (∀ (d : Nat) (lv : List (Option Value)) (st : List Value) (M : jx_M) (Q : jx_Po) (x : Int32), jx_Ev d 131 73 lv (.int x :: st) M Q ↔ jx_Ev d 131 74 lv (.int x.toInt8.toInt32 :: st) M Q) ∧
  (∀ (d : Nat) (lv : List (Option Value)) (st : List Value) (M : jx_M) (Q : jx_Po), jx_Ev d 131 74 lv st M Q ↔ jx_Ev d 131 93 lv st M Q) ∧
  (∀ (d : Nat) (st : List Value) (M : jx_M) (Q : jx_Po) (l1 l2 l3 : Option Value) (x : Nat), jx_Ev d 131 77 [some (.ref x), l1, l2, l3] st M Q ↔ jx_Ev d 131 78 [some (.ref x), l1, l2, l3] (.ref x :: st) M Q) ∧
  (∀ (d : Nat) (lv : List (Option Value)) (st : List Value) (M : jx_M) (Q : jx_Po), jx_Ev d 131 78 lv (.ref 36 :: st) M Q ↔ jx_Ev d 131 81 lv (.ref 37 :: st) M Q) ∧
  (∀ (d : Nat) (st : List Value) (M : jx_M) (Q : jx_Po) (l0 l2 l3 : Option Value) (x : Int32), jx_Ev d 131 81 [l0, some (.int x), l2, l3] st M Q ↔ jx_Ev d 131 82 [l0, some (.int x), l2, l3] (.int x :: st) M Q) ∧
  (∀ (d : Nat) (lv : List (Option Value)) (st : List Value) (M : jx_M) (Q : jx_Po) (x : Int32) (a : Nat) (ha : jx_cl a = 9), jx_Ev d 131 82 lv (.int x :: .ref a :: st) M Q ↔ (vp_in x (jx_sz a) ∧ jx_Ev d 131 83 lv (.int (M a x.toNatClampNeg) :: st) M Q)) ∧
  (∀ (d : Nat) (lv : List (Option Value)) (st : List Value) (M : jx_M) (Q : jx_Po), jx_Ev d 131 83 lv st M Q ↔ jx_Ev d 131 84 lv (.int 1 :: st) M Q) ∧
  (∀ (d : Nat) (lv : List (Option Value)) (st : List Value) (M : jx_M) (Q : jx_Po) (x z : Int32), jx_Ev d 131 84 lv (.int z :: .int x :: st) M Q ↔ (if x = z then jx_Ev d 131 87 lv st M Q else jx_Ev d 131 92 lv st M Q)) ∧
  (∀ (d : Nat) (st : List Value) (M : jx_M) (Q : jx_Po) (l0 l1 l2 : Option Value) (x : Int32), jx_Ev d 131 87 [l0, l1, l2, some (.int x)] st M Q ↔ jx_Ev d 131 88 [l0, l1, l2, some (.int x)] (.int x :: st) M Q) ∧
  (∀ (d : Nat) (lv : List (Option Value)) (st : List Value) (M : jx_M) (Q : jx_Po) (x : Int32), jx_Ev d 131 88 lv (.int x :: st) M Q ↔ jx_Ev d 131 89 lv (.int x.toInt16.toInt32 :: st) M Q) ∧
  (∀ (d : Nat) (lv : List (Option Value)) (st : List Value) (M : jx_M) (Q : jx_Po), jx_Ev d 131 89 lv st M Q ↔ jx_Ev d 131 93 lv st M Q) ∧
  (∀ (d : Nat) (st : List Value) (M : jx_M) (Q : jx_Po) (l0 l1 l2 : Option Value) (x : Int32), jx_Ev d 131 92 [l0, l1, l2, some (.int x)] st M Q ↔ jx_Ev d 131 93 [l0, l1, l2, some (.int x)] (.int x :: st) M Q) ∧
  (∀ (d : Nat) (lv : List (Option Value)) (st : List Value) (M : jx_M) (Q : jx_Po) (x z : Int32) (a : Nat) (ha : jx_cl a = 9), jx_Ev d 131 93 lv (.int z :: .int x :: .ref a :: st) M Q ↔ (vp_in x (jx_sz a) ∧ jx_Ev d 131 94 lv st (jx_up M a x.toNatClampNeg z) Q)) ∧
  (∀ (d : Nat) (lv : List (Option Value)) (st : List Value) (M : jx_M) (Q : jx_Po), jx_Ev d 131 94 lv st M Q ↔ jx_Ev d 131 95 lv (.int 1 :: st) M Q) ∧
  (∀ (d : Nat) (lv : List (Option Value)) (M : jx_M) (Q : jx_Po) (x : Int32), jx_Ev d 131 95 lv [.int x] M Q ↔ Q [.int x] M) := by
  refine ⟨?_, ?_, ?_, ?_, ?_, ?_, ?_, ?_, ?_, ?_, ?_, ?_, ?_, ?_, ?_, ?_, ?_, ?_, ?_, ?_, ?_, ?_, ?_, ?_, ?_, ?_, ?_, ?_, ?_, ?_, ?_, ?_, ?_, ?_, ?_, ?_, ?_, ?_, ?_, ?_, ?_, ?_, ?_, ?_, ?_, ?_, ?_, ?_, ?_, ?_, ?_, ?_, ?_, ?_, ?_, ?_, ?_, ?_, ?_, ?_⟩
  · exact fun d st M Q l1 l2 l3 x => jx_ev_st (jx_fok (by decide +kernel : decode (jx_mb 131) 0 = .ok (.aload_n 0, 1))) rfl rfl rfl
  · exact fun d lv st M Q => jx_ev_st (jx_fok (by decide +kernel : decode (jx_mb 131) 1 = .ok (.iconst 0, 1))) rfl rfl rfl
  · exact fun d lv st M Q x => jx_k_pf0 (jx_fok (by decide +kernel : decode (jx_mb 131) 2 = .ok (.putfield 67, 3))) rfl rfl rfl
  · exact fun d st M Q l0 l2 l3 x => jx_ev_st (jx_fok (by decide +kernel : decode (jx_mb 131) 5 = .ok (.iload_n 1, 1))) rfl rfl rfl
  · exact fun d lv M Q a0 => jx_ev_ci (jx_fok (by decide +kernel : decode (jx_mb 131) 6 = .ok (.invokestatic 86, 3))) rfl (jx_ccS (As := [.int a0]) (rest := []) rfl rfl rfl rfl rfl) (by decide)
  · exact fun d lv st M Q x => jx_k_b1n (jx_fok (by decide +kernel : decode (jx_mb 131) 9 = .ok (.ifCond .ne 5, 3))) rfl jx_hNe
  · exact fun d lv st M Q => jx_ev_st (jx_fok (by decide +kernel : decode (jx_mb 131) 12 = .ok (.iconst (-1), 1))) rfl rfl rfl
  · exact fun d lv M Q x => jx_k_ri (jx_fok (by decide +kernel : decode (jx_mb 131) 13 = .ok (.ireturn, 1))) rfl
  · exact fun d st M Q l1 l2 l3 x => jx_ev_st (jx_fok (by decide +kernel : decode (jx_mb 131) 14 = .ok (.aload_n 0, 1))) rfl rfl rfl
  · exact fun d lv st M Q => jx_k_gf (jx_fok (by decide +kernel : decode (jx_mb 131) 15 = .ok (.getfield 9, 3))) rfl rfl rfl
  · exact fun d st M Q l0 l2 l3 x => jx_ev_st (jx_fok (by decide +kernel : decode (jx_mb 131) 18 = .ok (.iload_n 1, 1))) rfl rfl rfl
  · exact fun d lv st M Q x a ha => jx_k_al (jx_fok (by decide +kernel : decode (jx_mb 131) 19 = .ok (.iaload, 1))) ha
  · exact fun d lv st M Q => jx_ev_st (jx_fok (by decide +kernel : decode (jx_mb 131) 20 = .ok (.bipush (-9), 2))) rfl rfl rfl
  · exact fun d lv st M Q x z => jx_k_b2n (jx_fok (by decide +kernel : decode (jx_mb 131) 22 = .ok (.if_icmp .ne 9, 3))) rfl jx_hNe
  · exact fun d st M Q l1 l2 l3 x => jx_ev_st (jx_fok (by decide +kernel : decode (jx_mb 131) 25 = .ok (.aload_n 0, 1))) rfl rfl rfl
  · exact fun d lv st M Q => jx_ev_st (jx_fok (by decide +kernel : decode (jx_mb 131) 26 = .ok (.iconst 1, 1))) rfl rfl rfl
  · exact fun d lv M Q a0 => jx_ev_ci (jx_fok (by decide +kernel : decode (jx_mb 131) 27 = .ok (.invokevirtual 97, 3))) rfl (jx_ccV (As := [.int a0]) (rest := []) rfl rfl rfl rfl rfl rfl) (by decide)
  · exact fun d lv M Q x => jx_k_ri (jx_fok (by decide +kernel : decode (jx_mb 131) 30 = .ok (.ireturn, 1))) rfl
  · exact fun d st M Q l0 l1 l3 x => jx_ev_st (jx_fok (by decide +kernel : decode (jx_mb 131) 31 = .ok (.iload_n 2, 1))) rfl rfl rfl
  · exact fun d lv st M Q => jx_ev_st (jx_fok (by decide +kernel : decode (jx_mb 131) 32 = .ok (.iconst 0, 1))) rfl rfl rfl
  · exact fun d st M Q l1 l2 l3 x => jx_ev_st (jx_fok (by decide +kernel : decode (jx_mb 131) 33 = .ok (.aload_n 0, 1))) rfl rfl rfl
  · exact fun d lv st M Q => jx_k_gf (jx_fok (by decide +kernel : decode (jx_mb 131) 34 = .ok (.getfield 13, 3))) rfl rfl rfl
  · exact fun d st M Q l0 l2 l3 x => jx_ev_st (jx_fok (by decide +kernel : decode (jx_mb 131) 37 = .ok (.iload_n 1, 1))) rfl rfl rfl
  · exact fun d lv st M Q x a ha => jx_k_al (jx_fok (by decide +kernel : decode (jx_mb 131) 38 = .ok (.iaload, 1))) ha
  · exact fun d lv st M Q => jx_ev_st (jx_fok (by decide +kernel : decode (jx_mb 131) 39 = .ok (.iconst 1, 1))) rfl rfl rfl
  · exact fun d lv st M Q x z => jx_ev_st (jx_fok (by decide +kernel : decode (jx_mb 131) 40 = .ok (.isub, 1))) rfl rfl rfl
  · exact fun d lv M Q a0 a1 a2 => jx_ev_ci (jx_fok (by decide +kernel : decode (jx_mb 131) 41 = .ok (.invokestatic 73, 3))) rfl (jx_ccS (As := [.int a2, .int a1, .int a0]) (rest := []) rfl rfl rfl rfl rfl) (by decide)
  · exact fun d lv st M Q x => jx_k_b1n (jx_fok (by decide +kernel : decode (jx_mb 131) 44 = .ok (.ifCond .ne 9, 3))) rfl jx_hNe
  · exact fun d st M Q l1 l2 l3 x => jx_ev_st (jx_fok (by decide +kernel : decode (jx_mb 131) 47 = .ok (.aload_n 0, 1))) rfl rfl rfl
  · exact fun d lv st M Q => jx_ev_st (jx_fok (by decide +kernel : decode (jx_mb 131) 48 = .ok (.iconst 3, 1))) rfl rfl rfl
  · exact fun d lv M Q a0 => jx_ev_ci (jx_fok (by decide +kernel : decode (jx_mb 131) 49 = .ok (.invokevirtual 97, 3))) rfl (jx_ccV (As := [.int a0]) (rest := []) rfl rfl rfl rfl rfl rfl) (by decide)
  · exact fun d lv M Q x => jx_k_ri (jx_fok (by decide +kernel : decode (jx_mb 131) 52 = .ok (.ireturn, 1))) rfl
  · exact fun d st M Q l1 l2 l3 x => jx_ev_st (jx_fok (by decide +kernel : decode (jx_mb 131) 53 = .ok (.aload_n 0, 1))) rfl rfl rfl
  · exact fun d lv st M Q => jx_k_gf (jx_fok (by decide +kernel : decode (jx_mb 131) 54 = .ok (.getfield 16, 3))) rfl rfl rfl
  · exact fun d lv st M Q => jx_ev_st (jx_fok (by decide +kernel : decode (jx_mb 131) 57 = .ok (.bipush 60, 2))) rfl rfl rfl
  · exact fun d st M Q l0 l2 l3 x => jx_ev_st (jx_fok (by decide +kernel : decode (jx_mb 131) 59 = .ok (.iload_n 1, 1))) rfl rfl rfl
  · exact fun d lv st M Q x z => jx_ev_st (jx_fok (by decide +kernel : decode (jx_mb 131) 60 = .ok (.imul, 1))) rfl rfl rfl
  · exact fun d st M Q l0 l1 l3 x => jx_ev_st (jx_fok (by decide +kernel : decode (jx_mb 131) 61 = .ok (.iload_n 2, 1))) rfl rfl rfl
  · exact fun d lv st M Q x z => jx_ev_st (jx_fok (by decide +kernel : decode (jx_mb 131) 62 = .ok (.iadd, 1))) rfl rfl rfl
  · exact fun d st M Q l1 l2 l3 x => jx_ev_st (jx_fok (by decide +kernel : decode (jx_mb 131) 63 = .ok (.aload_n 0, 1))) rfl rfl rfl
  · exact fun d lv st M Q => jx_k_gf (jx_fok (by decide +kernel : decode (jx_mb 131) 64 = .ok (.getfield 9, 3))) rfl rfl rfl
  · exact fun d st M Q l0 l2 l3 x => jx_ev_st (jx_fok (by decide +kernel : decode (jx_mb 131) 67 = .ok (.iload_n 1, 1))) rfl rfl rfl
  · exact fun d lv st M Q x a ha => jx_k_al (jx_fok (by decide +kernel : decode (jx_mb 131) 68 = .ok (.iaload, 1))) ha
  · exact fun d lv st M Q x => jx_k_b1n (jx_fok (by decide +kernel : decode (jx_mb 131) 69 = .ok (.ifCond .ne 8, 3))) rfl jx_hNe
  · exact fun d st M Q l0 l1 l2 x => jx_ev_st (jx_fok (by decide +kernel : decode (jx_mb 131) 72 = .ok (.iload_n 3, 1))) rfl rfl rfl
  · exact fun d lv st M Q x => jx_ev_st (jx_fok (by decide +kernel : decode (jx_mb 131) 73 = .ok (.i2b, 1))) rfl rfl rfl
  · exact fun d lv st M Q => jx_k_goto (jx_fok (by decide +kernel : decode (jx_mb 131) 74 = .ok (.goto 19, 3))) rfl
  · exact fun d st M Q l1 l2 l3 x => jx_ev_st (jx_fok (by decide +kernel : decode (jx_mb 131) 77 = .ok (.aload_n 0, 1))) rfl rfl rfl
  · exact fun d lv st M Q => jx_k_gf (jx_fok (by decide +kernel : decode (jx_mb 131) 78 = .ok (.getfield 9, 3))) rfl rfl rfl
  · exact fun d st M Q l0 l2 l3 x => jx_ev_st (jx_fok (by decide +kernel : decode (jx_mb 131) 81 = .ok (.iload_n 1, 1))) rfl rfl rfl
  · exact fun d lv st M Q x a ha => jx_k_al (jx_fok (by decide +kernel : decode (jx_mb 131) 82 = .ok (.iaload, 1))) ha
  · exact fun d lv st M Q => jx_ev_st (jx_fok (by decide +kernel : decode (jx_mb 131) 83 = .ok (.iconst 1, 1))) rfl rfl rfl
  · exact fun d lv st M Q x z => jx_k_b2n (jx_fok (by decide +kernel : decode (jx_mb 131) 84 = .ok (.if_icmp .ne 8, 3))) rfl jx_hNe
  · exact fun d st M Q l0 l1 l2 x => jx_ev_st (jx_fok (by decide +kernel : decode (jx_mb 131) 87 = .ok (.iload_n 3, 1))) rfl rfl rfl
  · exact fun d lv st M Q x => jx_ev_st (jx_fok (by decide +kernel : decode (jx_mb 131) 88 = .ok (.i2s, 1))) rfl rfl rfl
  · exact fun d lv st M Q => jx_k_goto (jx_fok (by decide +kernel : decode (jx_mb 131) 89 = .ok (.goto 4, 3))) rfl
  · exact fun d st M Q l0 l1 l2 x => jx_ev_st (jx_fok (by decide +kernel : decode (jx_mb 131) 92 = .ok (.iload_n 3, 1))) rfl rfl rfl
  · exact fun d lv st M Q x z a ha => jx_k_as (jx_fok (by decide +kernel : decode (jx_mb 131) 93 = .ok (.iastore, 1))) ha
  · exact fun d lv st M Q => jx_ev_st (jx_fok (by decide +kernel : decode (jx_mb 131) 94 = .ok (.iconst 1, 1))) rfl rfl rfl
  · exact fun d lv M Q x => jx_k_ri (jx_fok (by decide +kernel : decode (jx_mb 131) 95 = .ok (.ireturn, 1))) rfl
theorem kX8_put (d : Nat) (M : jx_M) (q : Int32 → jx_M → Prop) (a0 a1 a2 a3 : Value) : jx_I d 131 [a0, a1, a2, a3] M q ↔ jx_Ev d 131 0 [some a0, some a1, some a2, some a3] [] M (jx_qI q) := Iff.rfl
set_option maxRecDepth 100000 in
theorem eX8_cell :
  (∀ (d : Nat) (st : List Value) (M : jx_M) (Q : jx_Po) (l1 l2 l3 : Option Value) (x : Nat), jx_Ev d 132 0 [some (.ref x), l1, l2, l3] st M Q ↔ jx_Ev d 132 1 [some (.ref x), l1, l2, l3] (.ref x :: st) M Q) ∧
  (∀ (d : Nat) (lv : List (Option Value)) (st : List Value) (M : jx_M) (Q : jx_Po), jx_Ev d 132 1 lv st M Q ↔ jx_Ev d 132 2 lv (.int 0 :: st) M Q) ∧
  (∀ (d : Nat) (lv : List (Option Value)) (st : List Value) (M : jx_M) (Q : jx_Po) (x : Int32), jx_Ev d 132 2 lv (.int x :: .ref 36 :: st) M Q ↔ jx_Ev d 132 5 lv st (jx_up M 36 0 x) Q) ∧
  (∀ (d : Nat) (st : List Value) (M : jx_M) (Q : jx_Po) (l0 l2 l3 : Option Value) (x : Int32), jx_Ev d 132 5 [l0, some (.int x), l2, l3] st M Q ↔ jx_Ev d 132 6 [l0, some (.int x), l2, l3] (.int x :: st) M Q) ∧
  (∀ (d : Nat) (lv : List (Option Value)) (M : jx_M) (Q : jx_Po) (a0 : Int32), jx_Ev (d + 1) 132 6 lv [.int a0] M Q ↔ jx_I d 87 [.int a0] M (fun x M => jx_Ev (d + 1) 132 9 lv (.int x :: []) M Q)) ∧
  (∀ (d : Nat) (lv : List (Option Value)) (st : List Value) (M : jx_M) (Q : jx_Po) (x : Int32), jx_Ev d 132 9 lv (.int x :: st) M Q ↔ (if x = 0 then jx_Ev d 132 19 lv st M Q else jx_Ev d 132 12 lv st M Q)) ∧
  (∀ (d : Nat) (st : List Value) (M : jx_M) (Q : jx_Po) (l0 l1 l2 : Option Value) (x : Int32), jx_Ev d 132 12 [l0, l1, l2, some (.int x)] st M Q ↔ jx_Ev d 132 13 [l0, l1, l2, some (.int x)] (.int x :: st) M Q) ∧
  (∀ (d : Nat) (lv : List (Option Value)) (M : jx_M) (Q : jx_Po) (a0 : Int32), jx_Ev (d + 1) 132 13 lv [.int a0] M Q ↔ jx_I d 88 [.int a0] M (fun x M => jx_Ev (d + 1) 132 16 lv (.int x :: []) M Q)) ∧
  (∀ (d : Nat) (lv : List (Option Value)) (st : List Value) (M : jx_M) (Q : jx_Po) (x : Int32), jx_Ev d 132 16 lv (.int x :: st) M Q ↔ (if x = 0 then jx_Ev d 132 19 lv st M Q else jx_Ev d 132 23 lv st M Q)) ∧
  (∀ (d : Nat) (lv : List (Option Value)) (st : List Value) (M : jx_M) (Q : jx_Po), jx_Ev d 132 19 lv st M Q ↔ jx_Ev d 132 22 lv (.long (-9223372036854775808) :: st) M Q) ∧
  (∀ (d : Nat) (lv : List (Option Value)) (M : jx_M) (Q : jx_Po) (x : Int64), jx_Ev d 132 22 lv [.long x] M Q ↔ Q [.long x] M) ∧
  (∀ (d : Nat) (st : List Value) (M : jx_M) (Q : jx_Po) (l1 l2 l3 : Option Value) (x : Nat), jx_Ev d 132 23 [some (.ref x), l1, l2, l3] st M Q ↔ jx_Ev d 132 24 [some (.ref x), l1, l2, l3] (.ref x :: st) M Q) ∧
  (∀ (d : Nat) (lv : List (Option Value)) (st : List Value) (M : jx_M) (Q : jx_Po), jx_Ev d 132 24 lv (.ref 36 :: st) M Q ↔ jx_Ev d 132 27 lv (.ref 37 :: st) M Q) ∧
  (∀ (d : Nat) (st : List Value) (M : jx_M) (Q : jx_Po) (l0 l2 l3 : Option Value) (x : Int32), jx_Ev d 132 27 [l0, some (.int x), l2, l3] st M Q ↔ jx_Ev d 132 28 [l0, some (.int x), l2, l3] (.int x :: st) M Q) ∧
  (∀ (d : Nat) (lv : List (Option Value)) (st : List Value) (M : jx_M) (Q : jx_Po) (x : Int32) (a : Nat) (ha : jx_cl a = 9), jx_Ev d 132 28 lv (.int x :: .ref a :: st) M Q ↔ (vp_in x (jx_sz a) ∧ jx_Ev d 132 29 lv (.int (M a x.toNatClampNeg) :: st) M Q)) ∧
  (∀ (d : Nat) (lv : List (Option Value)) (st : List Value) (M : jx_M) (Q : jx_Po), jx_Ev d 132 29 lv st M Q ↔ jx_Ev d 132 31 lv (.int (-9) :: st) M Q) ∧
  (∀ (d : Nat) (lv : List (Option Value)) (st : List Value) (M : jx_M) (Q : jx_Po) (x z : Int32), jx_Ev d 132 31 lv (.int z :: .int x :: st) M Q ↔ (if x = z then jx_Ev d 132 50 lv st M Q else jx_Ev d 132 34 lv st M Q)) ∧
  (∀ (d : Nat) (st : List Value) (M : jx_M) (Q : jx_Po) (l1 l2 l3 : Option Value) (x : Nat), jx_Ev d 132 34 [some (.ref x), l1, l2, l3] st M Q ↔ jx_Ev d 132 35 [some (.ref x), l1, l2, l3] (.ref x :: st) M Q) ∧
  (∀ (d : Nat) (lv : List (Option Value)) (st : List Value) (M : jx_M) (Q : jx_Po), jx_Ev d 132 35 lv (.ref 36 :: st) M Q ↔ jx_Ev d 132 38 lv (.ref 37 :: st) M Q) ∧
  (∀ (d : Nat) (st : List Value) (M : jx_M) (Q : jx_Po) (l0 l2 l3 : Option Value) (x : Int32), jx_Ev d 132 38 [l0, some (.int x), l2, l3] st M Q ↔ jx_Ev d 132 39 [l0, some (.int x), l2, l3] (.int x :: st) M Q) ∧
  (∀ (d : Nat) (lv : List (Option Value)) (st : List Value) (M : jx_M) (Q : jx_Po) (x : Int32) (a : Nat) (ha : jx_cl a = 9), jx_Ev d 132 39 lv (.int x :: .ref a :: st) M Q ↔ (vp_in x (jx_sz a) ∧ jx_Ev d 132 40 lv (.int (M a x.toNatClampNeg) :: st) M Q)) ∧
  (∀ (d : Nat) (st : List Value) (M : jx_M) (Q : jx_Po) (l0 l1 l2 : Option Value) (x : Int32), jx_Ev d 132 40 [l0, l1, l2, some (.int x)] st M Q ↔ jx_Ev d 132 41 [l0, l1, l2, some (.int x)] (.int x :: st) M Q) ∧
  (∀ (d : Nat) (lv : List (Option Value)) (st : List Value) (M : jx_M) (Q : jx_Po) (x z : Int32), jx_Ev d 132 41 lv (.int z :: .int x :: st) M Q ↔ (if x = z then jx_Ev d 132 50 lv st M Q else jx_Ev d 132 44 lv st M Q)) ∧
  (∀ (d : Nat) (st : List Value) (M : jx_M) (Q : jx_Po) (l1 l2 l3 : Option Value) (x : Nat), jx_Ev d 132 44 [some (.ref x), l1, l2, l3] st M Q ↔ jx_Ev d 132 45 [some (.ref x), l1, l2, l3] (.ref x :: st) M Q) ∧
  (∀ (d : Nat) (lv : List (Option Value)) (st : List Value) (M : jx_M) (Q : jx_Po), jx_Ev d 132 45 lv st M Q ↔ jx_Ev d 132 46 lv (.int 2 :: st) M Q) ∧
  (∀ (d : Nat) (lv : List (Option Value)) (M : jx_M) (Q : jx_Po) (a0 : Int32), jx_Ev (d + 1) 132 46 lv [.int a0, .ref 36] M Q ↔ jx_L d 85 [.ref 36, .int a0] M (fun x M => jx_Ev (d + 1) 132 49 lv (.long x :: []) M Q)) ∧
  (∀ (d : Nat) (lv : List (Option Value)) (M : jx_M) (Q : jx_Po) (x : Int64), jx_Ev d 132 49 lv [.long x] M Q ↔ Q [.long x] M) ∧
  (∀ (d : Nat) (st : List Value) (M : jx_M) (Q : jx_Po) (l1 l2 l3 : Option Value) (x : Nat), jx_Ev d 132 50 [some (.ref x), l1, l2, l3] st M Q ↔ jx_Ev d 132 51 [some (.ref x), l1, l2, l3] (.ref x :: st) M Q) ∧
  (∀ (d : Nat) (lv : List (Option Value)) (st : List Value) (M : jx_M) (Q : jx_Po), jx_Ev d 132 51 lv (.ref 36 :: st) M Q ↔ jx_Ev d 132 54 lv (.ref 37 :: st) M Q) ∧
  (∀ (d : Nat) (st : List Value) (M : jx_M) (Q : jx_Po) (l0 l2 l3 : Option Value) (x : Int32), jx_Ev d 132 54 [l0, some (.int x), l2, l3] st M Q ↔ jx_Ev d 132 55 [l0, some (.int x), l2, l3] (.int x :: st) M Q) ∧
  (∀ (d : Nat) (lv : List (Option Value)) (st : List Value) (M : jx_M) (Q : jx_Po) (x : Int32) (a : Nat) (ha : jx_cl a = 9), jx_Ev d 132 55 lv (.int x :: .ref a :: st) M Q ↔ (vp_in x (jx_sz a) ∧ jx_Ev d 132 56 lv (.int (M a x.toNatClampNeg) :: st) M Q)) ∧
  (∀ (d : Nat) (lv : List (Option Value)) (st : List Value) (M : jx_M) (Q : jx_Po), jx_Ev d 132 56 lv st M Q ↔ jx_Ev d 132 58 lv (.int (-9) :: st) M Q) ∧
  (∀ (d : Nat) (lv : List (Option Value)) (st : List Value) (M : jx_M) (Q : jx_Po) (x z : Int32), jx_Ev d 132 58 lv (.int z :: .int x :: st) M Q ↔ (if x = z then jx_Ev d 132 61 lv st M Q else jx_Ev d 132 67 lv st M Q)) ∧
  (∀ (d : Nat) (st : List Value) (M : jx_M) (Q : jx_Po) (l1 l2 l3 : Option Value) (x : Nat), jx_Ev d 132 61 [some (.ref x), l1, l2, l3] st M Q ↔ jx_Ev d 132 62 [some (.ref x), l1, l2, l3] (.ref x :: st) M Q) ∧
  (∀ (d : Nat) (lv : List (Option Value)) (st : List Value) (M : jx_M) (Q : jx_Po), jx_Ev d 132 62 lv st M Q ↔ jx_Ev d 132 63 lv (.int 1 :: st) M Q) ∧
  (∀ (d : Nat) (lv : List (Option Value)) (M : jx_M) (Q : jx_Po) (a0 : Int32), jx_Ev (d + 1) 132 63 lv [.int a0, .ref 36] M Q ↔ jx_L d 85 [.ref 36, .int a0] M (fun x M => jx_Ev (d + 1) 132 66 lv (.long x :: []) M Q)) ∧
  (∀ (d : Nat) (lv : List (Option Value)) (M : jx_M) (Q : jx_Po) (x : Int64), jx_Ev d 132 66 lv [.long x] M Q ↔ Q [.long x] M) ∧
  (∀ (d : Nat) (st : List Value) (M : jx_M) (Q : jx_Po) (l0 l1 l3 : Option Value) (x : Int32), jx_Ev d 132 67 [l0, l1, some (.int x), l3] st M Q ↔ jx_Ev d 132 68 [l0, l1, some (.int x), l3] (.int x :: st) M Q) ∧
  (∀ (d : Nat) (lv : List (Option Value)) (st : List Value) (M : jx_M) (Q : jx_Po), jx_Ev d 132 68 lv st M Q ↔ jx_Ev d 132 69 lv (.int 0 :: st) M Q) ∧
  (∀ (d : Nat) (st : List Value) (M : jx_M) (Q : jx_Po) (l1 l2 l3 : Option Value) (x : Nat), jx_Ev d 132 69 [some (.ref x), l1, l2, l3] st M Q ↔ jx_Ev d 132 70 [some (.ref x), l1, l2, l3] (.ref x :: st) M Q) ∧
  (∀ (d : Nat) (lv : List (Option Value)) (st : List Value) (M : jx_M) (Q : jx_Po), jx_Ev d 132 70 lv (.ref 36 :: st) M Q ↔ jx_Ev d 132 73 lv (.ref 38 :: st) M Q) ∧
  (∀ (d : Nat) (st : List Value) (M : jx_M) (Q : jx_Po) (l0 l2 l3 : Option Value) (x : Int32), jx_Ev d 132 73 [l0, some (.int x), l2, l3] st M Q ↔ jx_Ev d 132 74 [l0, some (.int x), l2, l3] (.int x :: st) M Q) ∧
  (∀ (d : Nat) (lv : List (Option Value)) (st : List Value) (M : jx_M) (Q : jx_Po) (x : Int32) (a : Nat) (ha : jx_cl a = 9), jx_Ev d 132 74 lv (.int x :: .ref a :: st) M Q ↔ (vp_in x (jx_sz a) ∧ jx_Ev d 132 75 lv (.int (M a x.toNatClampNeg) :: st) M Q)) ∧
  (∀ (d : Nat) (lv : List (Option Value)) (st : List Value) (M : jx_M) (Q : jx_Po), jx_Ev d 132 75 lv st M Q ↔ jx_Ev d 132 76 lv (.int 1 :: st) M Q) ∧
  (∀ (d : Nat) (lv : List (Option Value)) (st : List Value) (M : jx_M) (Q : jx_Po) (x z : Int32), jx_Ev d 132 76 lv (.int z :: .int x :: st) M Q ↔ jx_Ev d 132 77 lv (.int (x - z) :: st) M Q) ∧
  (∀ (d : Nat) (lv : List (Option Value)) (M : jx_M) (Q : jx_Po) (a0 : Int32) (a1 : Int32) (a2 : Int32), jx_Ev (d + 1) 132 77 lv [.int a0, .int a1, .int a2] M Q ↔ jx_I d 86 [.int a2, .int a1, .int a0] M (fun x M => jx_Ev (d + 1) 132 80 lv (.int x :: []) M Q)) ∧
  (∀ (d : Nat) (lv : List (Option Value)) (st : List Value) (M : jx_M) (Q : jx_Po) (x : Int32), jx_Ev d 132 80 lv (.int x :: st) M Q ↔ (if x = 0 then jx_Ev d 132 83 lv st M Q else jx_Ev d 132 89 lv st M Q)) ∧
  (∀ (d : Nat) (st : List Value) (M : jx_M) (Q : jx_Po) (l1 l2 l3 : Option Value) (x : Nat), jx_Ev d 132 83 [some (.ref x), l1, l2, l3] st M Q ↔ jx_Ev d 132 84 [some (.ref x), l1, l2, l3] (.ref x :: st) M Q) ∧
  (∀ (d : Nat) (lv : List (Option Value)) (st : List Value) (M : jx_M) (Q : jx_Po), jx_Ev d 132 84 lv st M Q ↔ jx_Ev d 132 85 lv (.int 3 :: st) M Q) ∧
  (∀ (d : Nat) (lv : List (Option Value)) (M : jx_M) (Q : jx_Po) (a0 : Int32), jx_Ev (d + 1) 132 85 lv [.int a0, .ref 36] M Q ↔ jx_L d 85 [.ref 36, .int a0] M (fun x M => jx_Ev (d + 1) 132 88 lv (.long x :: []) M Q)) ∧
  (∀ (d : Nat) (lv : List (Option Value)) (M : jx_M) (Q : jx_Po) (x : Int64), jx_Ev d 132 88 lv [.long x] M Q ↔ Q [.long x] M) ∧
  (∀ (d : Nat) (st : List Value) (M : jx_M) (Q : jx_Po) (l1 l2 l3 : Option Value) (x : Nat), jx_Ev d 132 89 [some (.ref x), l1, l2, l3] st M Q ↔ jx_Ev d 132 90 [some (.ref x), l1, l2, l3] (.ref x :: st) M Q) ∧
  (∀ (d : Nat) (lv : List (Option Value)) (st : List Value) (M : jx_M) (Q : jx_Po), jx_Ev d 132 90 lv (.ref 36 :: st) M Q ↔ jx_Ev d 132 93 lv (.ref 39 :: st) M Q) ∧
  (∀ (d : Nat) (lv : List (Option Value)) (st : List Value) (M : jx_M) (Q : jx_Po), jx_Ev d 132 93 lv st M Q ↔ jx_Ev d 132 95 lv (.int 60 :: st) M Q) ∧
  (∀ (d : Nat) (st : List Value) (M : jx_M) (Q : jx_Po) (l0 l2 l3 : Option Value) (x : Int32), jx_Ev d 132 95 [l0, some (.int x), l2, l3] st M Q ↔ jx_Ev d 132 96 [l0, some (.int x), l2, l3] (.int x :: st) M Q) ∧
  (∀ (d : Nat) (lv : List (Option Value)) (st : List Value) (M : jx_M) (Q : jx_Po) (x z : Int32), jx_Ev d 132 96 lv (.int z :: .int x :: st) M Q ↔ jx_Ev d 132 97 lv (.int (x * z) :: st) M Q) ∧
  (∀ (d : Nat) (st : List Value) (M : jx_M) (Q : jx_Po) (l0 l1 l3 : Option Value) (x : Int32), jx_Ev d 132 97 [l0, l1, some (.int x), l3] st M Q ↔ jx_Ev d 132 98 [l0, l1, some (.int x), l3] (.int x :: st) M Q) ∧
  (∀ (d : Nat) (lv : List (Option Value)) (st : List Value) (M : jx_M) (Q : jx_Po) (x z : Int32), jx_Ev d 132 98 lv (.int z :: .int x :: st) M Q ↔ jx_Ev d 132 99 lv (.int (x + z) :: st) M Q) ∧
  (∀ (d : Nat) (lv : List (Option Value)) (st : List Value) (M : jx_M) (Q : jx_Po) (x : Int32) (a : Nat) (ha : jx_cl a = 9), jx_Ev d 132 99 lv (.int x :: .ref a :: st) M Q ↔ (vp_in x (jx_sz a) ∧ jx_Ev d 132 100 lv (.int (M a x.toNatClampNeg) :: st) M Q)) ∧
  (∀ (d : Nat) (lv : List (Option Value)) (st : List Value) (M : jx_M) (Q : jx_Po) (x : Int32), jx_Ev d 132 100 lv (.int x :: st) M Q ↔ jx_Ev d 132 101 lv (.long x.toInt64 :: st) M Q) ∧
  (∀ (d : Nat) (lv : List (Option Value)) (M : jx_M) (Q : jx_Po) (x : Int64), jx_Ev d 132 101 lv [.long x] M Q ↔ Q [.long x] M) := by
  refine ⟨?_, ?_, ?_, ?_, ?_, ?_, ?_, ?_, ?_, ?_, ?_, ?_, ?_, ?_, ?_, ?_, ?_, ?_, ?_, ?_, ?_, ?_, ?_, ?_, ?_, ?_, ?_, ?_, ?_, ?_, ?_, ?_, ?_, ?_, ?_, ?_, ?_, ?_, ?_, ?_, ?_, ?_, ?_, ?_, ?_, ?_, ?_, ?_, ?_, ?_, ?_, ?_, ?_, ?_, ?_, ?_, ?_, ?_, ?_, ?_, ?_⟩
  · exact fun d st M Q l1 l2 l3 x => jx_ev_st (jx_fok (by decide +kernel : decode (jx_mb 132) 0 = .ok (.aload_n 0, 1))) rfl rfl rfl
  · exact fun d lv st M Q => jx_ev_st (jx_fok (by decide +kernel : decode (jx_mb 132) 1 = .ok (.iconst 0, 1))) rfl rfl rfl
  · exact fun d lv st M Q x => jx_k_pf0 (jx_fok (by decide +kernel : decode (jx_mb 132) 2 = .ok (.putfield 67, 3))) rfl rfl rfl
  · exact fun d st M Q l0 l2 l3 x => jx_ev_st (jx_fok (by decide +kernel : decode (jx_mb 132) 5 = .ok (.iload_n 1, 1))) rfl rfl rfl
  · exact fun d lv M Q a0 => jx_ev_ci (jx_fok (by decide +kernel : decode (jx_mb 132) 6 = .ok (.invokestatic 86, 3))) rfl (jx_ccS (As := [.int a0]) (rest := []) rfl rfl rfl rfl rfl) (by decide)
  · exact fun d lv st M Q x => jx_k_b1 (jx_fok (by decide +kernel : decode (jx_mb 132) 9 = .ok (.ifCond .eq 10, 3))) rfl jx_hEq
  · exact fun d st M Q l0 l1 l2 x => jx_ev_st (jx_fok (by decide +kernel : decode (jx_mb 132) 12 = .ok (.iload_n 3, 1))) rfl rfl rfl
  · exact fun d lv M Q a0 => jx_ev_ci (jx_fok (by decide +kernel : decode (jx_mb 132) 13 = .ok (.invokestatic 90, 3))) rfl (jx_ccS (As := [.int a0]) (rest := []) rfl rfl rfl rfl rfl) (by decide)
  · exact fun d lv st M Q x => jx_k_b1n (jx_fok (by decide +kernel : decode (jx_mb 132) 16 = .ok (.ifCond .ne 7, 3))) rfl jx_hNe
  · exact fun d lv st M Q => jx_ev_st (jx_fok (by decide +kernel : decode (jx_mb 132) 19 = .ok (.ldc2_w 71, 3))) rfl rfl rfl
  · exact fun d lv M Q x => jx_k_rl (jx_fok (by decide +kernel : decode (jx_mb 132) 22 = .ok (.lreturn, 1))) rfl
  · exact fun d st M Q l1 l2 l3 x => jx_ev_st (jx_fok (by decide +kernel : decode (jx_mb 132) 23 = .ok (.aload_n 0, 1))) rfl rfl rfl
  · exact fun d lv st M Q => jx_k_gf (jx_fok (by decide +kernel : decode (jx_mb 132) 24 = .ok (.getfield 9, 3))) rfl rfl rfl
  · exact fun d st M Q l0 l2 l3 x => jx_ev_st (jx_fok (by decide +kernel : decode (jx_mb 132) 27 = .ok (.iload_n 1, 1))) rfl rfl rfl
  · exact fun d lv st M Q x a ha => jx_k_al (jx_fok (by decide +kernel : decode (jx_mb 132) 28 = .ok (.iaload, 1))) ha
  · exact fun d lv st M Q => jx_ev_st (jx_fok (by decide +kernel : decode (jx_mb 132) 29 = .ok (.bipush (-9), 2))) rfl rfl rfl
  · exact fun d lv st M Q x z => jx_k_b2 (jx_fok (by decide +kernel : decode (jx_mb 132) 31 = .ok (.if_icmp .eq 19, 3))) rfl jx_hEq
  · exact fun d st M Q l1 l2 l3 x => jx_ev_st (jx_fok (by decide +kernel : decode (jx_mb 132) 34 = .ok (.aload_n 0, 1))) rfl rfl rfl
  · exact fun d lv st M Q => jx_k_gf (jx_fok (by decide +kernel : decode (jx_mb 132) 35 = .ok (.getfield 9, 3))) rfl rfl rfl
  · exact fun d st M Q l0 l2 l3 x => jx_ev_st (jx_fok (by decide +kernel : decode (jx_mb 132) 38 = .ok (.iload_n 1, 1))) rfl rfl rfl
  · exact fun d lv st M Q x a ha => jx_k_al (jx_fok (by decide +kernel : decode (jx_mb 132) 39 = .ok (.iaload, 1))) ha
  · exact fun d st M Q l0 l1 l2 x => jx_ev_st (jx_fok (by decide +kernel : decode (jx_mb 132) 40 = .ok (.iload_n 3, 1))) rfl rfl rfl
  · exact fun d lv st M Q x z => jx_k_b2 (jx_fok (by decide +kernel : decode (jx_mb 132) 41 = .ok (.if_icmp .eq 9, 3))) rfl jx_hEq
  · exact fun d st M Q l1 l2 l3 x => jx_ev_st (jx_fok (by decide +kernel : decode (jx_mb 132) 44 = .ok (.aload_n 0, 1))) rfl rfl rfl
  · exact fun d lv st M Q => jx_ev_st (jx_fok (by decide +kernel : decode (jx_mb 132) 45 = .ok (.iconst 2, 1))) rfl rfl rfl
  · exact fun d lv M Q a0 => jx_ev_cl (jx_fok (by decide +kernel : decode (jx_mb 132) 46 = .ok (.invokevirtual 187, 3))) rfl (jx_ccV (As := [.int a0]) (rest := []) rfl rfl rfl rfl rfl rfl) rfl
  · exact fun d lv M Q x => jx_k_rl (jx_fok (by decide +kernel : decode (jx_mb 132) 49 = .ok (.lreturn, 1))) rfl
  · exact fun d st M Q l1 l2 l3 x => jx_ev_st (jx_fok (by decide +kernel : decode (jx_mb 132) 50 = .ok (.aload_n 0, 1))) rfl rfl rfl
  · exact fun d lv st M Q => jx_k_gf (jx_fok (by decide +kernel : decode (jx_mb 132) 51 = .ok (.getfield 9, 3))) rfl rfl rfl
  · exact fun d st M Q l0 l2 l3 x => jx_ev_st (jx_fok (by decide +kernel : decode (jx_mb 132) 54 = .ok (.iload_n 1, 1))) rfl rfl rfl
  · exact fun d lv st M Q x a ha => jx_k_al (jx_fok (by decide +kernel : decode (jx_mb 132) 55 = .ok (.iaload, 1))) ha
  · exact fun d lv st M Q => jx_ev_st (jx_fok (by decide +kernel : decode (jx_mb 132) 56 = .ok (.bipush (-9), 2))) rfl rfl rfl
  · exact fun d lv st M Q x z => jx_k_b2n (jx_fok (by decide +kernel : decode (jx_mb 132) 58 = .ok (.if_icmp .ne 9, 3))) rfl jx_hNe
  · exact fun d st M Q l1 l2 l3 x => jx_ev_st (jx_fok (by decide +kernel : decode (jx_mb 132) 61 = .ok (.aload_n 0, 1))) rfl rfl rfl
  · exact fun d lv st M Q => jx_ev_st (jx_fok (by decide +kernel : decode (jx_mb 132) 62 = .ok (.iconst 1, 1))) rfl rfl rfl
  · exact fun d lv M Q a0 => jx_ev_cl (jx_fok (by decide +kernel : decode (jx_mb 132) 63 = .ok (.invokevirtual 187, 3))) rfl (jx_ccV (As := [.int a0]) (rest := []) rfl rfl rfl rfl rfl rfl) rfl
  · exact fun d lv M Q x => jx_k_rl (jx_fok (by decide +kernel : decode (jx_mb 132) 66 = .ok (.lreturn, 1))) rfl
  · exact fun d st M Q l0 l1 l3 x => jx_ev_st (jx_fok (by decide +kernel : decode (jx_mb 132) 67 = .ok (.iload_n 2, 1))) rfl rfl rfl
  · exact fun d lv st M Q => jx_ev_st (jx_fok (by decide +kernel : decode (jx_mb 132) 68 = .ok (.iconst 0, 1))) rfl rfl rfl
  · exact fun d st M Q l1 l2 l3 x => jx_ev_st (jx_fok (by decide +kernel : decode (jx_mb 132) 69 = .ok (.aload_n 0, 1))) rfl rfl rfl
  · exact fun d lv st M Q => jx_k_gf (jx_fok (by decide +kernel : decode (jx_mb 132) 70 = .ok (.getfield 13, 3))) rfl rfl rfl
  · exact fun d st M Q l0 l2 l3 x => jx_ev_st (jx_fok (by decide +kernel : decode (jx_mb 132) 73 = .ok (.iload_n 1, 1))) rfl rfl rfl
  · exact fun d lv st M Q x a ha => jx_k_al (jx_fok (by decide +kernel : decode (jx_mb 132) 74 = .ok (.iaload, 1))) ha
  · exact fun d lv st M Q => jx_ev_st (jx_fok (by decide +kernel : decode (jx_mb 132) 75 = .ok (.iconst 1, 1))) rfl rfl rfl
  · exact fun d lv st M Q x z => jx_ev_st (jx_fok (by decide +kernel : decode (jx_mb 132) 76 = .ok (.isub, 1))) rfl rfl rfl
  · exact fun d lv M Q a0 a1 a2 => jx_ev_ci (jx_fok (by decide +kernel : decode (jx_mb 132) 77 = .ok (.invokestatic 73, 3))) rfl (jx_ccS (As := [.int a2, .int a1, .int a0]) (rest := []) rfl rfl rfl rfl rfl) (by decide)
  · exact fun d lv st M Q x => jx_k_b1n (jx_fok (by decide +kernel : decode (jx_mb 132) 80 = .ok (.ifCond .ne 9, 3))) rfl jx_hNe
  · exact fun d st M Q l1 l2 l3 x => jx_ev_st (jx_fok (by decide +kernel : decode (jx_mb 132) 83 = .ok (.aload_n 0, 1))) rfl rfl rfl
  · exact fun d lv st M Q => jx_ev_st (jx_fok (by decide +kernel : decode (jx_mb 132) 84 = .ok (.iconst 3, 1))) rfl rfl rfl
  · exact fun d lv M Q a0 => jx_ev_cl (jx_fok (by decide +kernel : decode (jx_mb 132) 85 = .ok (.invokevirtual 187, 3))) rfl (jx_ccV (As := [.int a0]) (rest := []) rfl rfl rfl rfl rfl rfl) rfl
  · exact fun d lv M Q x => jx_k_rl (jx_fok (by decide +kernel : decode (jx_mb 132) 88 = .ok (.lreturn, 1))) rfl
  · exact fun d st M Q l1 l2 l3 x => jx_ev_st (jx_fok (by decide +kernel : decode (jx_mb 132) 89 = .ok (.aload_n 0, 1))) rfl rfl rfl
  · exact fun d lv st M Q => jx_k_gf (jx_fok (by decide +kernel : decode (jx_mb 132) 90 = .ok (.getfield 16, 3))) rfl rfl rfl
  · exact fun d lv st M Q => jx_ev_st (jx_fok (by decide +kernel : decode (jx_mb 132) 93 = .ok (.bipush 60, 2))) rfl rfl rfl
  · exact fun d st M Q l0 l2 l3 x => jx_ev_st (jx_fok (by decide +kernel : decode (jx_mb 132) 95 = .ok (.iload_n 1, 1))) rfl rfl rfl
  · exact fun d lv st M Q x z => jx_ev_st (jx_fok (by decide +kernel : decode (jx_mb 132) 96 = .ok (.imul, 1))) rfl rfl rfl
  · exact fun d st M Q l0 l1 l3 x => jx_ev_st (jx_fok (by decide +kernel : decode (jx_mb 132) 97 = .ok (.iload_n 2, 1))) rfl rfl rfl
  · exact fun d lv st M Q x z => jx_ev_st (jx_fok (by decide +kernel : decode (jx_mb 132) 98 = .ok (.iadd, 1))) rfl rfl rfl
  · exact fun d lv st M Q x a ha => jx_k_al (jx_fok (by decide +kernel : decode (jx_mb 132) 99 = .ok (.iaload, 1))) ha
  · exact fun d lv st M Q x => jx_ev_st (jx_fok (by decide +kernel : decode (jx_mb 132) 100 = .ok (.i2l, 1))) rfl rfl rfl
  · exact fun d lv M Q x => jx_k_rl (jx_fok (by decide +kernel : decode (jx_mb 132) 101 = .ok (.lreturn, 1))) rfl
theorem kX8_cell (d : Nat) (M : jx_M) (q : Int64 → jx_M → Prop) (a0 a1 a2 a3 : Value) : jx_L d 132 [a0, a1, a2, a3] M q ↔ jx_Ev d 132 0 [some a0, some a1, some a2, some a3] [] M (jx_qL q) := Iff.rfl
set_option maxRecDepth 100000 in
theorem eX8_copy :
  (∀ (d : Nat) (st : List Value) (M : jx_M) (Q : jx_Po) (l1 l2 l3 l4 l5 l6 l7 l8 l9 : Option Value) (x : Nat), jx_Ev d 133 0 [some (.ref x), l1, l2, l3, l4, l5, l6, l7, l8, l9] st M Q ↔ jx_Ev d 133 1 [some (.ref x), l1, l2, l3, l4, l5, l6, l7, l8, l9] (.ref x :: st) M Q) ∧
  (∀ (d : Nat) (lv : List (Option Value)) (st : List Value) (M : jx_M) (Q : jx_Po), jx_Ev d 133 1 lv st M Q ↔ jx_Ev d 133 2 lv (.int 0 :: st) M Q) ∧
  (∀ (d : Nat) (lv : List (Option Value)) (st : List Value) (M : jx_M) (Q : jx_Po) (x : Int32), jx_Ev d 133 2 lv (.int x :: .ref 36 :: st) M Q ↔ jx_Ev d 133 5 lv st (jx_up M 36 0 x) Q) ∧
  (∀ (d : Nat) (st : List Value) (M : jx_M) (Q : jx_Po) (l0 l2 l3 l4 l5 l6 l7 l8 l9 : Option Value) (x : Int32), jx_Ev d 133 5 [l0, some (.int x), l2, l3, l4, l5, l6, l7, l8, l9] st M Q ↔ jx_Ev d 133 6 [l0, some (.int x), l2, l3, l4, l5, l6, l7, l8, l9] (.int x :: st) M Q) ∧
  (∀ (d : Nat) (lv : List (Option Value)) (M : jx_M) (Q : jx_Po) (a0 : Int32), jx_Ev (d + 1) 133 6 lv [.int a0] M Q ↔ jx_I d 87 [.int a0] M (fun x M => jx_Ev (d + 1) 133 9 lv (.int x :: []) M Q)) ∧
  (∀ (d : Nat) (lv : List (Option Value)) (st : List Value) (M : jx_M) (Q : jx_Po) (x : Int32), jx_Ev d 133 9 lv (.int x :: st) M Q ↔ (if x = 0 then jx_Ev d 133 19 lv st M Q else jx_Ev d 133 12 lv st M Q)) ∧
  (∀ (d : Nat) (st : List Value) (M : jx_M) (Q : jx_Po) (l0 l1 l2 l4 l5 l6 l7 l8 l9 : Option Value) (x : Int32), jx_Ev d 133 12 [l0, l1, l2, some (.int x), l4, l5, l6, l7, l8, l9] st M Q ↔ jx_Ev d 133 13 [l0, l1, l2, some (.int x), l4, l5, l6, l7, l8, l9] (.int x :: st) M Q) ∧
  (∀ (d : Nat) (lv : List (Option Value)) (M : jx_M) (Q : jx_Po) (a0 : Int32), jx_Ev (d + 1) 133 13 lv [.int a0] M Q ↔ jx_I d 87 [.int a0] M (fun x M => jx_Ev (d + 1) 133 16 lv (.int x :: []) M Q)) ∧
  (∀ (d : Nat) (lv : List (Option Value)) (st : List Value) (M : jx_M) (Q : jx_Po) (x : Int32), jx_Ev d 133 16 lv (.int x :: st) M Q ↔ (if x = 0 then jx_Ev d 133 19 lv st M Q else jx_Ev d 133 21 lv st M Q)) ∧
  (∀ (d : Nat) (lv : List (Option Value)) (st : List Value) (M : jx_M) (Q : jx_Po), jx_Ev d 133 19 lv st M Q ↔ jx_Ev d 133 20 lv (.int (-1) :: st) M Q) ∧
  (∀ (d : Nat) (lv : List (Option Value)) (M : jx_M) (Q : jx_Po) (x : Int32), jx_Ev d 133 20 lv [.int x] M Q ↔ Q [.int x] M) ∧
  (∀ (d : Nat) (st : List Value) (M : jx_M) (Q : jx_Po) (l1 l2 l3 l4 l5 l6 l7 l8 l9 : Option Value) (x : Nat), jx_Ev d 133 21 [some (.ref x), l1, l2, l3, l4, l5, l6, l7, l8, l9] st M Q ↔ jx_Ev d 133 22 [some (.ref x), l1, l2, l3, l4, l5, l6, l7, l8, l9] (.ref x :: st) M Q) ∧
  (∀ (d : Nat) (lv : List (Option Value)) (st : List Value) (M : jx_M) (Q : jx_Po), jx_Ev d 133 22 lv (.ref 36 :: st) M Q ↔ jx_Ev d 133 25 lv (.ref 37 :: st) M Q) ∧
  (∀ (d : Nat) (st : List Value) (M : jx_M) (Q : jx_Po) (l0 l2 l3 l4 l5 l6 l7 l8 l9 : Option Value) (x : Int32), jx_Ev d 133 25 [l0, some (.int x), l2, l3, l4, l5, l6, l7, l8, l9] st M Q ↔ jx_Ev d 133 26 [l0, some (.int x), l2, l3, l4, l5, l6, l7, l8, l9] (.int x :: st) M Q) ∧
  (∀ (d : Nat) (lv : List (Option Value)) (st : List Value) (M : jx_M) (Q : jx_Po) (x : Int32) (a : Nat) (ha : jx_cl a = 9), jx_Ev d 133 26 lv (.int x :: .ref a :: st) M Q ↔ (vp_in x (jx_sz a) ∧ jx_Ev d 133 27 lv (.int (M a x.toNatClampNeg) :: st) M Q)) ∧
  (∀ (d : Nat) (lv : List (Option Value)) (st : List Value) (M : jx_M) (Q : jx_Po), jx_Ev d 133 27 lv st M Q ↔ jx_Ev d 133 29 lv (.int (-9) :: st) M Q) ∧
  (∀ (d : Nat) (lv : List (Option Value)) (st : List Value) (M : jx_M) (Q : jx_Po) (x z : Int32), jx_Ev d 133 29 lv (.int z :: .int x :: st) M Q ↔ (if x = z then jx_Ev d 133 43 lv st M Q else jx_Ev d 133 32 lv st M Q)) ∧
  (∀ (d : Nat) (st : List Value) (M : jx_M) (Q : jx_Po) (l1 l2 l3 l4 l5 l6 l7 l8 l9 : Option Value) (x : Nat), jx_Ev d 133 32 [some (.ref x), l1, l2, l3, l4, l5, l6, l7, l8, l9] st M Q ↔ jx_Ev d 133 33 [some (.ref x), l1, l2, l3, l4, l5, l6, l7, l8, l9] (.ref x :: st) M Q) ∧
  (∀ (d : Nat) (lv : List (Option Value)) (st : List Value) (M : jx_M) (Q : jx_Po), jx_Ev d 133 33 lv (.ref 36 :: st) M Q ↔ jx_Ev d 133 36 lv (.ref 37 :: st) M Q) ∧
  (∀ (d : Nat) (st : List Value) (M : jx_M) (Q : jx_Po) (l0 l1 l2 l4 l5 l6 l7 l8 l9 : Option Value) (x : Int32), jx_Ev d 133 36 [l0, l1, l2, some (.int x), l4, l5, l6, l7, l8, l9] st M Q ↔ jx_Ev d 133 37 [l0, l1, l2, some (.int x), l4, l5, l6, l7, l8, l9] (.int x :: st) M Q) ∧
  (∀ (d : Nat) (lv : List (Option Value)) (st : List Value) (M : jx_M) (Q : jx_Po) (x : Int32) (a : Nat) (ha : jx_cl a = 9), jx_Ev d 133 37 lv (.int x :: .ref a :: st) M Q ↔ (vp_in x (jx_sz a) ∧ jx_Ev d 133 38 lv (.int (M a x.toNatClampNeg) :: st) M Q)) ∧
  (∀ (d : Nat) (lv : List (Option Value)) (st : List Value) (M : jx_M) (Q : jx_Po), jx_Ev d 133 38 lv st M Q ↔ jx_Ev d 133 40 lv (.int (-9) :: st) M Q) ∧
  (∀ (d : Nat) (lv : List (Option Value)) (st : List Value) (M : jx_M) (Q : jx_Po) (x z : Int32), jx_Ev d 133 40 lv (.int z :: .int x :: st) M Q ↔ (if x = z then jx_Ev d 133 43 lv st M Q else jx_Ev d 133 49 lv st M Q)) ∧
  (∀ (d : Nat) (st : List Value) (M : jx_M) (Q : jx_Po) (l1 l2 l3 l4 l5 l6 l7 l8 l9 : Option Value) (x : Nat), jx_Ev d 133 43 [some (.ref x), l1, l2, l3, l4, l5, l6, l7, l8, l9] st M Q ↔ jx_Ev d 133 44 [some (.ref x), l1, l2, l3, l4, l5, l6, l7, l8, l9] (.ref x :: st) M Q) ∧
  (∀ (d : Nat) (lv : List (Option Value)) (st : List Value) (M : jx_M) (Q : jx_Po), jx_Ev d 133 44 lv st M Q ↔ jx_Ev d 133 45 lv (.int 1 :: st) M Q) ∧
  (∀ (d : Nat) (lv : List (Option Value)) (M : jx_M) (Q : jx_Po) (a0 : Int32), jx_Ev (d + 1) 133 45 lv [.int a0, .ref 36] M Q ↔ jx_I d 84 [.ref 36, .int a0] M (fun x M => jx_Ev (d + 1) 133 48 lv (.int x :: []) M Q)) ∧
  (∀ (d : Nat) (lv : List (Option Value)) (M : jx_M) (Q : jx_Po) (x : Int32), jx_Ev d 133 48 lv [.int x] M Q ↔ Q [.int x] M) ∧
  (∀ (d : Nat) (st : List Value) (M : jx_M) (Q : jx_Po) (l1 l2 l3 l4 l5 l6 l7 l8 l9 : Option Value) (x : Nat), jx_Ev d 133 49 [some (.ref x), l1, l2, l3, l4, l5, l6, l7, l8, l9] st M Q ↔ jx_Ev d 133 50 [some (.ref x), l1, l2, l3, l4, l5, l6, l7, l8, l9] (.ref x :: st) M Q) ∧
  (∀ (d : Nat) (lv : List (Option Value)) (st : List Value) (M : jx_M) (Q : jx_Po), jx_Ev d 133 50 lv (.ref 36 :: st) M Q ↔ jx_Ev d 133 53 lv (.ref 37 :: st) M Q) ∧
  (∀ (d : Nat) (st : List Value) (M : jx_M) (Q : jx_Po) (l0 l2 l3 l4 l5 l6 l7 l8 l9 : Option Value) (x : Int32), jx_Ev d 133 53 [l0, some (.int x), l2, l3, l4, l5, l6, l7, l8, l9] st M Q ↔ jx_Ev d 133 54 [l0, some (.int x), l2, l3, l4, l5, l6, l7, l8, l9] (.int x :: st) M Q) ∧
  (∀ (d : Nat) (lv : List (Option Value)) (st : List Value) (M : jx_M) (Q : jx_Po) (x : Int32) (a : Nat) (ha : jx_cl a = 9), jx_Ev d 133 54 lv (.int x :: .ref a :: st) M Q ↔ (vp_in x (jx_sz a) ∧ jx_Ev d 133 55 lv (.int (M a x.toNatClampNeg) :: st) M Q)) ∧
  (∀ (d : Nat) (st : List Value) (M : jx_M) (Q : jx_Po) (l1 l2 l3 l4 l5 l6 l7 l8 l9 : Option Value) (x : Nat), jx_Ev d 133 55 [some (.ref x), l1, l2, l3, l4, l5, l6, l7, l8, l9] st M Q ↔ jx_Ev d 133 56 [some (.ref x), l1, l2, l3, l4, l5, l6, l7, l8, l9] (.ref x :: st) M Q) ∧
  (∀ (d : Nat) (lv : List (Option Value)) (st : List Value) (M : jx_M) (Q : jx_Po), jx_Ev d 133 56 lv (.ref 36 :: st) M Q ↔ jx_Ev d 133 59 lv (.ref 37 :: st) M Q) ∧
  (∀ (d : Nat) (st : List Value) (M : jx_M) (Q : jx_Po) (l0 l1 l2 l4 l5 l6 l7 l8 l9 : Option Value) (x : Int32), jx_Ev d 133 59 [l0, l1, l2, some (.int x), l4, l5, l6, l7, l8, l9] st M Q ↔ jx_Ev d 133 60 [l0, l1, l2, some (.int x), l4, l5, l6, l7, l8, l9] (.int x :: st) M Q) ∧
  (∀ (d : Nat) (lv : List (Option Value)) (st : List Value) (M : jx_M) (Q : jx_Po) (x : Int32) (a : Nat) (ha : jx_cl a = 9), jx_Ev d 133 60 lv (.int x :: .ref a :: st) M Q ↔ (vp_in x (jx_sz a) ∧ jx_Ev d 133 61 lv (.int (M a x.toNatClampNeg) :: st) M Q)) ∧
  (∀ (d : Nat) (lv : List (Option Value)) (st : List Value) (M : jx_M) (Q : jx_Po) (x z : Int32), jx_Ev d 133 61 lv (.int z :: .int x :: st) M Q ↔ (if x = z then jx_Ev d 133 70 lv st M Q else jx_Ev d 133 64 lv st M Q)) ∧
  (∀ (d : Nat) (st : List Value) (M : jx_M) (Q : jx_Po) (l1 l2 l3 l4 l5 l6 l7 l8 l9 : Option Value) (x : Nat), jx_Ev d 133 64 [some (.ref x), l1, l2, l3, l4, l5, l6, l7, l8, l9] st M Q ↔ jx_Ev d 133 65 [some (.ref x), l1, l2, l3, l4, l5, l6, l7, l8, l9] (.ref x :: st) M Q) ∧
  (∀ (d : Nat) (lv : List (Option Value)) (st : List Value) (M : jx_M) (Q : jx_Po), jx_Ev d 133 65 lv st M Q ↔ jx_Ev d 133 66 lv (.int 2 :: st) M Q) ∧
  (∀ (d : Nat) (lv : List (Option Value)) (M : jx_M) (Q : jx_Po) (a0 : Int32), jx_Ev (d + 1) 133 66 lv [.int a0, .ref 36] M Q ↔ jx_I d 84 [.ref 36, .int a0] M (fun x M => jx_Ev (d + 1) 133 69 lv (.int x :: []) M Q)) ∧
  (∀ (d : Nat) (lv : List (Option Value)) (M : jx_M) (Q : jx_Po) (x : Int32), jx_Ev d 133 69 lv [.int x] M Q ↔ Q [.int x] M) ∧
  (∀ (d : Nat) (st : List Value) (M : jx_M) (Q : jx_Po) (l0 l1 l3 l4 l5 l6 l7 l8 l9 : Option Value) (x : Int32), jx_Ev d 133 70 [l0, l1, some (.int x), l3, l4, l5, l6, l7, l8, l9] st M Q ↔ jx_Ev d 133 71 [l0, l1, some (.int x), l3, l4, l5, l6, l7, l8, l9] (.int x :: st) M Q) ∧
  (∀ (d : Nat) (lv : List (Option Value)) (st : List Value) (M : jx_M) (Q : jx_Po) (x : Int32), jx_Ev d 133 71 lv (.int x :: st) M Q ↔ (if x < 0 then jx_Ev d 133 109 lv st M Q else jx_Ev d 133 74 lv st M Q)) ∧
  (∀ (d : Nat) (st : List Value) (M : jx_M) (Q : jx_Po) (l0 l1 l2 l3 l5 l6 l7 l8 l9 : Option Value) (x : Int32), jx_Ev d 133 74 [l0, l1, l2, l3, some (.int x), l5, l6, l7, l8, l9] st M Q ↔ jx_Ev d 133 76 [l0, l1, l2, l3, some (.int x), l5, l6, l7, l8, l9] (.int x :: st) M Q) ∧
  (∀ (d : Nat) (lv : List (Option Value)) (st : List Value) (M : jx_M) (Q : jx_Po) (x : Int32), jx_Ev d 133 76 lv (.int x :: st) M Q ↔ (if x < 0 then jx_Ev d 133 109 lv st M Q else jx_Ev d 133 79 lv st M Q)) ∧
  (∀ (d : Nat) (st : List Value) (M : jx_M) (Q : jx_Po) (l0 l1 l2 l3 l4 l6 l7 l8 l9 : Option Value) (x : Int32), jx_Ev d 133 79 [l0, l1, l2, l3, l4, some (.int x), l6, l7, l8, l9] st M Q ↔ jx_Ev d 133 81 [l0, l1, l2, l3, l4, some (.int x), l6, l7, l8, l9] (.int x :: st) M Q) ∧
  (∀ (d : Nat) (lv : List (Option Value)) (st : List Value) (M : jx_M) (Q : jx_Po) (x : Int32), jx_Ev d 133 81 lv (.int x :: st) M Q ↔ (if x < 0 then jx_Ev d 133 109 lv st M Q else jx_Ev d 133 84 lv st M Q)) ∧
  (∀ (d : Nat) (st : List Value) (M : jx_M) (Q : jx_Po) (l0 l1 l3 l4 l5 l6 l7 l8 l9 : Option Value) (x : Int32), jx_Ev d 133 84 [l0, l1, some (.int x), l3, l4, l5, l6, l7, l8, l9] st M Q ↔ jx_Ev d 133 85 [l0, l1, some (.int x), l3, l4, l5, l6, l7, l8, l9] (.int x :: st) M Q) ∧
  (∀ (d : Nat) (st : List Value) (M : jx_M) (Q : jx_Po) (l1 l2 l3 l4 l5 l6 l7 l8 l9 : Option Value) (x : Nat), jx_Ev d 133 85 [some (.ref x), l1, l2, l3, l4, l5, l6, l7, l8, l9] st M Q ↔ jx_Ev d 133 86 [some (.ref x), l1, l2, l3, l4, l5, l6, l7, l8, l9] (.ref x :: st) M Q) ∧
  (∀ (d : Nat) (lv : List (Option Value)) (st : List Value) (M : jx_M) (Q : jx_Po), jx_Ev d 133 86 lv (.ref 36 :: st) M Q ↔ jx_Ev d 133 89 lv (.ref 38 :: st) M Q) ∧
  (∀ (d : Nat) (st : List Value) (M : jx_M) (Q : jx_Po) (l0 l2 l3 l4 l5 l6 l7 l8 l9 : Option Value) (x : Int32), jx_Ev d 133 89 [l0, some (.int x), l2, l3, l4, l5, l6, l7, l8, l9] st M Q ↔ jx_Ev d 133 90 [l0, some (.int x), l2, l3, l4, l5, l6, l7, l8, l9] (.int x :: st) M Q) ∧
  (∀ (d : Nat) (lv : List (Option Value)) (st : List Value) (M : jx_M) (Q : jx_Po) (x : Int32) (a : Nat) (ha : jx_cl a = 9), jx_Ev d 133 90 lv (.int x :: .ref a :: st) M Q ↔ (vp_in x (jx_sz a) ∧ jx_Ev d 133 91 lv (.int (M a x.toNatClampNeg) :: st) M Q)) ∧
  (∀ (d : Nat) (lv : List (Option Value)) (st : List Value) (M : jx_M) (Q : jx_Po) (x z : Int32), jx_Ev d 133 91 lv (.int z :: .int x :: st) M Q ↔ (if z < x then jx_Ev d 133 109 lv st M Q else jx_Ev d 133 94 lv st M Q)) ∧
  (∀ (d : Nat) (st : List Value) (M : jx_M) (Q : jx_Po) (l0 l1 l2 l3 l5 l6 l7 l8 l9 : Option Value) (x : Int32), jx_Ev d 133 94 [l0, l1, l2, l3, some (.int x), l5, l6, l7, l8, l9] st M Q ↔ jx_Ev d 133 96 [l0, l1, l2, l3, some (.int x), l5, l6, l7, l8, l9] (.int x :: st) M Q) ∧
  (∀ (d : Nat) (st : List Value) (M : jx_M) (Q : jx_Po) (l1 l2 l3 l4 l5 l6 l7 l8 l9 : Option Value) (x : Nat), jx_Ev d 133 96 [some (.ref x), l1, l2, l3, l4, l5, l6, l7, l8, l9] st M Q ↔ jx_Ev d 133 97 [some (.ref x), l1, l2, l3, l4, l5, l6, l7, l8, l9] (.ref x :: st) M Q) ∧
  (∀ (d : Nat) (lv : List (Option Value)) (st : List Value) (M : jx_M) (Q : jx_Po), jx_Ev d 133 97 lv (.ref 36 :: st) M Q ↔ jx_Ev d 133 100 lv (.ref 38 :: st) M Q) ∧
  (∀ (d : Nat) (st : List Value) (M : jx_M) (Q : jx_Po) (l0 l1 l2 l4 l5 l6 l7 l8 l9 : Option Value) (x : Int32), jx_Ev d 133 100 [l0, l1, l2, some (.int x), l4, l5, l6, l7, l8, l9] st M Q ↔ jx_Ev d 133 101 [l0, l1, l2, some (.int x), l4, l5, l6, l7, l8, l9] (.int x :: st) M Q) ∧
  (∀ (d : Nat) (lv : List (Option Value)) (st : List Value) (M : jx_M) (Q : jx_Po) (x : Int32) (a : Nat) (ha : jx_cl a = 9), jx_Ev d 133 101 lv (.int x :: .ref a :: st) M Q ↔ (vp_in x (jx_sz a) ∧ jx_Ev d 133 102 lv (.int (M a x.toNatClampNeg) :: st) M Q)) ∧
  (∀ (d : Nat) (lv : List (Option Value)) (st : List Value) (M : jx_M) (Q : jx_Po) (x z : Int32), jx_Ev d 133 102 lv (.int z :: .int x :: st) M Q ↔ (if z < x then jx_Ev d 133 109 lv st M Q else jx_Ev d 133 105 lv st M Q)) ∧
  (∀ (d : Nat) (lv : List (Option Value)) (st : List Value) (M : jx_M) (Q : jx_Po), jx_Ev d 133 105 lv st M Q ↔ jx_Ev d 133 106 lv (.int 1 :: st) M Q) ∧
  (∀ (d : Nat) (lv : List (Option Value)) (st : List Value) (M : jx_M) (Q : jx_Po), jx_Ev d 133 106 lv st M Q ↔ jx_Ev d 133 110 lv st M Q) ∧
  (∀ (d : Nat) (lv : List (Option Value)) (st : List Value) (M : jx_M) (Q : jx_Po), jx_Ev d 133 109 lv st M Q ↔ jx_Ev d 133 110 lv (.int 0 :: st) M Q) ∧
  (∀ (d : Nat) (st : List Value) (M : jx_M) (Q : jx_Po) (l0 l1 l2 l3 l4 l5 l6 l7 l8 l9 : Option Value) (x : Int32), jx_Ev d 133 110 [l0, l1, l2, l3, l4, l5, l6, l7, l8, l9] (.int x :: st) M Q ↔ jx_Ev d 133 112 [l0, l1, l2, l3, l4, l5, some (.int x), l7, l8, l9] st M Q) ∧
  (∀ (d : Nat) (st : List Value) (M : jx_M) (Q : jx_Po) (l0 l1 l2 l3 l4 l5 l7 l8 l9 : Option Value) (x : Int32), jx_Ev d 133 112 [l0, l1, l2, l3, l4, l5, some (.int x), l7, l8, l9] st M Q ↔ jx_Ev d 133 114 [l0, l1, l2, l3, l4, l5, some (.int x), l7, l8, l9] (.int x :: st) M Q) ∧
  (∀ (d : Nat) (lv : List (Option Value)) (st : List Value) (M : jx_M) (Q : jx_Po) (x : Int32), jx_Ev d 133 114 lv (.int x :: st) M Q ↔ (if x = 0 then jx_Ev d 133 144 lv st M Q else jx_Ev d 133 117 lv st M Q)) ∧
  (∀ (d : Nat) (st : List Value) (M : jx_M) (Q : jx_Po) (l0 l1 l2 l3 l4 l6 l7 l8 l9 : Option Value) (x : Int32), jx_Ev d 133 117 [l0, l1, l2, l3, l4, some (.int x), l6, l7, l8, l9] st M Q ↔ jx_Ev d 133 119 [l0, l1, l2, l3, l4, some (.int x), l6, l7, l8, l9] (.int x :: st) M Q) ∧
  (∀ (d : Nat) (st : List Value) (M : jx_M) (Q : jx_Po) (l1 l2 l3 l4 l5 l6 l7 l8 l9 : Option Value) (x : Nat), jx_Ev d 133 119 [some (.ref x), l1, l2, l3, l4, l5, l6, l7, l8, l9] st M Q ↔ jx_Ev d 133 120 [some (.ref x), l1, l2, l3, l4, l5, l6, l7, l8, l9] (.ref x :: st) M Q) ∧
  (∀ (d : Nat) (lv : List (Option Value)) (st : List Value) (M : jx_M) (Q : jx_Po), jx_Ev d 133 120 lv (.ref 36 :: st) M Q ↔ jx_Ev d 133 123 lv (.ref 38 :: st) M Q) ∧
  (∀ (d : Nat) (st : List Value) (M : jx_M) (Q : jx_Po) (l0 l2 l3 l4 l5 l6 l7 l8 l9 : Option Value) (x : Int32), jx_Ev d 133 123 [l0, some (.int x), l2, l3, l4, l5, l6, l7, l8, l9] st M Q ↔ jx_Ev d 133 124 [l0, some (.int x), l2, l3, l4, l5, l6, l7, l8, l9] (.int x :: st) M Q) ∧
  (∀ (d : Nat) (lv : List (Option Value)) (st : List Value) (M : jx_M) (Q : jx_Po) (x : Int32) (a : Nat) (ha : jx_cl a = 9), jx_Ev d 133 124 lv (.int x :: .ref a :: st) M Q ↔ (vp_in x (jx_sz a) ∧ jx_Ev d 133 125 lv (.int (M a x.toNatClampNeg) :: st) M Q)) ∧
  (∀ (d : Nat) (st : List Value) (M : jx_M) (Q : jx_Po) (l0 l1 l3 l4 l5 l6 l7 l8 l9 : Option Value) (x : Int32), jx_Ev d 133 125 [l0, l1, some (.int x), l3, l4, l5, l6, l7, l8, l9] st M Q ↔ jx_Ev d 133 126 [l0, l1, some (.int x), l3, l4, l5, l6, l7, l8, l9] (.int x :: st) M Q) ∧
  (∀ (d : Nat) (lv : List (Option Value)) (st : List Value) (M : jx_M) (Q : jx_Po) (x z : Int32), jx_Ev d 133 126 lv (.int z :: .int x :: st) M Q ↔ jx_Ev d 133 127 lv (.int (x - z) :: st) M Q) ∧
  (∀ (d : Nat) (lv : List (Option Value)) (st : List Value) (M : jx_M) (Q : jx_Po) (x z : Int32), jx_Ev d 133 127 lv (.int z :: .int x :: st) M Q ↔ (if z < x then jx_Ev d 133 144 lv st M Q else jx_Ev d 133 130 lv st M Q)) ∧
  (∀ (d : Nat) (st : List Value) (M : jx_M) (Q : jx_Po) (l0 l1 l2 l3 l4 l6 l7 l8 l9 : Option Value) (x : Int32), jx_Ev d 133 130 [l0, l1, l2, l3, l4, some (.int x), l6, l7, l8, l9] st M Q ↔ jx_Ev d 133 132 [l0, l1, l2, l3, l4, some (.int x), l6, l7, l8, l9] (.int x :: st) M Q) ∧
  (∀ (d : Nat) (st : List Value) (M : jx_M) (Q : jx_Po) (l1 l2 l3 l4 l5 l6 l7 l8 l9 : Option Value) (x : Nat), jx_Ev d 133 132 [some (.ref x), l1, l2, l3, l4, l5, l6, l7, l8, l9] st M Q ↔ jx_Ev d 133 133 [some (.ref x), l1, l2, l3, l4, l5, l6, l7, l8, l9] (.ref x :: st) M Q) ∧
  (∀ (d : Nat) (lv : List (Option Value)) (st : List Value) (M : jx_M) (Q : jx_Po), jx_Ev d 133 133 lv (.ref 36 :: st) M Q ↔ jx_Ev d 133 136 lv (.ref 38 :: st) M Q) ∧
  (∀ (d : Nat) (st : List Value) (M : jx_M) (Q : jx_Po) (l0 l1 l2 l4 l5 l6 l7 l8 l9 : Option Value) (x : Int32), jx_Ev d 133 136 [l0, l1, l2, some (.int x), l4, l5, l6, l7, l8, l9] st M Q ↔ jx_Ev d 133 137 [l0, l1, l2, some (.int x), l4, l5, l6, l7, l8, l9] (.int x :: st) M Q) ∧
  (∀ (d : Nat) (lv : List (Option Value)) (st : List Value) (M : jx_M) (Q : jx_Po) (x : Int32) (a : Nat) (ha : jx_cl a = 9), jx_Ev d 133 137 lv (.int x :: .ref a :: st) M Q ↔ (vp_in x (jx_sz a) ∧ jx_Ev d 133 138 lv (.int (M a x.toNatClampNeg) :: st) M Q)) ∧
  (∀ (d : Nat) (st : List Value) (M : jx_M) (Q : jx_Po) (l0 l1 l2 l3 l5 l6 l7 l8 l9 : Option Value) (x : Int32), jx_Ev d 133 138 [l0, l1, l2, l3, some (.int x), l5, l6, l7, l8, l9] st M Q ↔ jx_Ev d 133 140 [l0, l1, l2, l3, some (.int x), l5, l6, l7, l8, l9] (.int x :: st) M Q) ∧
  (∀ (d : Nat) (lv : List (Option Value)) (st : List Value) (M : jx_M) (Q : jx_Po) (x z : Int32), jx_Ev d 133 140 lv (.int z :: .int x :: st) M Q ↔ jx_Ev d 133 141 lv (.int (x - z) :: st) M Q) ∧
  (∀ (d : Nat) (lv : List (Option Value)) (st : List Value) (M : jx_M) (Q : jx_Po) (x z : Int32), jx_Ev d 133 141 lv (.int z :: .int x :: st) M Q ↔ (if x ≤ z then jx_Ev d 133 150 lv st M Q else jx_Ev d 133 144 lv st M Q)) ∧
  (∀ (d : Nat) (st : List Value) (M : jx_M) (Q : jx_Po) (l1 l2 l3 l4 l5 l6 l7 l8 l9 : Option Value) (x : Nat), jx_Ev d 133 144 [some (.ref x), l1, l2, l3, l4, l5, l6, l7, l8, l9] st M Q ↔ jx_Ev d 133 145 [some (.ref x), l1, l2, l3, l4, l5, l6, l7, l8, l9] (.ref x :: st) M Q) ∧
  (∀ (d : Nat) (lv : List (Option Value)) (st : List Value) (M : jx_M) (Q : jx_Po), jx_Ev d 133 145 lv st M Q ↔ jx_Ev d 133 146 lv (.int 3 :: st) M Q) ∧
  (∀ (d : Nat) (lv : List (Option Value)) (M : jx_M) (Q : jx_Po) (a0 : Int32), jx_Ev (d + 1) 133 146 lv [.int a0, .ref 36] M Q ↔ jx_I d 84 [.ref 36, .int a0] M (fun x M => jx_Ev (d + 1) 133 149 lv (.int x :: []) M Q)) ∧
  (∀ (d : Nat) (lv : List (Option Value)) (M : jx_M) (Q : jx_Po) (x : Int32), jx_Ev d 133 149 lv [.int x] M Q ↔ Q [.int x] M) ∧
  (∀ (d : Nat) (st : List Value) (M : jx_M) (Q : jx_Po) (l0 l1 l3 l4 l5 l6 l7 l8 l9 : Option Value) (x : Int32), jx_Ev d 133 150 [l0, l1, some (.int x), l3, l4, l5, l6, l7, l8, l9] st M Q ↔ jx_Ev d 133 151 [l0, l1, some (.int x), l3, l4, l5, l6, l7, l8, l9] (.int x :: st) M Q) ∧
  (∀ (d : Nat) (st : List Value) (M : jx_M) (Q : jx_Po) (l0 l1 l2 l3 l5 l6 l7 l8 l9 : Option Value) (x : Int32), jx_Ev d 133 151 [l0, l1, l2, l3, some (.int x), l5, l6, l7, l8, l9] st M Q ↔ jx_Ev d 133 153 [l0, l1, l2, l3, some (.int x), l5, l6, l7, l8, l9] (.int x :: st) M Q) ∧
  (∀ (d : Nat) (lv : List (Option Value)) (st : List Value) (M : jx_M) (Q : jx_Po) (x z : Int32), jx_Ev d 133 153 lv (.int z :: .int x :: st) M Q ↔ (if z ≤ x then jx_Ev d 133 160 lv st M Q else jx_Ev d 133 156 lv st M Q)) ∧
  (∀ (d : Nat) (lv : List (Option Value)) (st : List Value) (M : jx_M) (Q : jx_Po), jx_Ev d 133 156 lv st M Q ↔ jx_Ev d 133 157 lv (.int 1 :: st) M Q) ∧
  (∀ (d : Nat) (lv : List (Option Value)) (st : List Value) (M : jx_M) (Q : jx_Po), jx_Ev d 133 157 lv st M Q ↔ jx_Ev d 133 161 lv st M Q) ∧
  (∀ (d : Nat) (lv : List (Option Value)) (st : List Value) (M : jx_M) (Q : jx_Po), jx_Ev d 133 160 lv st M Q ↔ jx_Ev d 133 161 lv (.int 0 :: st) M Q) ∧
  (∀ (d : Nat) (st : List Value) (M : jx_M) (Q : jx_Po) (l0 l1 l2 l3 l4 l5 l6 l7 l8 l9 : Option Value) (x : Int32), jx_Ev d 133 161 [l0, l1, l2, l3, l4, l5, l6, l7, l8, l9] (.int x :: st) M Q ↔ jx_Ev d 133 163 [l0, l1, l2, l3, l4, l5, l6, some (.int x), l8, l9] st M Q) ∧
  (∀ (d : Nat) (lv : List (Option Value)) (st : List Value) (M : jx_M) (Q : jx_Po), jx_Ev d 133 163 lv st M Q ↔ jx_Ev d 133 164 lv (.int 0 :: st) M Q) ∧
  (∀ (d : Nat) (st : List Value) (M : jx_M) (Q : jx_Po) (l0 l1 l2 l3 l4 l5 l6 l7 l8 l9 : Option Value) (x : Int32), jx_Ev d 133 164 [l0, l1, l2, l3, l4, l5, l6, l7, l8, l9] (.int x :: st) M Q ↔ jx_Ev d 133 166 [l0, l1, l2, l3, l4, l5, l6, l7, some (.int x), l9] st M Q) ∧
  (∀ (d : Nat) (st : List Value) (M : jx_M) (Q : jx_Po) (l0 l1 l2 l3 l4 l6 l7 l8 l9 : Option Value) (x : Int32), jx_Ev d 133 168 [l0, l1, l2, l3, l4, some (.int x), l6, l7, l8, l9] st M Q ↔ jx_Ev d 133 170 [l0, l1, l2, l3, l4, some (.int x), l6, l7, l8, l9] (.int x :: st) M Q) ∧
  (∀ (d : Nat) (lv : List (Option Value)) (st : List Value) (M : jx_M) (Q : jx_Po) (x z : Int32), jx_Ev d 133 170 lv (.int z :: .int x :: st) M Q ↔ (if z ≤ x then jx_Ev d 133 227 lv st M Q else jx_Ev d 133 173 lv st M Q)) ∧
  (∀ (d : Nat) (st : List Value) (M : jx_M) (Q : jx_Po) (l0 l1 l2 l3 l4 l5 l6 l8 l9 : Option Value) (x : Int32), jx_Ev d 133 173 [l0, l1, l2, l3, l4, l5, l6, some (.int x), l8, l9] st M Q ↔ jx_Ev d 133 175 [l0, l1, l2, l3, l4, l5, l6, some (.int x), l8, l9] (.int x :: st) M Q) ∧
  (∀ (d : Nat) (lv : List (Option Value)) (st : List Value) (M : jx_M) (Q : jx_Po) (x : Int32), jx_Ev d 133 175 lv (.int x :: st) M Q ↔ (if x = 0 then jx_Ev d 133 188 lv st M Q else jx_Ev d 133 178 lv st M Q)) ∧
  (∀ (d : Nat) (st : List Value) (M : jx_M) (Q : jx_Po) (l0 l1 l2 l3 l4 l6 l7 l8 l9 : Option Value) (x : Int32), jx_Ev d 133 178 [l0, l1, l2, l3, l4, some (.int x), l6, l7, l8, l9] st M Q ↔ jx_Ev d 133 180 [l0, l1, l2, l3, l4, some (.int x), l6, l7, l8, l9] (.int x :: st) M Q) ∧
  (∀ (d : Nat) (lv : List (Option Value)) (st : List Value) (M : jx_M) (Q : jx_Po), jx_Ev d 133 180 lv st M Q ↔ jx_Ev d 133 181 lv (.int 1 :: st) M Q) ∧
  (∀ (d : Nat) (lv : List (Option Value)) (st : List Value) (M : jx_M) (Q : jx_Po) (x z : Int32), jx_Ev d 133 181 lv (.int z :: .int x :: st) M Q ↔ jx_Ev d 133 182 lv (.int (x - z) :: st) M Q) ∧
  (∀ (d : Nat) (st : List Value) (M : jx_M) (Q : jx_Po) (l0 l1 l2 l3 l4 l5 l6 l7 l9 : Option Value) (x : Int32), jx_Ev d 133 182 [l0, l1, l2, l3, l4, l5, l6, l7, some (.int x), l9] st M Q ↔ jx_Ev d 133 184 [l0, l1, l2, l3, l4, l5, l6, l7, some (.int x), l9] (.int x :: st) M Q) ∧
  (∀ (d : Nat) (lv : List (Option Value)) (st : List Value) (M : jx_M) (Q : jx_Po) (x z : Int32), jx_Ev d 133 184 lv (.int z :: .int x :: st) M Q ↔ jx_Ev d 133 185 lv (.int (x - z) :: st) M Q) ∧
  (∀ (d : Nat) (lv : List (Option Value)) (st : List Value) (M : jx_M) (Q : jx_Po), jx_Ev d 133 185 lv st M Q ↔ jx_Ev d 133 190 lv st M Q) ∧
  (∀ (d : Nat) (st : List Value) (M : jx_M) (Q : jx_Po) (l0 l1 l2 l3 l4 l5 l6 l7 l9 : Option Value) (x : Int32), jx_Ev d 133 188 [l0, l1, l2, l3, l4, l5, l6, l7, some (.int x), l9] st M Q ↔ jx_Ev d 133 190 [l0, l1, l2, l3, l4, l5, l6, l7, some (.int x), l9] (.int x :: st) M Q) ∧
  (∀ (d : Nat) (st : List Value) (M : jx_M) (Q : jx_Po) (l0 l1 l2 l3 l4 l5 l6 l7 l8 l9 : Option Value) (x : Int32), jx_Ev d 133 190 [l0, l1, l2, l3, l4, l5, l6, l7, l8, l9] (.int x :: st) M Q ↔ jx_Ev d 133 192 [l0, l1, l2, l3, l4, l5, l6, l7, l8, some (.int x)] st M Q) ∧
  (∀ (d : Nat) (st : List Value) (M : jx_M) (Q : jx_Po) (l1 l2 l3 l4 l5 l6 l7 l8 l9 : Option Value) (x : Nat), jx_Ev d 133 192 [some (.ref x), l1, l2, l3, l4, l5, l6, l7, l8, l9] st M Q ↔ jx_Ev d 133 193 [some (.ref x), l1, l2, l3, l4, l5, l6, l7, l8, l9] (.ref x :: st) M Q) ∧
  (∀ (d : Nat) (lv : List (Option Value)) (st : List Value) (M : jx_M) (Q : jx_Po), jx_Ev d 133 193 lv (.ref 36 :: st) M Q ↔ jx_Ev d 133 196 lv (.ref 39 :: st) M Q) ∧
  (∀ (d : Nat) (lv : List (Option Value)) (st : List Value) (M : jx_M) (Q : jx_Po), jx_Ev d 133 196 lv st M Q ↔ jx_Ev d 133 198 lv (.int 60 :: st) M Q) ∧
  (∀ (d : Nat) (st : List Value) (M : jx_M) (Q : jx_Po) (l0 l1 l2 l4 l5 l6 l7 l8 l9 : Option Value) (x : Int32), jx_Ev d 133 198 [l0, l1, l2, some (.int x), l4, l5, l6, l7, l8, l9] st M Q ↔ jx_Ev d 133 199 [l0, l1, l2, some (.int x), l4, l5, l6, l7, l8, l9] (.int x :: st) M Q) ∧
  (∀ (d : Nat) (lv : List (Option Value)) (st : List Value) (M : jx_M) (Q : jx_Po) (x z : Int32), jx_Ev d 133 199 lv (.int z :: .int x :: st) M Q ↔ jx_Ev d 133 200 lv (.int (x * z) :: st) M Q) ∧
  (∀ (d : Nat) (st : List Value) (M : jx_M) (Q : jx_Po) (l0 l1 l2 l3 l5 l6 l7 l8 l9 : Option Value) (x : Int32), jx_Ev d 133 200 [l0, l1, l2, l3, some (.int x), l5, l6, l7, l8, l9] st M Q ↔ jx_Ev d 133 202 [l0, l1, l2, l3, some (.int x), l5, l6, l7, l8, l9] (.int x :: st) M Q) ∧
  (∀ (d : Nat) (lv : List (Option Value)) (st : List Value) (M : jx_M) (Q : jx_Po) (x z : Int32), jx_Ev d 133 202 lv (.int z :: .int x :: st) M Q ↔ jx_Ev d 133 203 lv (.int (x + z) :: st) M Q) ∧
  (∀ (d : Nat) (st : List Value) (M : jx_M) (Q : jx_Po) (l0 l1 l2 l3 l4 l5 l6 l7 l8 : Option Value) (x : Int32), jx_Ev d 133 203 [l0, l1, l2, l3, l4, l5, l6, l7, l8, some (.int x)] st M Q ↔ jx_Ev d 133 205 [l0, l1, l2, l3, l4, l5, l6, l7, l8, some (.int x)] (.int x :: st) M Q) ∧
  (∀ (d : Nat) (lv : List (Option Value)) (st : List Value) (M : jx_M) (Q : jx_Po) (x z : Int32), jx_Ev d 133 205 lv (.int z :: .int x :: st) M Q ↔ jx_Ev d 133 206 lv (.int (x + z) :: st) M Q) ∧
  (∀ (d : Nat) (st : List Value) (M : jx_M) (Q : jx_Po) (l1 l2 l3 l4 l5 l6 l7 l8 l9 : Option Value) (x : Nat), jx_Ev d 133 206 [some (.ref x), l1, l2, l3, l4, l5, l6, l7, l8, l9] st M Q ↔ jx_Ev d 133 207 [some (.ref x), l1, l2, l3, l4, l5, l6, l7, l8, l9] (.ref x :: st) M Q) ∧
  (∀ (d : Nat) (lv : List (Option Value)) (st : List Value) (M : jx_M) (Q : jx_Po), jx_Ev d 133 207 lv (.ref 36 :: st) M Q ↔ jx_Ev d 133 210 lv (.ref 39 :: st) M Q) ∧
  (∀ (d : Nat) (lv : List (Option Value)) (st : List Value) (M : jx_M) (Q : jx_Po), jx_Ev d 133 210 lv st M Q ↔ jx_Ev d 133 212 lv (.int 60 :: st) M Q) ∧
  (∀ (d : Nat) (st : List Value) (M : jx_M) (Q : jx_Po) (l0 l2 l3 l4 l5 l6 l7 l8 l9 : Option Value) (x : Int32), jx_Ev d 133 212 [l0, some (.int x), l2, l3, l4, l5, l6, l7, l8, l9] st M Q ↔ jx_Ev d 133 213 [l0, some (.int x), l2, l3, l4, l5, l6, l7, l8, l9] (.int x :: st) M Q) ∧
  (∀ (d : Nat) (lv : List (Option Value)) (st : List Value) (M : jx_M) (Q : jx_Po) (x z : Int32), jx_Ev d 133 213 lv (.int z :: .int x :: st) M Q ↔ jx_Ev d 133 214 lv (.int (x * z) :: st) M Q) ∧
  (∀ (d : Nat) (st : List Value) (M : jx_M) (Q : jx_Po) (l0 l1 l3 l4 l5 l6 l7 l8 l9 : Option Value) (x : Int32), jx_Ev d 133 214 [l0, l1, some (.int x), l3, l4, l5, l6, l7, l8, l9] st M Q ↔ jx_Ev d 133 215 [l0, l1, some (.int x), l3, l4, l5, l6, l7, l8, l9] (.int x :: st) M Q) ∧
  (∀ (d : Nat) (lv : List (Option Value)) (st : List Value) (M : jx_M) (Q : jx_Po) (x z : Int32), jx_Ev d 133 215 lv (.int z :: .int x :: st) M Q ↔ jx_Ev d 133 216 lv (.int (x + z) :: st) M Q) ∧
  (∀ (d : Nat) (st : List Value) (M : jx_M) (Q : jx_Po) (l0 l1 l2 l3 l4 l5 l6 l7 l8 : Option Value) (x : Int32), jx_Ev d 133 216 [l0, l1, l2, l3, l4, l5, l6, l7, l8, some (.int x)] st M Q ↔ jx_Ev d 133 218 [l0, l1, l2, l3, l4, l5, l6, l7, l8, some (.int x)] (.int x :: st) M Q) ∧
  (∀ (d : Nat) (lv : List (Option Value)) (st : List Value) (M : jx_M) (Q : jx_Po) (x z : Int32), jx_Ev d 133 218 lv (.int z :: .int x :: st) M Q ↔ jx_Ev d 133 219 lv (.int (x + z) :: st) M Q) ∧
  (∀ (d : Nat) (lv : List (Option Value)) (st : List Value) (M : jx_M) (Q : jx_Po) (x : Int32) (a : Nat) (ha : jx_cl a = 9), jx_Ev d 133 219 lv (.int x :: .ref a :: st) M Q ↔ (vp_in x (jx_sz a) ∧ jx_Ev d 133 220 lv (.int (M a x.toNatClampNeg) :: st) M Q)) ∧
  (∀ (d : Nat) (lv : List (Option Value)) (st : List Value) (M : jx_M) (Q : jx_Po) (x z : Int32) (a : Nat) (ha : jx_cl a = 9), jx_Ev d 133 220 lv (.int z :: .int x :: .ref a :: st) M Q ↔ (vp_in x (jx_sz a) ∧ jx_Ev d 133 221 lv st (jx_up M a x.toNatClampNeg z) Q)) ∧
  (∀ (d : Nat) (st : List Value) (M : jx_M) (Q : jx_Po) (l0 l1 l2 l3 l4 l5 l6 l7 l9 : Option Value) (x : Int32), jx_Ev d 133 221 [l0, l1, l2, l3, l4, l5, l6, l7, some (.int x), l9] st M Q ↔ jx_Ev d 133 224 [l0, l1, l2, l3, l4, l5, l6, l7, some (.int (x + 1)), l9] st M Q) ∧
  (∀ (d : Nat) (lv : List (Option Value)) (st : List Value) (M : jx_M) (Q : jx_Po), jx_Ev d 133 224 lv st M Q ↔ jx_Ev d 133 166 lv st M Q) ∧
  (∀ (d : Nat) (st : List Value) (M : jx_M) (Q : jx_Po) (l0 l1 l2 l3 l4 l6 l7 l8 l9 : Option Value) (x : Int32), jx_Ev d 133 227 [l0, l1, l2, l3, l4, some (.int x), l6, l7, l8, l9] st M Q ↔ jx_Ev d 133 229 [l0, l1, l2, l3, l4, some (.int x), l6, l7, l8, l9] (.int x :: st) M Q) ∧
  (∀ (d : Nat) (lv : List (Option Value)) (M : jx_M) (Q : jx_Po) (x : Int32), jx_Ev d 133 229 lv [.int x] M Q ↔ Q [.int x] M) := by
  refine ⟨?_, ?_, ?_, ?_, ?_, ?_, ?_, ?_, ?_, ?_, ?_, ?_, ?_, ?_, ?_, ?_, ?_, ?_, ?_, ?_, ?_, ?_, ?_, ?_, ?_, ?_, ?_, ?_, ?_, ?_, ?_, ?_, ?_, ?_, ?_, ?_, ?_, ?_, ?_, ?_, ?_, ?_, ?_, ?_, ?_, ?_, ?_, ?_, ?_, ?_, ?_, ?_, ?_, ?_, ?_, ?_, ?_, ?_, ?_, ?_, ?_, ?_, ?_, ?_, ?_, ?_, ?_, ?_, ?_, ?_, ?_, ?_, ?_, ?_, ?_, ?_, ?_, ?_, ?_, ?_, ?_, ?_, ?_, ?_, ?_, ?_, ?_, ?_, ?_, ?_, ?_, ?_, ?_, ?_, ?_, ?_, ?_, ?_, ?_, ?_, ?_, ?_, ?_, ?_, ?_, ?_, ?_, ?_, ?_, ?_, ?_, ?_, ?_, ?_, ?_, ?_, ?_, ?_, ?_, ?_, ?_, ?_, ?_, ?_, ?_, ?_, ?_, ?_, ?_⟩
  · exact fun d st M Q l1 l2 l3 l4 l5 l6 l7 l8 l9 x => jx_ev_st (jx_fok (by decide +kernel : decode (jx_mb 133) 0 = .ok (.aload_n 0, 1))) rfl rfl rfl
  · exact fun d lv st M Q => jx_ev_st (jx_fok (by decide +kernel : decode (jx_mb 133) 1 = .ok (.iconst 0, 1))) rfl rfl rfl
  · exact fun d lv st M Q x => jx_k_pf0 (jx_fok (by decide +kernel : decode (jx_mb 133) 2 = .ok (.putfield 67, 3))) rfl rfl rfl
  · exact fun d st M Q l0 l2 l3 l4 l5 l6 l7 l8 l9 x => jx_ev_st (jx_fok (by decide +kernel : decode (jx_mb 133) 5 = .ok (.iload_n 1, 1))) rfl rfl rfl
  · exact fun d lv M Q a0 => jx_ev_ci (jx_fok (by decide +kernel : decode (jx_mb 133) 6 = .ok (.invokestatic 86, 3))) rfl (jx_ccS (As := [.int a0]) (rest := []) rfl rfl rfl rfl rfl) (by decide)
  · exact fun d lv st M Q x => jx_k_b1 (jx_fok (by decide +kernel : decode (jx_mb 133) 9 = .ok (.ifCond .eq 10, 3))) rfl jx_hEq
  · exact fun d st M Q l0 l1 l2 l4 l5 l6 l7 l8 l9 x => jx_ev_st (jx_fok (by decide +kernel : decode (jx_mb 133) 12 = .ok (.iload_n 3, 1))) rfl rfl rfl
  · exact fun d lv M Q a0 => jx_ev_ci (jx_fok (by decide +kernel : decode (jx_mb 133) 13 = .ok (.invokestatic 86, 3))) rfl (jx_ccS (As := [.int a0]) (rest := []) rfl rfl rfl rfl rfl) (by decide)
  · exact fun d lv st M Q x => jx_k_b1n (jx_fok (by decide +kernel : decode (jx_mb 133) 16 = .ok (.ifCond .ne 5, 3))) rfl jx_hNe
  · exact fun d lv st M Q => jx_ev_st (jx_fok (by decide +kernel : decode (jx_mb 133) 19 = .ok (.iconst (-1), 1))) rfl rfl rfl
  · exact fun d lv M Q x => jx_k_ri (jx_fok (by decide +kernel : decode (jx_mb 133) 20 = .ok (.ireturn, 1))) rfl
  · exact fun d st M Q l1 l2 l3 l4 l5 l6 l7 l8 l9 x => jx_ev_st (jx_fok (by decide +kernel : decode (jx_mb 133) 21 = .ok (.aload_n 0, 1))) rfl rfl rfl
  · exact fun d lv st M Q => jx_k_gf (jx_fok (by decide +kernel : decode (jx_mb 133) 22 = .ok (.getfield 9, 3))) rfl rfl rfl
  · exact fun d st M Q l0 l2 l3 l4 l5 l6 l7 l8 l9 x => jx_ev_st (jx_fok (by decide +kernel : decode (jx_mb 133) 25 = .ok (.iload_n 1, 1))) rfl rfl rfl
  · exact fun d lv st M Q x a ha => jx_k_al (jx_fok (by decide +kernel : decode (jx_mb 133) 26 = .ok (.iaload, 1))) ha
  · exact fun d lv st M Q => jx_ev_st (jx_fok (by decide +kernel : decode (jx_mb 133) 27 = .ok (.bipush (-9), 2))) rfl rfl rfl
  · exact fun d lv st M Q x z => jx_k_b2 (jx_fok (by decide +kernel : decode (jx_mb 133) 29 = .ok (.if_icmp .eq 14, 3))) rfl jx_hEq
  · exact fun d st M Q l1 l2 l3 l4 l5 l6 l7 l8 l9 x => jx_ev_st (jx_fok (by decide +kernel : decode (jx_mb 133) 32 = .ok (.aload_n 0, 1))) rfl rfl rfl
  · exact fun d lv st M Q => jx_k_gf (jx_fok (by decide +kernel : decode (jx_mb 133) 33 = .ok (.getfield 9, 3))) rfl rfl rfl
  · exact fun d st M Q l0 l1 l2 l4 l5 l6 l7 l8 l9 x => jx_ev_st (jx_fok (by decide +kernel : decode (jx_mb 133) 36 = .ok (.iload_n 3, 1))) rfl rfl rfl
  · exact fun d lv st M Q x a ha => jx_k_al (jx_fok (by decide +kernel : decode (jx_mb 133) 37 = .ok (.iaload, 1))) ha
  · exact fun d lv st M Q => jx_ev_st (jx_fok (by decide +kernel : decode (jx_mb 133) 38 = .ok (.bipush (-9), 2))) rfl rfl rfl
  · exact fun d lv st M Q x z => jx_k_b2n (jx_fok (by decide +kernel : decode (jx_mb 133) 40 = .ok (.if_icmp .ne 9, 3))) rfl jx_hNe
  · exact fun d st M Q l1 l2 l3 l4 l5 l6 l7 l8 l9 x => jx_ev_st (jx_fok (by decide +kernel : decode (jx_mb 133) 43 = .ok (.aload_n 0, 1))) rfl rfl rfl
  · exact fun d lv st M Q => jx_ev_st (jx_fok (by decide +kernel : decode (jx_mb 133) 44 = .ok (.iconst 1, 1))) rfl rfl rfl
  · exact fun d lv M Q a0 => jx_ev_ci (jx_fok (by decide +kernel : decode (jx_mb 133) 45 = .ok (.invokevirtual 97, 3))) rfl (jx_ccV (As := [.int a0]) (rest := []) rfl rfl rfl rfl rfl rfl) (by decide)
  · exact fun d lv M Q x => jx_k_ri (jx_fok (by decide +kernel : decode (jx_mb 133) 48 = .ok (.ireturn, 1))) rfl
  · exact fun d st M Q l1 l2 l3 l4 l5 l6 l7 l8 l9 x => jx_ev_st (jx_fok (by decide +kernel : decode (jx_mb 133) 49 = .ok (.aload_n 0, 1))) rfl rfl rfl
  · exact fun d lv st M Q => jx_k_gf (jx_fok (by decide +kernel : decode (jx_mb 133) 50 = .ok (.getfield 9, 3))) rfl rfl rfl
  · exact fun d st M Q l0 l2 l3 l4 l5 l6 l7 l8 l9 x => jx_ev_st (jx_fok (by decide +kernel : decode (jx_mb 133) 53 = .ok (.iload_n 1, 1))) rfl rfl rfl
  · exact fun d lv st M Q x a ha => jx_k_al (jx_fok (by decide +kernel : decode (jx_mb 133) 54 = .ok (.iaload, 1))) ha
  · exact fun d st M Q l1 l2 l3 l4 l5 l6 l7 l8 l9 x => jx_ev_st (jx_fok (by decide +kernel : decode (jx_mb 133) 55 = .ok (.aload_n 0, 1))) rfl rfl rfl
  · exact fun d lv st M Q => jx_k_gf (jx_fok (by decide +kernel : decode (jx_mb 133) 56 = .ok (.getfield 9, 3))) rfl rfl rfl
  · exact fun d st M Q l0 l1 l2 l4 l5 l6 l7 l8 l9 x => jx_ev_st (jx_fok (by decide +kernel : decode (jx_mb 133) 59 = .ok (.iload_n 3, 1))) rfl rfl rfl
  · exact fun d lv st M Q x a ha => jx_k_al (jx_fok (by decide +kernel : decode (jx_mb 133) 60 = .ok (.iaload, 1))) ha
  · exact fun d lv st M Q x z => jx_k_b2 (jx_fok (by decide +kernel : decode (jx_mb 133) 61 = .ok (.if_icmp .eq 9, 3))) rfl jx_hEq
  · exact fun d st M Q l1 l2 l3 l4 l5 l6 l7 l8 l9 x => jx_ev_st (jx_fok (by decide +kernel : decode (jx_mb 133) 64 = .ok (.aload_n 0, 1))) rfl rfl rfl
  · exact fun d lv st M Q => jx_ev_st (jx_fok (by decide +kernel : decode (jx_mb 133) 65 = .ok (.iconst 2, 1))) rfl rfl rfl
  · exact fun d lv M Q a0 => jx_ev_ci (jx_fok (by decide +kernel : decode (jx_mb 133) 66 = .ok (.invokevirtual 97, 3))) rfl (jx_ccV (As := [.int a0]) (rest := []) rfl rfl rfl rfl rfl rfl) (by decide)
  · exact fun d lv M Q x => jx_k_ri (jx_fok (by decide +kernel : decode (jx_mb 133) 69 = .ok (.ireturn, 1))) rfl
  · exact fun d st M Q l0 l1 l3 l4 l5 l6 l7 l8 l9 x => jx_ev_st (jx_fok (by decide +kernel : decode (jx_mb 133) 70 = .ok (.iload_n 2, 1))) rfl rfl rfl
  · exact fun d lv st M Q x => jx_k_b1 (jx_fok (by decide +kernel : decode (jx_mb 133) 71 = .ok (.ifCond .lt 38, 3))) rfl jx_hLt
  · exact fun d st M Q l0 l1 l2 l3 l5 l6 l7 l8 l9 x => jx_ev_st (jx_fok (by decide +kernel : decode (jx_mb 133) 74 = .ok (.iload 4, 2))) rfl rfl rfl
  · exact fun d lv st M Q x => jx_k_b1 (jx_fok (by decide +kernel : decode (jx_mb 133) 76 = .ok (.ifCond .lt 33, 3))) rfl jx_hLt
  · exact fun d st M Q l0 l1 l2 l3 l4 l6 l7 l8 l9 x => jx_ev_st (jx_fok (by decide +kernel : decode (jx_mb 133) 79 = .ok (.iload 5, 2))) rfl rfl rfl
  · exact fun d lv st M Q x => jx_k_b1 (jx_fok (by decide +kernel : decode (jx_mb 133) 81 = .ok (.ifCond .lt 28, 3))) rfl jx_hLt
  · exact fun d st M Q l0 l1 l3 l4 l5 l6 l7 l8 l9 x => jx_ev_st (jx_fok (by decide +kernel : decode (jx_mb 133) 84 = .ok (.iload_n 2, 1))) rfl rfl rfl
  · exact fun d st M Q l1 l2 l3 l4 l5 l6 l7 l8 l9 x => jx_ev_st (jx_fok (by decide +kernel : decode (jx_mb 133) 85 = .ok (.aload_n 0, 1))) rfl rfl rfl
  · exact fun d lv st M Q => jx_k_gf (jx_fok (by decide +kernel : decode (jx_mb 133) 86 = .ok (.getfield 13, 3))) rfl rfl rfl
  · exact fun d st M Q l0 l2 l3 l4 l5 l6 l7 l8 l9 x => jx_ev_st (jx_fok (by decide +kernel : decode (jx_mb 133) 89 = .ok (.iload_n 1, 1))) rfl rfl rfl
  · exact fun d lv st M Q x a ha => jx_k_al (jx_fok (by decide +kernel : decode (jx_mb 133) 90 = .ok (.iaload, 1))) ha
  · exact fun d lv st M Q x z => jx_k_b2 (jx_fok (by decide +kernel : decode (jx_mb 133) 91 = .ok (.if_icmp .gt 18, 3))) rfl jx_hGt
  · exact fun d st M Q l0 l1 l2 l3 l5 l6 l7 l8 l9 x => jx_ev_st (jx_fok (by decide +kernel : decode (jx_mb 133) 94 = .ok (.iload 4, 2))) rfl rfl rfl
  · exact fun d st M Q l1 l2 l3 l4 l5 l6 l7 l8 l9 x => jx_ev_st (jx_fok (by decide +kernel : decode (jx_mb 133) 96 = .ok (.aload_n 0, 1))) rfl rfl rfl
  · exact fun d lv st M Q => jx_k_gf (jx_fok (by decide +kernel : decode (jx_mb 133) 97 = .ok (.getfield 13, 3))) rfl rfl rfl
  · exact fun d st M Q l0 l1 l2 l4 l5 l6 l7 l8 l9 x => jx_ev_st (jx_fok (by decide +kernel : decode (jx_mb 133) 100 = .ok (.iload_n 3, 1))) rfl rfl rfl
  · exact fun d lv st M Q x a ha => jx_k_al (jx_fok (by decide +kernel : decode (jx_mb 133) 101 = .ok (.iaload, 1))) ha
  · exact fun d lv st M Q x z => jx_k_b2 (jx_fok (by decide +kernel : decode (jx_mb 133) 102 = .ok (.if_icmp .gt 7, 3))) rfl jx_hGt
  · exact fun d lv st M Q => jx_ev_st (jx_fok (by decide +kernel : decode (jx_mb 133) 105 = .ok (.iconst 1, 1))) rfl rfl rfl
  · exact fun d lv st M Q => jx_k_goto (jx_fok (by decide +kernel : decode (jx_mb 133) 106 = .ok (.goto 4, 3))) rfl
  · exact fun d lv st M Q => jx_ev_st (jx_fok (by decide +kernel : decode (jx_mb 133) 109 = .ok (.iconst 0, 1))) rfl rfl rfl
  · exact fun d st M Q l0 l1 l2 l3 l4 l5 l6 l7 l8 l9 x => jx_ev_st (jx_fok (by decide +kernel : decode (jx_mb 133) 110 = .ok (.istore 6, 2))) rfl rfl rfl
  · exact fun d st M Q l0 l1 l2 l3 l4 l5 l7 l8 l9 x => jx_ev_st (jx_fok (by decide +kernel : decode (jx_mb 133) 112 = .ok (.iload 6, 2))) rfl rfl rfl
  · exact fun d lv st M Q x => jx_k_b1 (jx_fok (by decide +kernel : decode (jx_mb 133) 114 = .ok (.ifCond .eq 30, 3))) rfl jx_hEq
  · exact fun d st M Q l0 l1 l2 l3 l4 l6 l7 l8 l9 x => jx_ev_st (jx_fok (by decide +kernel : decode (jx_mb 133) 117 = .ok (.iload 5, 2))) rfl rfl rfl
  · exact fun d st M Q l1 l2 l3 l4 l5 l6 l7 l8 l9 x => jx_ev_st (jx_fok (by decide +kernel : decode (jx_mb 133) 119 = .ok (.aload_n 0, 1))) rfl rfl rfl
  · exact fun d lv st M Q => jx_k_gf (jx_fok (by decide +kernel : decode (jx_mb 133) 120 = .ok (.getfield 13, 3))) rfl rfl rfl
  · exact fun d st M Q l0 l2 l3 l4 l5 l6 l7 l8 l9 x => jx_ev_st (jx_fok (by decide +kernel : decode (jx_mb 133) 123 = .ok (.iload_n 1, 1))) rfl rfl rfl
  · exact fun d lv st M Q x a ha => jx_k_al (jx_fok (by decide +kernel : decode (jx_mb 133) 124 = .ok (.iaload, 1))) ha
  · exact fun d st M Q l0 l1 l3 l4 l5 l6 l7 l8 l9 x => jx_ev_st (jx_fok (by decide +kernel : decode (jx_mb 133) 125 = .ok (.iload_n 2, 1))) rfl rfl rfl
  · exact fun d lv st M Q x z => jx_ev_st (jx_fok (by decide +kernel : decode (jx_mb 133) 126 = .ok (.isub, 1))) rfl rfl rfl
  · exact fun d lv st M Q x z => jx_k_b2 (jx_fok (by decide +kernel : decode (jx_mb 133) 127 = .ok (.if_icmp .gt 17, 3))) rfl jx_hGt
  · exact fun d st M Q l0 l1 l2 l3 l4 l6 l7 l8 l9 x => jx_ev_st (jx_fok (by decide +kernel : decode (jx_mb 133) 130 = .ok (.iload 5, 2))) rfl rfl rfl
  · exact fun d st M Q l1 l2 l3 l4 l5 l6 l7 l8 l9 x => jx_ev_st (jx_fok (by decide +kernel : decode (jx_mb 133) 132 = .ok (.aload_n 0, 1))) rfl rfl rfl
  · exact fun d lv st M Q => jx_k_gf (jx_fok (by decide +kernel : decode (jx_mb 133) 133 = .ok (.getfield 13, 3))) rfl rfl rfl
  · exact fun d st M Q l0 l1 l2 l4 l5 l6 l7 l8 l9 x => jx_ev_st (jx_fok (by decide +kernel : decode (jx_mb 133) 136 = .ok (.iload_n 3, 1))) rfl rfl rfl
  · exact fun d lv st M Q x a ha => jx_k_al (jx_fok (by decide +kernel : decode (jx_mb 133) 137 = .ok (.iaload, 1))) ha
  · exact fun d st M Q l0 l1 l2 l3 l5 l6 l7 l8 l9 x => jx_ev_st (jx_fok (by decide +kernel : decode (jx_mb 133) 138 = .ok (.iload 4, 2))) rfl rfl rfl
  · exact fun d lv st M Q x z => jx_ev_st (jx_fok (by decide +kernel : decode (jx_mb 133) 140 = .ok (.isub, 1))) rfl rfl rfl
  · exact fun d lv st M Q x z => jx_k_b2 (jx_fok (by decide +kernel : decode (jx_mb 133) 141 = .ok (.if_icmp .le 9, 3))) rfl jx_hLe
  · exact fun d st M Q l1 l2 l3 l4 l5 l6 l7 l8 l9 x => jx_ev_st (jx_fok (by decide +kernel : decode (jx_mb 133) 144 = .ok (.aload_n 0, 1))) rfl rfl rfl
  · exact fun d lv st M Q => jx_ev_st (jx_fok (by decide +kernel : decode (jx_mb 133) 145 = .ok (.iconst 3, 1))) rfl rfl rfl
  · exact fun d lv M Q a0 => jx_ev_ci (jx_fok (by decide +kernel : decode (jx_mb 133) 146 = .ok (.invokevirtual 97, 3))) rfl (jx_ccV (As := [.int a0]) (rest := []) rfl rfl rfl rfl rfl rfl) (by decide)
  · exact fun d lv M Q x => jx_k_ri (jx_fok (by decide +kernel : decode (jx_mb 133) 149 = .ok (.ireturn, 1))) rfl
  · exact fun d st M Q l0 l1 l3 l4 l5 l6 l7 l8 l9 x => jx_ev_st (jx_fok (by decide +kernel : decode (jx_mb 133) 150 = .ok (.iload_n 2, 1))) rfl rfl rfl
  · exact fun d st M Q l0 l1 l2 l3 l5 l6 l7 l8 l9 x => jx_ev_st (jx_fok (by decide +kernel : decode (jx_mb 133) 151 = .ok (.iload 4, 2))) rfl rfl rfl
  · exact fun d lv st M Q x z => jx_k_b2 (jx_fok (by decide +kernel : decode (jx_mb 133) 153 = .ok (.if_icmp .ge 7, 3))) rfl jx_hGe
  · exact fun d lv st M Q => jx_ev_st (jx_fok (by decide +kernel : decode (jx_mb 133) 156 = .ok (.iconst 1, 1))) rfl rfl rfl
  · exact fun d lv st M Q => jx_k_goto (jx_fok (by decide +kernel : decode (jx_mb 133) 157 = .ok (.goto 4, 3))) rfl
  · exact fun d lv st M Q => jx_ev_st (jx_fok (by decide +kernel : decode (jx_mb 133) 160 = .ok (.iconst 0, 1))) rfl rfl rfl
  · exact fun d st M Q l0 l1 l2 l3 l4 l5 l6 l7 l8 l9 x => jx_ev_st (jx_fok (by decide +kernel : decode (jx_mb 133) 161 = .ok (.istore 7, 2))) rfl rfl rfl
  · exact fun d lv st M Q => jx_ev_st (jx_fok (by decide +kernel : decode (jx_mb 133) 163 = .ok (.iconst 0, 1))) rfl rfl rfl
  · exact fun d st M Q l0 l1 l2 l3 l4 l5 l6 l7 l8 l9 x => jx_ev_st (jx_fok (by decide +kernel : decode (jx_mb 133) 164 = .ok (.istore 8, 2))) rfl rfl rfl
  · exact fun d st M Q l0 l1 l2 l3 l4 l6 l7 l8 l9 x => jx_ev_st (jx_fok (by decide +kernel : decode (jx_mb 133) 168 = .ok (.iload 5, 2))) rfl rfl rfl
  · exact fun d lv st M Q x z => jx_k_b2 (jx_fok (by decide +kernel : decode (jx_mb 133) 170 = .ok (.if_icmp .ge 57, 3))) rfl jx_hGe
  · exact fun d st M Q l0 l1 l2 l3 l4 l5 l6 l8 l9 x => jx_ev_st (jx_fok (by decide +kernel : decode (jx_mb 133) 173 = .ok (.iload 7, 2))) rfl rfl rfl
  · exact fun d lv st M Q x => jx_k_b1 (jx_fok (by decide +kernel : decode (jx_mb 133) 175 = .ok (.ifCond .eq 13, 3))) rfl jx_hEq
  · exact fun d st M Q l0 l1 l2 l3 l4 l6 l7 l8 l9 x => jx_ev_st (jx_fok (by decide +kernel : decode (jx_mb 133) 178 = .ok (.iload 5, 2))) rfl rfl rfl
  · exact fun d lv st M Q => jx_ev_st (jx_fok (by decide +kernel : decode (jx_mb 133) 180 = .ok (.iconst 1, 1))) rfl rfl rfl
  · exact fun d lv st M Q x z => jx_ev_st (jx_fok (by decide +kernel : decode (jx_mb 133) 181 = .ok (.isub, 1))) rfl rfl rfl
  · exact fun d st M Q l0 l1 l2 l3 l4 l5 l6 l7 l9 x => jx_ev_st (jx_fok (by decide +kernel : decode (jx_mb 133) 182 = .ok (.iload 8, 2))) rfl rfl rfl
  · exact fun d lv st M Q x z => jx_ev_st (jx_fok (by decide +kernel : decode (jx_mb 133) 184 = .ok (.isub, 1))) rfl rfl rfl
  · exact fun d lv st M Q => jx_k_goto (jx_fok (by decide +kernel : decode (jx_mb 133) 185 = .ok (.goto 5, 3))) rfl
  · exact fun d st M Q l0 l1 l2 l3 l4 l5 l6 l7 l9 x => jx_ev_st (jx_fok (by decide +kernel : decode (jx_mb 133) 188 = .ok (.iload 8, 2))) rfl rfl rfl
  · exact fun d st M Q l0 l1 l2 l3 l4 l5 l6 l7 l8 l9 x => jx_ev_st (jx_fok (by decide +kernel : decode (jx_mb 133) 190 = .ok (.istore 9, 2))) rfl rfl rfl
  · exact fun d st M Q l1 l2 l3 l4 l5 l6 l7 l8 l9 x => jx_ev_st (jx_fok (by decide +kernel : decode (jx_mb 133) 192 = .ok (.aload_n 0, 1))) rfl rfl rfl
  · exact fun d lv st M Q => jx_k_gf (jx_fok (by decide +kernel : decode (jx_mb 133) 193 = .ok (.getfield 16, 3))) rfl rfl rfl
  · exact fun d lv st M Q => jx_ev_st (jx_fok (by decide +kernel : decode (jx_mb 133) 196 = .ok (.bipush 60, 2))) rfl rfl rfl
  · exact fun d st M Q l0 l1 l2 l4 l5 l6 l7 l8 l9 x => jx_ev_st (jx_fok (by decide +kernel : decode (jx_mb 133) 198 = .ok (.iload_n 3, 1))) rfl rfl rfl
  · exact fun d lv st M Q x z => jx_ev_st (jx_fok (by decide +kernel : decode (jx_mb 133) 199 = .ok (.imul, 1))) rfl rfl rfl
  · exact fun d st M Q l0 l1 l2 l3 l5 l6 l7 l8 l9 x => jx_ev_st (jx_fok (by decide +kernel : decode (jx_mb 133) 200 = .ok (.iload 4, 2))) rfl rfl rfl
  · exact fun d lv st M Q x z => jx_ev_st (jx_fok (by decide +kernel : decode (jx_mb 133) 202 = .ok (.iadd, 1))) rfl rfl rfl
  · exact fun d st M Q l0 l1 l2 l3 l4 l5 l6 l7 l8 x => jx_ev_st (jx_fok (by decide +kernel : decode (jx_mb 133) 203 = .ok (.iload 9, 2))) rfl rfl rfl
  · exact fun d lv st M Q x z => jx_ev_st (jx_fok (by decide +kernel : decode (jx_mb 133) 205 = .ok (.iadd, 1))) rfl rfl rfl
  · exact fun d st M Q l1 l2 l3 l4 l5 l6 l7 l8 l9 x => jx_ev_st (jx_fok (by decide +kernel : decode (jx_mb 133) 206 = .ok (.aload_n 0, 1))) rfl rfl rfl
  · exact fun d lv st M Q => jx_k_gf (jx_fok (by decide +kernel : decode (jx_mb 133) 207 = .ok (.getfield 16, 3))) rfl rfl rfl
  · exact fun d lv st M Q => jx_ev_st (jx_fok (by decide +kernel : decode (jx_mb 133) 210 = .ok (.bipush 60, 2))) rfl rfl rfl
  · exact fun d st M Q l0 l2 l3 l4 l5 l6 l7 l8 l9 x => jx_ev_st (jx_fok (by decide +kernel : decode (jx_mb 133) 212 = .ok (.iload_n 1, 1))) rfl rfl rfl
  · exact fun d lv st M Q x z => jx_ev_st (jx_fok (by decide +kernel : decode (jx_mb 133) 213 = .ok (.imul, 1))) rfl rfl rfl
  · exact fun d st M Q l0 l1 l3 l4 l5 l6 l7 l8 l9 x => jx_ev_st (jx_fok (by decide +kernel : decode (jx_mb 133) 214 = .ok (.iload_n 2, 1))) rfl rfl rfl
  · exact fun d lv st M Q x z => jx_ev_st (jx_fok (by decide +kernel : decode (jx_mb 133) 215 = .ok (.iadd, 1))) rfl rfl rfl
  · exact fun d st M Q l0 l1 l2 l3 l4 l5 l6 l7 l8 x => jx_ev_st (jx_fok (by decide +kernel : decode (jx_mb 133) 216 = .ok (.iload 9, 2))) rfl rfl rfl
  · exact fun d lv st M Q x z => jx_ev_st (jx_fok (by decide +kernel : decode (jx_mb 133) 218 = .ok (.iadd, 1))) rfl rfl rfl
  · exact fun d lv st M Q x a ha => jx_k_al (jx_fok (by decide +kernel : decode (jx_mb 133) 219 = .ok (.iaload, 1))) ha
  · exact fun d lv st M Q x z a ha => jx_k_as (jx_fok (by decide +kernel : decode (jx_mb 133) 220 = .ok (.iastore, 1))) ha
  · exact fun d st M Q l0 l1 l2 l3 l4 l5 l6 l7 l9 x => jx_ev_st (jx_fok (by decide +kernel : decode (jx_mb 133) 221 = .ok (.iinc 8 1, 3))) rfl rfl rfl
  · exact fun d lv st M Q => jx_k_goto (jx_fok (by decide +kernel : decode (jx_mb 133) 224 = .ok (.goto (-58), 3))) rfl
  · exact fun d st M Q l0 l1 l2 l3 l4 l6 l7 l8 l9 x => jx_ev_st (jx_fok (by decide +kernel : decode (jx_mb 133) 227 = .ok (.iload 5, 2))) rfl rfl rfl
  · exact fun d lv M Q x => jx_k_ri (jx_fok (by decide +kernel : decode (jx_mb 133) 229 = .ok (.ireturn, 1))) rfl
theorem eX8_copy_166 (d : Nat) (st : List Value) (M : jx_M) (Q : jx_Po) (l0 l1 l2 l3 l4 l5 l6 l7 l9 : Option Value) (x : Int32) : jx_Ev d 133 166 [l0, l1, l2, l3, l4, l5, l6, l7, some (.int x), l9] st M Q ↔ jx_Ev d 133 168 [l0, l1, l2, l3, l4, l5, l6, l7, some (.int x), l9] (.int x :: st) M Q := jx_ev_st (jx_fok (by decide +kernel : decode (jx_mb 133) 166 = .ok (.iload 8, 2))) rfl rfl rfl
theorem kX8_copy (d : Nat) (M : jx_M) (q : Int32 → jx_M → Prop) (a0 a1 a2 a3 a4 a5 : Value) : jx_I d 133 [a0, a1, a2, a3, a4, a5] M q ↔ jx_Ev d 133 0 [some a0, some a1, some a2, some a3, some a4, some a5, none, none, none, none] [] M (jx_qI q) := Iff.rfl
set_option maxRecDepth 100000 in
theorem eX8_begins :
  (∀ (d : Nat) (st : List Value) (M : jx_M) (Q : jx_Po) (l1 : Option Value) (x : Nat), jx_Ev d 134 0 [some (.ref x), l1] st M Q ↔ jx_Ev d 134 1 [some (.ref x), l1] (.ref x :: st) M Q) ∧
  (∀ (d : Nat) (lv : List (Option Value)) (st : List Value) (M : jx_M) (Q : jx_Po), jx_Ev d 134 1 lv st M Q ↔ jx_Ev d 134 3 lv (.int 31 :: st) M Q) ∧
  (∀ (d : Nat) (st : List Value) (M : jx_M) (Q : jx_Po) (l1 : Option Value) (x : Nat), jx_Ev d 134 3 [some (.ref x), l1] st M Q ↔ jx_Ev d 134 4 [some (.ref x), l1] (.ref x :: st) M Q) ∧
  (∀ (d : Nat) (lv : List (Option Value)) (st : List Value) (M : jx_M) (Q : jx_Po), jx_Ev d 134 4 lv (.ref 36 :: st) M Q ↔ jx_Ev d 134 7 lv (.int (M 36 1) :: st) M Q) ∧
  (∀ (d : Nat) (lv : List (Option Value)) (st : List Value) (M : jx_M) (Q : jx_Po) (x z : Int32), jx_Ev d 134 7 lv (.int z :: .int x :: st) M Q ↔ jx_Ev d 134 8 lv (.int (x * z) :: st) M Q) ∧
  (∀ (d : Nat) (st : List Value) (M : jx_M) (Q : jx_Po) (l0 : Option Value) (x : Int32), jx_Ev d 134 8 [l0, some (.int x)] st M Q ↔ jx_Ev d 134 9 [l0, some (.int x)] (.int x :: st) M Q) ∧
  (∀ (d : Nat) (lv : List (Option Value)) (st : List Value) (M : jx_M) (Q : jx_Po) (x z : Int32), jx_Ev d 134 9 lv (.int z :: .int x :: st) M Q ↔ jx_Ev d 134 10 lv (.int (x + z) :: st) M Q) ∧
  (∀ (d : Nat) (lv : List (Option Value)) (st : List Value) (M : jx_M) (Q : jx_Po) (x : Int32), jx_Ev d 134 10 lv (.int x :: .ref 36 :: st) M Q ↔ jx_Ev d 134 13 lv st (jx_up M 36 1 x) Q) ∧
  (∀ (d : Nat) (lv : List (Option Value)) (M : jx_M) (Q : jx_Po), jx_Ev d 134 13 lv [] M Q ↔ Q [] M) := by
  refine ⟨?_, ?_, ?_, ?_, ?_, ?_, ?_, ?_, ?_⟩
  · exact fun d st M Q l1 x => jx_ev_st (jx_fok (by decide +kernel : decode (jx_mb 134) 0 = .ok (.aload_n 0, 1))) rfl rfl rfl
  · exact fun d lv st M Q => jx_ev_st (jx_fok (by decide +kernel : decode (jx_mb 134) 1 = .ok (.bipush 31, 2))) rfl rfl rfl
  · exact fun d st M Q l1 x => jx_ev_st (jx_fok (by decide +kernel : decode (jx_mb 134) 3 = .ok (.aload_n 0, 1))) rfl rfl rfl
  · exact fun d lv st M Q => jx_k_gf (jx_fok (by decide +kernel : decode (jx_mb 134) 4 = .ok (.getfield 191, 3))) rfl rfl rfl
  · exact fun d lv st M Q x z => jx_ev_st (jx_fok (by decide +kernel : decode (jx_mb 134) 7 = .ok (.imul, 1))) rfl rfl rfl
  · exact fun d st M Q l0 x => jx_ev_st (jx_fok (by decide +kernel : decode (jx_mb 134) 8 = .ok (.iload_n 1, 1))) rfl rfl rfl
  · exact fun d lv st M Q x z => jx_ev_st (jx_fok (by decide +kernel : decode (jx_mb 134) 9 = .ok (.iadd, 1))) rfl rfl rfl
  · exact fun d lv st M Q x => jx_k_pf0 (jx_fok (by decide +kernel : decode (jx_mb 134) 10 = .ok (.putfield 191, 3))) rfl rfl rfl
  · exact fun d lv M Q => jx_k_rv (jx_fok (by decide +kernel : decode (jx_mb 134) 13 = .ok (.return_, 1))) rfl
theorem kX8_begins (d : Nat) (M : jx_M) (q : jx_M → Prop) (a0 a1 : Value) : jx_V d 134 [a0, a1] M q ↔ jx_Ev d 134 0 [some a0, some a1] [] M (jx_qV q) := Iff.rfl
set_option maxRecDepth 100000 in
theorem eX8_tell :
  (∀ (d : Nat) (st : List Value) (M : jx_M) (Q : jx_Po) (l1 l2 : Option Value) (x : Nat), jx_Ev d 135 0 [some (.ref x), l1, l2] st M Q ↔ jx_Ev d 135 1 [some (.ref x), l1, l2] (.ref x :: st) M Q) ∧
  (∀ (d : Nat) (st : List Value) (M : jx_M) (Q : jx_Po) (l0 l2 : Option Value) (x : Int32), jx_Ev d 135 1 [l0, some (.int x), l2] st M Q ↔ jx_Ev d 135 2 [l0, some (.int x), l2] (.int x :: st) M Q) ∧
  (∀ (d : Nat) (lv : List (Option Value)) (M : jx_M) (Q : jx_Po) (a0 : Int32), jx_Ev (d + 1) 135 2 lv [.int a0, .ref 36] M Q ↔ jx_I d 91 [.ref 36, .int a0] M (fun x M => jx_Ev (d + 1) 135 5 lv (.int x :: []) M Q)) ∧
  (∀ (d : Nat) (lv : List (Option Value)) (st : List Value) (M : jx_M) (Q : jx_Po) (x : Int32), jx_Ev d 135 5 lv (.int x :: st) M Q ↔ (if x = 0 then jx_Ev d 135 8 lv st M Q else jx_Ev d 135 10 lv st M Q)) ∧
  (∀ (d : Nat) (lv : List (Option Value)) (st : List Value) (M : jx_M) (Q : jx_Po), jx_Ev d 135 8 lv st M Q ↔ jx_Ev d 135 9 lv (.int (-1) :: st) M Q) ∧
  (∀ (d : Nat) (lv : List (Option Value)) (M : jx_M) (Q : jx_Po) (x : Int32), jx_Ev d 135 9 lv [.int x] M Q ↔ Q [.int x] M) ∧
  (∀ (d : Nat) (st : List Value) (M : jx_M) (Q : jx_Po) (l1 l2 : Option Value) (x : Nat), jx_Ev d 135 10 [some (.ref x), l1, l2] st M Q ↔ jx_Ev d 135 11 [some (.ref x), l1, l2] (.ref x :: st) M Q) ∧
  (∀ (d : Nat) (lv : List (Option Value)) (st : List Value) (M : jx_M) (Q : jx_Po), jx_Ev d 135 11 lv (.ref 36 :: st) M Q ↔ jx_Ev d 135 14 lv (.ref 43 :: st) M Q) ∧
  (∀ (d : Nat) (st : List Value) (M : jx_M) (Q : jx_Po) (l0 l2 : Option Value) (x : Int32), jx_Ev d 135 14 [l0, some (.int x), l2] st M Q ↔ jx_Ev d 135 15 [l0, some (.int x), l2] (.int x :: st) M Q) ∧
  (∀ (d : Nat) (lv : List (Option Value)) (st : List Value) (M : jx_M) (Q : jx_Po) (x : Int32) (a : Nat) (ha : jx_cl a = 9), jx_Ev d 135 15 lv (.int x :: .ref a :: st) M Q ↔ (vp_in x (jx_sz a) ∧ jx_Ev d 135 16 lv (.int (M a x.toNatClampNeg) :: st) M Q)) ∧
  (∀ (d : Nat) (st : List Value) (M : jx_M) (Q : jx_Po) (l0 l1 l2 : Option Value) (x : Int32), jx_Ev d 135 16 [l0, l1, l2] (.int x :: st) M Q ↔ jx_Ev d 135 17 [l0, l1, some (.int x)] st M Q) ∧
  (∀ (d : Nat) (st : List Value) (M : jx_M) (Q : jx_Po) (l1 l2 : Option Value) (x : Nat), jx_Ev d 135 17 [some (.ref x), l1, l2] st M Q ↔ jx_Ev d 135 18 [some (.ref x), l1, l2] (.ref x :: st) M Q) ∧
  (∀ (d : Nat) (lv : List (Option Value)) (st : List Value) (M : jx_M) (Q : jx_Po), jx_Ev d 135 18 lv (.ref 36 :: st) M Q ↔ jx_Ev d 135 21 lv (.ref 42 :: st) M Q) ∧
  (∀ (d : Nat) (st : List Value) (M : jx_M) (Q : jx_Po) (l0 l2 : Option Value) (x : Int32), jx_Ev d 135 21 [l0, some (.int x), l2] st M Q ↔ jx_Ev d 135 22 [l0, some (.int x), l2] (.int x :: st) M Q) ∧
  (∀ (d : Nat) (lv : List (Option Value)) (st : List Value) (M : jx_M) (Q : jx_Po) (x : Int32) (a : Nat) (ha : jx_cl a = 9), jx_Ev d 135 22 lv (.int x :: .ref a :: st) M Q ↔ (vp_in x (jx_sz a) ∧ jx_Ev d 135 23 lv (.int (M a x.toNatClampNeg) :: st) M Q)) ∧
  (∀ (d : Nat) (lv : List (Option Value)) (st : List Value) (M : jx_M) (Q : jx_Po) (x : Int32), jx_Ev d 135 23 lv (.int x :: st) M Q ↔ (if x = 1 then jx_Ev d 135 48 lv st M Q else if x = 2 then jx_Ev d 135 63 lv st M Q else jx_Ev d 135 90 lv st M Q)) ∧
  (∀ (d : Nat) (st : List Value) (M : jx_M) (Q : jx_Po) (l1 l2 : Option Value) (x : Nat), jx_Ev d 135 48 [some (.ref x), l1, l2] st M Q ↔ jx_Ev d 135 49 [some (.ref x), l1, l2] (.ref x :: st) M Q) ∧
  (∀ (d : Nat) (lv : List (Option Value)) (st : List Value) (M : jx_M) (Q : jx_Po), jx_Ev d 135 49 lv st M Q ↔ jx_Ev d 135 50 lv (.int 2 :: st) M Q) ∧
  (∀ (d : Nat) (lv : List (Option Value)) (M : jx_M) (Q : jx_Po) (a0 : Int32), jx_Ev (d + 1) 135 50 lv [.int a0, .ref 36] M Q ↔ jx_V d 134 [.ref 36, .int a0] M (fun M => jx_Ev (d + 1) 135 53 lv [] M Q)) ∧
  (∀ (d : Nat) (st : List Value) (M : jx_M) (Q : jx_Po) (l1 l2 : Option Value) (x : Nat), jx_Ev d 135 53 [some (.ref x), l1, l2] st M Q ↔ jx_Ev d 135 54 [some (.ref x), l1, l2] (.ref x :: st) M Q) ∧
  (∀ (d : Nat) (lv : List (Option Value)) (st : List Value) (M : jx_M) (Q : jx_Po), jx_Ev d 135 54 lv st M Q ↔ jx_Ev d 135 55 lv (.int 1 :: st) M Q) ∧
  (∀ (d : Nat) (lv : List (Option Value)) (M : jx_M) (Q : jx_Po) (a0 : Int32), jx_Ev (d + 1) 135 55 lv [.int a0, .ref 36] M Q ↔ jx_V d 134 [.ref 36, .int a0] M (fun M => jx_Ev (d + 1) 135 58 lv [] M Q)) ∧
  (∀ (d : Nat) (st : List Value) (M : jx_M) (Q : jx_Po) (l0 l1 : Option Value) (x : Int32), jx_Ev d 135 58 [l0, l1, some (.int x)] st M Q ↔ jx_Ev d 135 59 [l0, l1, some (.int x)] (.int x :: st) M Q) ∧
  (∀ (d : Nat) (lv : List (Option Value)) (st : List Value) (M : jx_M) (Q : jx_Po), jx_Ev d 135 59 lv st M Q ↔ jx_Ev d 135 61 lv (.int 100 :: st) M Q) ∧
  (∀ (d : Nat) (lv : List (Option Value)) (st : List Value) (M : jx_M) (Q : jx_Po) (x z : Int32), jx_Ev d 135 61 lv (.int z :: .int x :: st) M Q ↔ jx_Ev d 135 62 lv (.int (x + z) :: st) M Q) ∧
  (∀ (d : Nat) (lv : List (Option Value)) (M : jx_M) (Q : jx_Po) (x : Int32), jx_Ev d 135 62 lv [.int x] M Q ↔ Q [.int x] M) ∧
  (∀ (d : Nat) (st : List Value) (M : jx_M) (Q : jx_Po) (l1 l2 : Option Value) (x : Nat), jx_Ev d 135 63 [some (.ref x), l1, l2] st M Q ↔ jx_Ev d 135 64 [some (.ref x), l1, l2] (.ref x :: st) M Q) ∧
  (∀ (d : Nat) (lv : List (Option Value)) (st : List Value) (M : jx_M) (Q : jx_Po), jx_Ev d 135 64 lv st M Q ↔ jx_Ev d 135 65 lv (.int 3 :: st) M Q) ∧
  (∀ (d : Nat) (lv : List (Option Value)) (M : jx_M) (Q : jx_Po) (a0 : Int32), jx_Ev (d + 1) 135 65 lv [.int a0, .ref 36] M Q ↔ jx_V d 134 [.ref 36, .int a0] M (fun M => jx_Ev (d + 1) 135 68 lv [] M Q)) ∧
  (∀ (d : Nat) (st : List Value) (M : jx_M) (Q : jx_Po) (l1 l2 : Option Value) (x : Nat), jx_Ev d 135 68 [some (.ref x), l1, l2] st M Q ↔ jx_Ev d 135 69 [some (.ref x), l1, l2] (.ref x :: st) M Q) ∧
  (∀ (d : Nat) (lv : List (Option Value)) (st : List Value) (M : jx_M) (Q : jx_Po), jx_Ev d 135 69 lv st M Q ↔ jx_Ev d 135 70 lv (.int 2 :: st) M Q) ∧
  (∀ (d : Nat) (lv : List (Option Value)) (M : jx_M) (Q : jx_Po) (a0 : Int32), jx_Ev (d + 1) 135 70 lv [.int a0, .ref 36] M Q ↔ jx_V d 134 [.ref 36, .int a0] M (fun M => jx_Ev (d + 1) 135 73 lv [] M Q)) ∧
  (∀ (d : Nat) (st : List Value) (M : jx_M) (Q : jx_Po) (l1 l2 : Option Value) (x : Nat), jx_Ev d 135 73 [some (.ref x), l1, l2] st M Q ↔ jx_Ev d 135 74 [some (.ref x), l1, l2] (.ref x :: st) M Q) ∧
  (∀ (d : Nat) (lv : List (Option Value)) (st : List Value) (M : jx_M) (Q : jx_Po), jx_Ev d 135 74 lv st M Q ↔ jx_Ev d 135 75 lv (.int 1 :: st) M Q) ∧
  (∀ (d : Nat) (lv : List (Option Value)) (M : jx_M) (Q : jx_Po) (a0 : Int32), jx_Ev (d + 1) 135 75 lv [.int a0, .ref 36] M Q ↔ jx_V d 134 [.ref 36, .int a0] M (fun M => jx_Ev (d + 1) 135 78 lv [] M Q)) ∧
  (∀ (d : Nat) (st : List Value) (M : jx_M) (Q : jx_Po) (l1 l2 : Option Value) (x : Nat), jx_Ev d 135 78 [some (.ref x), l1, l2] st M Q ↔ jx_Ev d 135 79 [some (.ref x), l1, l2] (.ref x :: st) M Q) ∧
  (∀ (d : Nat) (lv : List (Option Value)) (st : List Value) (M : jx_M) (Q : jx_Po), jx_Ev d 135 79 lv st M Q ↔ jx_Ev d 135 80 lv (.int 1 :: st) M Q) ∧
  (∀ (d : Nat) (lv : List (Option Value)) (M : jx_M) (Q : jx_Po) (a0 : Int32), jx_Ev (d + 1) 135 80 lv [.int a0, .ref 36] M Q ↔ jx_V d 134 [.ref 36, .int a0] M (fun M => jx_Ev (d + 1) 135 83 lv [] M Q)) ∧
  (∀ (d : Nat) (lv : List (Option Value)) (st : List Value) (M : jx_M) (Q : jx_Po), jx_Ev d 135 83 lv st M Q ↔ jx_Ev d 135 84 lv (.int 2 :: st) M Q) ∧
  (∀ (d : Nat) (st : List Value) (M : jx_M) (Q : jx_Po) (l0 l1 : Option Value) (x : Int32), jx_Ev d 135 84 [l0, l1, some (.int x)] st M Q ↔ jx_Ev d 135 85 [l0, l1, some (.int x)] (.int x :: st) M Q) ∧
  (∀ (d : Nat) (lv : List (Option Value)) (st : List Value) (M : jx_M) (Q : jx_Po) (x z : Int32), jx_Ev d 135 85 lv (.int z :: .int x :: st) M Q ↔ jx_Ev d 135 86 lv (.int (x * z) :: st) M Q) ∧
  (∀ (d : Nat) (lv : List (Option Value)) (st : List Value) (M : jx_M) (Q : jx_Po), jx_Ev d 135 86 lv st M Q ↔ jx_Ev d 135 88 lv (.int 100 :: st) M Q) ∧
  (∀ (d : Nat) (lv : List (Option Value)) (st : List Value) (M : jx_M) (Q : jx_Po) (x z : Int32), jx_Ev d 135 88 lv (.int z :: .int x :: st) M Q ↔ jx_Ev d 135 89 lv (.int (x + z) :: st) M Q) ∧
  (∀ (d : Nat) (lv : List (Option Value)) (M : jx_M) (Q : jx_Po) (x : Int32), jx_Ev d 135 89 lv [.int x] M Q ↔ Q [.int x] M) ∧
  (∀ (d : Nat) (st : List Value) (M : jx_M) (Q : jx_Po) (l1 l2 : Option Value) (x : Nat), jx_Ev d 135 90 [some (.ref x), l1, l2] st M Q ↔ jx_Ev d 135 91 [some (.ref x), l1, l2] (.ref x :: st) M Q) ∧
  (∀ (d : Nat) (lv : List (Option Value)) (st : List Value) (M : jx_M) (Q : jx_Po), jx_Ev d 135 91 lv st M Q ↔ jx_Ev d 135 92 lv (.int 1 :: st) M Q) ∧
  (∀ (d : Nat) (lv : List (Option Value)) (M : jx_M) (Q : jx_Po) (a0 : Int32), jx_Ev (d + 1) 135 92 lv [.int a0, .ref 36] M Q ↔ jx_V d 134 [.ref 36, .int a0] M (fun M => jx_Ev (d + 1) 135 95 lv [] M Q)) ∧
  (∀ (d : Nat) (st : List Value) (M : jx_M) (Q : jx_Po) (l0 l1 : Option Value) (x : Int32), jx_Ev d 135 95 [l0, l1, some (.int x)] st M Q ↔ jx_Ev d 135 96 [l0, l1, some (.int x)] (.int x :: st) M Q) ∧
  (∀ (d : Nat) (lv : List (Option Value)) (M : jx_M) (Q : jx_Po) (x : Int32), jx_Ev d 135 96 lv [.int x] M Q ↔ Q [.int x] M) := by
  refine ⟨?_, ?_, ?_, ?_, ?_, ?_, ?_, ?_, ?_, ?_, ?_, ?_, ?_, ?_, ?_, ?_, ?_, ?_, ?_, ?_, ?_, ?_, ?_, ?_, ?_, ?_, ?_, ?_, ?_, ?_, ?_, ?_, ?_, ?_, ?_, ?_, ?_, ?_, ?_, ?_, ?_, ?_, ?_, ?_, ?_, ?_, ?_, ?_, ?_⟩
  · exact fun d st M Q l1 l2 x => jx_ev_st (jx_fok (by decide +kernel : decode (jx_mb 135) 0 = .ok (.aload_n 0, 1))) rfl rfl rfl
  · exact fun d st M Q l0 l2 x => jx_ev_st (jx_fok (by decide +kernel : decode (jx_mb 135) 1 = .ok (.iload_n 1, 1))) rfl rfl rfl
  · exact fun d lv M Q a0 => jx_ev_ci (jx_fok (by decide +kernel : decode (jx_mb 135) 2 = .ok (.invokevirtual 148, 3))) rfl (jx_ccV (As := [.int a0]) (rest := []) rfl rfl rfl rfl rfl rfl) (by decide)
  · exact fun d lv st M Q x => jx_k_b1n (jx_fok (by decide +kernel : decode (jx_mb 135) 5 = .ok (.ifCond .ne 5, 3))) rfl jx_hNe
  · exact fun d lv st M Q => jx_ev_st (jx_fok (by decide +kernel : decode (jx_mb 135) 8 = .ok (.iconst (-1), 1))) rfl rfl rfl
  · exact fun d lv M Q x => jx_k_ri (jx_fok (by decide +kernel : decode (jx_mb 135) 9 = .ok (.ireturn, 1))) rfl
  · exact fun d st M Q l1 l2 x => jx_ev_st (jx_fok (by decide +kernel : decode (jx_mb 135) 10 = .ok (.aload_n 0, 1))) rfl rfl rfl
  · exact fun d lv st M Q => jx_k_gf (jx_fok (by decide +kernel : decode (jx_mb 135) 11 = .ok (.getfield 28, 3))) rfl rfl rfl
  · exact fun d st M Q l0 l2 x => jx_ev_st (jx_fok (by decide +kernel : decode (jx_mb 135) 14 = .ok (.iload_n 1, 1))) rfl rfl rfl
  · exact fun d lv st M Q x a ha => jx_k_al (jx_fok (by decide +kernel : decode (jx_mb 135) 15 = .ok (.iaload, 1))) ha
  · exact fun d st M Q l0 l1 l2 x => jx_ev_st (jx_fok (by decide +kernel : decode (jx_mb 135) 16 = .ok (.istore_n 2, 1))) rfl rfl rfl
  · exact fun d st M Q l1 l2 x => jx_ev_st (jx_fok (by decide +kernel : decode (jx_mb 135) 17 = .ok (.aload_n 0, 1))) rfl rfl rfl
  · exact fun d lv st M Q => jx_k_gf (jx_fok (by decide +kernel : decode (jx_mb 135) 18 = .ok (.getfield 25, 3))) rfl rfl rfl
  · exact fun d st M Q l0 l2 x => jx_ev_st (jx_fok (by decide +kernel : decode (jx_mb 135) 21 = .ok (.iload_n 1, 1))) rfl rfl rfl
  · exact fun d lv st M Q x a ha => jx_k_al (jx_fok (by decide +kernel : decode (jx_mb 135) 22 = .ok (.iaload, 1))) ha
  · intro d lv st M Q x
    by_cases h0 : x = 1
    · subst h0; rw [if_pos rfl]; exact jx_k_lsw (jx_fok (by decide +kernel : decode (jx_mb 135) 23 = .ok (.lookupswitch 67 #[(1, 25), (2, 40)], 25))) (by decide) rfl
    rw [if_neg h0]
    by_cases h1 : x = 2
    · subst h1; rw [if_pos rfl]; exact jx_k_lsw (jx_fok (by decide +kernel : decode (jx_mb 135) 23 = .ok (.lookupswitch 67 #[(1, 25), (2, 40)], 25))) (by decide) rfl
    rw [if_neg h1]
    exact jx_k_lsw (jx_fok (by decide +kernel : decode (jx_mb 135) 23 = .ok (.lookupswitch 67 #[(1, 25), (2, 40)], 25))) (by decide) (by rw [show Op.lookupswitch.offset _ _ _ = _ from (lv_osw h0 (by decide)).trans ((lv_osw h1 (by decide)).trans rfl)]; rfl)
  · exact fun d st M Q l1 l2 x => jx_ev_st (jx_fok (by decide +kernel : decode (jx_mb 135) 48 = .ok (.aload_n 0, 1))) rfl rfl rfl
  · exact fun d lv st M Q => jx_ev_st (jx_fok (by decide +kernel : decode (jx_mb 135) 49 = .ok (.iconst 2, 1))) rfl rfl rfl
  · exact fun d lv M Q a0 => jx_ev_cv (jx_fok (by decide +kernel : decode (jx_mb 135) 50 = .ok (.invokevirtual 194, 3))) rfl (jx_ccV (As := [.int a0]) (rest := []) rfl rfl rfl rfl rfl rfl) rfl
  · exact fun d st M Q l1 l2 x => jx_ev_st (jx_fok (by decide +kernel : decode (jx_mb 135) 53 = .ok (.aload_n 0, 1))) rfl rfl rfl
  · exact fun d lv st M Q => jx_ev_st (jx_fok (by decide +kernel : decode (jx_mb 135) 54 = .ok (.iconst 1, 1))) rfl rfl rfl
  · exact fun d lv M Q a0 => jx_ev_cv (jx_fok (by decide +kernel : decode (jx_mb 135) 55 = .ok (.invokevirtual 194, 3))) rfl (jx_ccV (As := [.int a0]) (rest := []) rfl rfl rfl rfl rfl rfl) rfl
  · exact fun d st M Q l0 l1 x => jx_ev_st (jx_fok (by decide +kernel : decode (jx_mb 135) 58 = .ok (.iload_n 2, 1))) rfl rfl rfl
  · exact fun d lv st M Q => jx_ev_st (jx_fok (by decide +kernel : decode (jx_mb 135) 59 = .ok (.bipush 100, 2))) rfl rfl rfl
  · exact fun d lv st M Q x z => jx_ev_st (jx_fok (by decide +kernel : decode (jx_mb 135) 61 = .ok (.iadd, 1))) rfl rfl rfl
  · exact fun d lv M Q x => jx_k_ri (jx_fok (by decide +kernel : decode (jx_mb 135) 62 = .ok (.ireturn, 1))) rfl
  · exact fun d st M Q l1 l2 x => jx_ev_st (jx_fok (by decide +kernel : decode (jx_mb 135) 63 = .ok (.aload_n 0, 1))) rfl rfl rfl
  · exact fun d lv st M Q => jx_ev_st (jx_fok (by decide +kernel : decode (jx_mb 135) 64 = .ok (.iconst 3, 1))) rfl rfl rfl
  · exact fun d lv M Q a0 => jx_ev_cv (jx_fok (by decide +kernel : decode (jx_mb 135) 65 = .ok (.invokevirtual 194, 3))) rfl (jx_ccV (As := [.int a0]) (rest := []) rfl rfl rfl rfl rfl rfl) rfl
  · exact fun d st M Q l1 l2 x => jx_ev_st (jx_fok (by decide +kernel : decode (jx_mb 135) 68 = .ok (.aload_n 0, 1))) rfl rfl rfl
  · exact fun d lv st M Q => jx_ev_st (jx_fok (by decide +kernel : decode (jx_mb 135) 69 = .ok (.iconst 2, 1))) rfl rfl rfl
  · exact fun d lv M Q a0 => jx_ev_cv (jx_fok (by decide +kernel : decode (jx_mb 135) 70 = .ok (.invokevirtual 194, 3))) rfl (jx_ccV (As := [.int a0]) (rest := []) rfl rfl rfl rfl rfl rfl) rfl
  · exact fun d st M Q l1 l2 x => jx_ev_st (jx_fok (by decide +kernel : decode (jx_mb 135) 73 = .ok (.aload_n 0, 1))) rfl rfl rfl
  · exact fun d lv st M Q => jx_ev_st (jx_fok (by decide +kernel : decode (jx_mb 135) 74 = .ok (.iconst 1, 1))) rfl rfl rfl
  · exact fun d lv M Q a0 => jx_ev_cv (jx_fok (by decide +kernel : decode (jx_mb 135) 75 = .ok (.invokevirtual 194, 3))) rfl (jx_ccV (As := [.int a0]) (rest := []) rfl rfl rfl rfl rfl rfl) rfl
  · exact fun d st M Q l1 l2 x => jx_ev_st (jx_fok (by decide +kernel : decode (jx_mb 135) 78 = .ok (.aload_n 0, 1))) rfl rfl rfl
  · exact fun d lv st M Q => jx_ev_st (jx_fok (by decide +kernel : decode (jx_mb 135) 79 = .ok (.iconst 1, 1))) rfl rfl rfl
  · exact fun d lv M Q a0 => jx_ev_cv (jx_fok (by decide +kernel : decode (jx_mb 135) 80 = .ok (.invokevirtual 194, 3))) rfl (jx_ccV (As := [.int a0]) (rest := []) rfl rfl rfl rfl rfl rfl) rfl
  · exact fun d lv st M Q => jx_ev_st (jx_fok (by decide +kernel : decode (jx_mb 135) 83 = .ok (.iconst 2, 1))) rfl rfl rfl
  · exact fun d st M Q l0 l1 x => jx_ev_st (jx_fok (by decide +kernel : decode (jx_mb 135) 84 = .ok (.iload_n 2, 1))) rfl rfl rfl
  · exact fun d lv st M Q x z => jx_ev_st (jx_fok (by decide +kernel : decode (jx_mb 135) 85 = .ok (.imul, 1))) rfl rfl rfl
  · exact fun d lv st M Q => jx_ev_st (jx_fok (by decide +kernel : decode (jx_mb 135) 86 = .ok (.bipush 100, 2))) rfl rfl rfl
  · exact fun d lv st M Q x z => jx_ev_st (jx_fok (by decide +kernel : decode (jx_mb 135) 88 = .ok (.iadd, 1))) rfl rfl rfl
  · exact fun d lv M Q x => jx_k_ri (jx_fok (by decide +kernel : decode (jx_mb 135) 89 = .ok (.ireturn, 1))) rfl
  · exact fun d st M Q l1 l2 x => jx_ev_st (jx_fok (by decide +kernel : decode (jx_mb 135) 90 = .ok (.aload_n 0, 1))) rfl rfl rfl
  · exact fun d lv st M Q => jx_ev_st (jx_fok (by decide +kernel : decode (jx_mb 135) 91 = .ok (.iconst 1, 1))) rfl rfl rfl
  · exact fun d lv M Q a0 => jx_ev_cv (jx_fok (by decide +kernel : decode (jx_mb 135) 92 = .ok (.invokevirtual 194, 3))) rfl (jx_ccV (As := [.int a0]) (rest := []) rfl rfl rfl rfl rfl rfl) rfl
  · exact fun d st M Q l0 l1 x => jx_ev_st (jx_fok (by decide +kernel : decode (jx_mb 135) 95 = .ok (.iload_n 2, 1))) rfl rfl rfl
  · exact fun d lv M Q x => jx_k_ri (jx_fok (by decide +kernel : decode (jx_mb 135) 96 = .ok (.ireturn, 1))) rfl
theorem kX8_tell (d : Nat) (M : jx_M) (q : Int32 → jx_M → Prop) (a0 a1 : Value) : jx_I d 135 [a0, a1] M q ↔ jx_Ev d 135 0 [some a0, some a1, none] [] M (jx_qI q) := Iff.rfl
set_option maxRecDepth 100000 in
theorem eX8_cork :
  (∀ (d : Nat) (st : List Value) (M : jx_M) (Q : jx_Po) (l1 : Option Value) (x : Nat), jx_Ev d 136 0 [some (.ref x), l1] st M Q ↔ jx_Ev d 136 1 [some (.ref x), l1] (.ref x :: st) M Q) ∧
  (∀ (d : Nat) (st : List Value) (M : jx_M) (Q : jx_Po) (l0 : Option Value) (x : Int32), jx_Ev d 136 1 [l0, some (.int x)] st M Q ↔ jx_Ev d 136 2 [l0, some (.int x)] (.int x :: st) M Q) ∧
  (∀ (d : Nat) (lv : List (Option Value)) (M : jx_M) (Q : jx_Po) (a0 : Int32), jx_Ev (d + 1) 136 2 lv [.int a0, .ref 36] M Q ↔ jx_I d 91 [.ref 36, .int a0] M (fun x M => jx_Ev (d + 1) 136 5 lv (.int x :: []) M Q)) ∧
  (∀ (d : Nat) (lv : List (Option Value)) (st : List Value) (M : jx_M) (Q : jx_Po) (x : Int32), jx_Ev d 136 5 lv (.int x :: st) M Q ↔ (if x = 0 then jx_Ev d 136 8 lv st M Q else jx_Ev d 136 10 lv st M Q)) ∧
  (∀ (d : Nat) (lv : List (Option Value)) (st : List Value) (M : jx_M) (Q : jx_Po), jx_Ev d 136 8 lv st M Q ↔ jx_Ev d 136 9 lv (.int (-1) :: st) M Q) ∧
  (∀ (d : Nat) (lv : List (Option Value)) (M : jx_M) (Q : jx_Po) (x : Int32), jx_Ev d 136 9 lv [.int x] M Q ↔ Q [.int x] M) ∧
  (∀ (d : Nat) (st : List Value) (M : jx_M) (Q : jx_Po) (l1 : Option Value) (x : Nat), jx_Ev d 136 10 [some (.ref x), l1] st M Q ↔ jx_Ev d 136 11 [some (.ref x), l1] (.ref x :: st) M Q) ∧
  (∀ (d : Nat) (st : List Value) (M : jx_M) (Q : jx_Po) (l1 : Option Value) (x : Nat), jx_Ev d 136 11 [some (.ref x), l1] st M Q ↔ jx_Ev d 136 12 [some (.ref x), l1] (.ref x :: st) M Q) ∧
  (∀ (d : Nat) (lv : List (Option Value)) (st : List Value) (M : jx_M) (Q : jx_Po), jx_Ev d 136 12 lv (.ref 36 :: st) M Q ↔ jx_Ev d 136 15 lv (.ref 42 :: st) M Q) ∧
  (∀ (d : Nat) (st : List Value) (M : jx_M) (Q : jx_Po) (l0 : Option Value) (x : Int32), jx_Ev d 136 15 [l0, some (.int x)] st M Q ↔ jx_Ev d 136 16 [l0, some (.int x)] (.int x :: st) M Q) ∧
  (∀ (d : Nat) (lv : List (Option Value)) (st : List Value) (M : jx_M) (Q : jx_Po) (x : Int32) (a : Nat) (ha : jx_cl a = 9), jx_Ev d 136 16 lv (.int x :: .ref a :: st) M Q ↔ (vp_in x (jx_sz a) ∧ jx_Ev d 136 17 lv (.int (M a x.toNatClampNeg) :: st) M Q)) ∧
  (∀ (d : Nat) (lv : List (Option Value)) (st : List Value) (M : jx_M) (Q : jx_Po), jx_Ev d 136 17 lv st M Q ↔ jx_Ev d 136 18 lv (.int 2 :: st) M Q) ∧
  (∀ (d : Nat) (lv : List (Option Value)) (st : List Value) (M : jx_M) (Q : jx_Po) (x z : Int32), jx_Ev d 136 18 lv (.int z :: .int x :: st) M Q ↔ (if x = z then jx_Ev d 136 21 lv st M Q else jx_Ev d 136 25 lv st M Q)) ∧
  (∀ (d : Nat) (lv : List (Option Value)) (st : List Value) (M : jx_M) (Q : jx_Po), jx_Ev d 136 21 lv st M Q ↔ jx_Ev d 136 22 lv (.int 5 :: st) M Q) ∧
  (∀ (d : Nat) (lv : List (Option Value)) (st : List Value) (M : jx_M) (Q : jx_Po), jx_Ev d 136 22 lv st M Q ↔ jx_Ev d 136 26 lv st M Q) ∧
  (∀ (d : Nat) (lv : List (Option Value)) (st : List Value) (M : jx_M) (Q : jx_Po), jx_Ev d 136 25 lv st M Q ↔ jx_Ev d 136 26 lv (.int 4 :: st) M Q) ∧
  (∀ (d : Nat) (lv : List (Option Value)) (M : jx_M) (Q : jx_Po) (a0 : Int32), jx_Ev (d + 1) 136 26 lv [.int a0, .ref 36] M Q ↔ jx_V d 134 [.ref 36, .int a0] M (fun M => jx_Ev (d + 1) 136 29 lv [] M Q)) ∧
  (∀ (d : Nat) (st : List Value) (M : jx_M) (Q : jx_Po) (l1 : Option Value) (x : Nat), jx_Ev d 136 29 [some (.ref x), l1] st M Q ↔ jx_Ev d 136 30 [some (.ref x), l1] (.ref x :: st) M Q) ∧
  (∀ (d : Nat) (lv : List (Option Value)) (st : List Value) (M : jx_M) (Q : jx_Po), jx_Ev d 136 30 lv (.ref 36 :: st) M Q ↔ jx_Ev d 136 33 lv (.ref 42 :: st) M Q) ∧
  (∀ (d : Nat) (st : List Value) (M : jx_M) (Q : jx_Po) (l0 : Option Value) (x : Int32), jx_Ev d 136 33 [l0, some (.int x)] st M Q ↔ jx_Ev d 136 34 [l0, some (.int x)] (.int x :: st) M Q) ∧
  (∀ (d : Nat) (lv : List (Option Value)) (st : List Value) (M : jx_M) (Q : jx_Po) (x : Int32) (a : Nat) (ha : jx_cl a = 9), jx_Ev d 136 34 lv (.int x :: .ref a :: st) M Q ↔ (vp_in x (jx_sz a) ∧ jx_Ev d 136 35 lv (.int (M a x.toNatClampNeg) :: st) M Q)) ∧
  (∀ (d : Nat) (lv : List (Option Value)) (st : List Value) (M : jx_M) (Q : jx_Po), jx_Ev d 136 35 lv st M Q ↔ jx_Ev d 136 36 lv (.int 2 :: st) M Q) ∧
  (∀ (d : Nat) (lv : List (Option Value)) (st : List Value) (M : jx_M) (Q : jx_Po) (x z : Int32), jx_Ev d 136 36 lv (.int z :: .int x :: st) M Q ↔ (if x = z then jx_Ev d 136 39 lv st M Q else jx_Ev d 136 44 lv st M Q)) ∧
  (∀ (d : Nat) (lv : List (Option Value)) (st : List Value) (M : jx_M) (Q : jx_Po), jx_Ev d 136 39 lv st M Q ↔ jx_Ev d 136 41 lv (.int 60 :: st) M Q) ∧
  (∀ (d : Nat) (lv : List (Option Value)) (st : List Value) (M : jx_M) (Q : jx_Po), jx_Ev d 136 41 lv st M Q ↔ jx_Ev d 136 45 lv st M Q) ∧
  (∀ (d : Nat) (st : List Value) (M : jx_M) (Q : jx_Po) (l0 : Option Value) (x : Int32), jx_Ev d 136 44 [l0, some (.int x)] st M Q ↔ jx_Ev d 136 45 [l0, some (.int x)] (.int x :: st) M Q) ∧
  (∀ (d : Nat) (lv : List (Option Value)) (M : jx_M) (Q : jx_Po) (x : Int32), jx_Ev d 136 45 lv [.int x] M Q ↔ Q [.int x] M) := by
  refine ⟨?_, ?_, ?_, ?_, ?_, ?_, ?_, ?_, ?_, ?_, ?_, ?_, ?_, ?_, ?_, ?_, ?_, ?_, ?_, ?_, ?_, ?_, ?_, ?_, ?_, ?_, ?_⟩
  · exact fun d st M Q l1 x => jx_ev_st (jx_fok (by decide +kernel : decode (jx_mb 136) 0 = .ok (.aload_n 0, 1))) rfl rfl rfl
  · exact fun d st M Q l0 x => jx_ev_st (jx_fok (by decide +kernel : decode (jx_mb 136) 1 = .ok (.iload_n 1, 1))) rfl rfl rfl
  · exact fun d lv M Q a0 => jx_ev_ci (jx_fok (by decide +kernel : decode (jx_mb 136) 2 = .ok (.invokevirtual 148, 3))) rfl (jx_ccV (As := [.int a0]) (rest := []) rfl rfl rfl rfl rfl rfl) (by decide)
  · exact fun d lv st M Q x => jx_k_b1n (jx_fok (by decide +kernel : decode (jx_mb 136) 5 = .ok (.ifCond .ne 5, 3))) rfl jx_hNe
  · exact fun d lv st M Q => jx_ev_st (jx_fok (by decide +kernel : decode (jx_mb 136) 8 = .ok (.iconst (-1), 1))) rfl rfl rfl
  · exact fun d lv M Q x => jx_k_ri (jx_fok (by decide +kernel : decode (jx_mb 136) 9 = .ok (.ireturn, 1))) rfl
  · exact fun d st M Q l1 x => jx_ev_st (jx_fok (by decide +kernel : decode (jx_mb 136) 10 = .ok (.aload_n 0, 1))) rfl rfl rfl
  · exact fun d st M Q l1 x => jx_ev_st (jx_fok (by decide +kernel : decode (jx_mb 136) 11 = .ok (.aload_n 0, 1))) rfl rfl rfl
  · exact fun d lv st M Q => jx_k_gf (jx_fok (by decide +kernel : decode (jx_mb 136) 12 = .ok (.getfield 25, 3))) rfl rfl rfl
  · exact fun d st M Q l0 x => jx_ev_st (jx_fok (by decide +kernel : decode (jx_mb 136) 15 = .ok (.iload_n 1, 1))) rfl rfl rfl
  · exact fun d lv st M Q x a ha => jx_k_al (jx_fok (by decide +kernel : decode (jx_mb 136) 16 = .ok (.iaload, 1))) ha
  · exact fun d lv st M Q => jx_ev_st (jx_fok (by decide +kernel : decode (jx_mb 136) 17 = .ok (.iconst 2, 1))) rfl rfl rfl
  · exact fun d lv st M Q x z => jx_k_b2n (jx_fok (by decide +kernel : decode (jx_mb 136) 18 = .ok (.if_icmp .ne 7, 3))) rfl jx_hNe
  · exact fun d lv st M Q => jx_ev_st (jx_fok (by decide +kernel : decode (jx_mb 136) 21 = .ok (.iconst 5, 1))) rfl rfl rfl
  · exact fun d lv st M Q => jx_k_goto (jx_fok (by decide +kernel : decode (jx_mb 136) 22 = .ok (.goto 4, 3))) rfl
  · exact fun d lv st M Q => jx_ev_st (jx_fok (by decide +kernel : decode (jx_mb 136) 25 = .ok (.iconst 4, 1))) rfl rfl rfl
  · exact fun d lv M Q a0 => jx_ev_cv (jx_fok (by decide +kernel : decode (jx_mb 136) 26 = .ok (.invokevirtual 194, 3))) rfl (jx_ccV (As := [.int a0]) (rest := []) rfl rfl rfl rfl rfl rfl) rfl
  · exact fun d st M Q l1 x => jx_ev_st (jx_fok (by decide +kernel : decode (jx_mb 136) 29 = .ok (.aload_n 0, 1))) rfl rfl rfl
  · exact fun d lv st M Q => jx_k_gf (jx_fok (by decide +kernel : decode (jx_mb 136) 30 = .ok (.getfield 25, 3))) rfl rfl rfl
  · exact fun d st M Q l0 x => jx_ev_st (jx_fok (by decide +kernel : decode (jx_mb 136) 33 = .ok (.iload_n 1, 1))) rfl rfl rfl
  · exact fun d lv st M Q x a ha => jx_k_al (jx_fok (by decide +kernel : decode (jx_mb 136) 34 = .ok (.iaload, 1))) ha
  · exact fun d lv st M Q => jx_ev_st (jx_fok (by decide +kernel : decode (jx_mb 136) 35 = .ok (.iconst 2, 1))) rfl rfl rfl
  · exact fun d lv st M Q x z => jx_k_b2n (jx_fok (by decide +kernel : decode (jx_mb 136) 36 = .ok (.if_icmp .ne 8, 3))) rfl jx_hNe
  · exact fun d lv st M Q => jx_ev_st (jx_fok (by decide +kernel : decode (jx_mb 136) 39 = .ok (.bipush 60, 2))) rfl rfl rfl
  · exact fun d lv st M Q => jx_k_goto (jx_fok (by decide +kernel : decode (jx_mb 136) 41 = .ok (.goto 4, 3))) rfl
  · exact fun d st M Q l0 x => jx_ev_st (jx_fok (by decide +kernel : decode (jx_mb 136) 44 = .ok (.iload_n 1, 1))) rfl rfl rfl
  · exact fun d lv M Q x => jx_k_ri (jx_fok (by decide +kernel : decode (jx_mb 136) 45 = .ok (.ireturn, 1))) rfl
theorem kX8_cork (d : Nat) (M : jx_M) (q : Int32 → jx_M → Prop) (a0 a1 : Value) : jx_I d 136 [a0, a1] M q ↔ jx_Ev d 136 0 [some a0, some a1] [] M (jx_qI q) := Iff.rfl
set_option maxRecDepth 100000 in
theorem eX8_as :
  (∀ (d : Nat) (st : List Value) (M : jx_M) (Q : jx_Po) (l1 l2 : Option Value) (x : Nat), jx_Ev d 137 0 [some (.ref x), l1, l2] st M Q ↔ jx_Ev d 137 1 [some (.ref x), l1, l2] (.ref x :: st) M Q) ∧
  (∀ (d : Nat) (lv : List (Option Value)) (st : List Value) (M : jx_M) (Q : jx_Po), jx_Ev d 137 1 lv st M Q ↔ jx_Ev d 137 2 lv (.int 0 :: st) M Q) ∧
  (∀ (d : Nat) (lv : List (Option Value)) (st : List Value) (M : jx_M) (Q : jx_Po) (x : Int32), jx_Ev d 137 2 lv (.int x :: .ref 36 :: st) M Q ↔ jx_Ev d 137 5 lv st (jx_up M 36 0 x) Q) ∧
  (∀ (d : Nat) (st : List Value) (M : jx_M) (Q : jx_Po) (l1 l2 : Option Value) (x : Nat), jx_Ev d 137 5 [some (.ref x), l1, l2] st M Q ↔ jx_Ev d 137 6 [some (.ref x), l1, l2] (.ref x :: st) M Q) ∧
  (∀ (d : Nat) (st : List Value) (M : jx_M) (Q : jx_Po) (l0 l2 : Option Value) (x : Int32), jx_Ev d 137 6 [l0, some (.int x), l2] st M Q ↔ jx_Ev d 137 7 [l0, some (.int x), l2] (.int x :: st) M Q) ∧
  (∀ (d : Nat) (lv : List (Option Value)) (M : jx_M) (Q : jx_Po) (a0 : Int32), jx_Ev (d + 1) 137 7 lv [.int a0, .ref 36] M Q ↔ jx_I d 91 [.ref 36, .int a0] M (fun x M => jx_Ev (d + 1) 137 10 lv (.int x :: []) M Q)) ∧
  (∀ (d : Nat) (lv : List (Option Value)) (st : List Value) (M : jx_M) (Q : jx_Po) (x : Int32), jx_Ev d 137 10 lv (.int x :: st) M Q ↔ (if x = 0 then jx_Ev d 137 13 lv st M Q else jx_Ev d 137 15 lv st M Q)) ∧
  (∀ (d : Nat) (lv : List (Option Value)) (st : List Value) (M : jx_M) (Q : jx_Po), jx_Ev d 137 13 lv st M Q ↔ jx_Ev d 137 14 lv (.int (-1) :: st) M Q) ∧
  (∀ (d : Nat) (lv : List (Option Value)) (M : jx_M) (Q : jx_Po) (x : Int32), jx_Ev d 137 14 lv [.int x] M Q ↔ Q [.int x] M) ∧
  (∀ (d : Nat) (st : List Value) (M : jx_M) (Q : jx_Po) (l0 l1 : Option Value) (x : Int32), jx_Ev d 137 15 [l0, l1, some (.int x)] st M Q ↔ jx_Ev d 137 16 [l0, l1, some (.int x)] (.int x :: st) M Q) ∧
  (∀ (d : Nat) (lv : List (Option Value)) (st : List Value) (M : jx_M) (Q : jx_Po), jx_Ev d 137 16 lv st M Q ↔ jx_Ev d 137 17 lv (.int 0 :: st) M Q) ∧
  (∀ (d : Nat) (lv : List (Option Value)) (st : List Value) (M : jx_M) (Q : jx_Po), jx_Ev d 137 17 lv st M Q ↔ jx_Ev d 137 18 lv (.int 2 :: st) M Q) ∧
  (∀ (d : Nat) (lv : List (Option Value)) (M : jx_M) (Q : jx_Po) (a0 : Int32) (a1 : Int32) (a2 : Int32), jx_Ev (d + 1) 137 18 lv [.int a0, .int a1, .int a2] M Q ↔ jx_I d 86 [.int a2, .int a1, .int a0] M (fun x M => jx_Ev (d + 1) 137 21 lv (.int x :: []) M Q)) ∧
  (∀ (d : Nat) (lv : List (Option Value)) (st : List Value) (M : jx_M) (Q : jx_Po) (x : Int32), jx_Ev d 137 21 lv (.int x :: st) M Q ↔ (if x = 0 then jx_Ev d 137 24 lv st M Q else jx_Ev d 137 27 lv st M Q)) ∧
  (∀ (d : Nat) (lv : List (Option Value)) (st : List Value) (M : jx_M) (Q : jx_Po), jx_Ev d 137 24 lv st M Q ↔ jx_Ev d 137 26 lv (.int (-2) :: st) M Q) ∧
  (∀ (d : Nat) (lv : List (Option Value)) (M : jx_M) (Q : jx_Po) (x : Int32), jx_Ev d 137 26 lv [.int x] M Q ↔ Q [.int x] M) ∧
  (∀ (d : Nat) (st : List Value) (M : jx_M) (Q : jx_Po) (l1 l2 : Option Value) (x : Nat), jx_Ev d 137 27 [some (.ref x), l1, l2] st M Q ↔ jx_Ev d 137 28 [some (.ref x), l1, l2] (.ref x :: st) M Q) ∧
  (∀ (d : Nat) (lv : List (Option Value)) (st : List Value) (M : jx_M) (Q : jx_Po), jx_Ev d 137 28 lv (.ref 36 :: st) M Q ↔ jx_Ev d 137 31 lv (.ref 42 :: st) M Q) ∧
  (∀ (d : Nat) (st : List Value) (M : jx_M) (Q : jx_Po) (l0 l2 : Option Value) (x : Int32), jx_Ev d 137 31 [l0, some (.int x), l2] st M Q ↔ jx_Ev d 137 32 [l0, some (.int x), l2] (.int x :: st) M Q) ∧
  (∀ (d : Nat) (lv : List (Option Value)) (st : List Value) (M : jx_M) (Q : jx_Po) (x : Int32) (a : Nat) (ha : jx_cl a = 9), jx_Ev d 137 32 lv (.int x :: .ref a :: st) M Q ↔ (vp_in x (jx_sz a) ∧ jx_Ev d 137 33 lv (.int (M a x.toNatClampNeg) :: st) M Q)) ∧
  (∀ (d : Nat) (st : List Value) (M : jx_M) (Q : jx_Po) (l0 l1 : Option Value) (x : Int32), jx_Ev d 137 33 [l0, l1, some (.int x)] st M Q ↔ jx_Ev d 137 34 [l0, l1, some (.int x)] (.int x :: st) M Q) ∧
  (∀ (d : Nat) (lv : List (Option Value)) (st : List Value) (M : jx_M) (Q : jx_Po) (x z : Int32), jx_Ev d 137 34 lv (.int z :: .int x :: st) M Q ↔ (if x < z then jx_Ev d 137 41 lv st M Q else jx_Ev d 137 37 lv st M Q)) ∧
  (∀ (d : Nat) (lv : List (Option Value)) (st : List Value) (M : jx_M) (Q : jx_Po), jx_Ev d 137 37 lv st M Q ↔ jx_Ev d 137 38 lv (.int 1 :: st) M Q) ∧
  (∀ (d : Nat) (lv : List (Option Value)) (st : List Value) (M : jx_M) (Q : jx_Po), jx_Ev d 137 38 lv st M Q ↔ jx_Ev d 137 46 lv st M Q) ∧
  (∀ (d : Nat) (st : List Value) (M : jx_M) (Q : jx_Po) (l1 l2 : Option Value) (x : Nat), jx_Ev d 137 41 [some (.ref x), l1, l2] st M Q ↔ jx_Ev d 137 42 [some (.ref x), l1, l2] (.ref x :: st) M Q) ∧
  (∀ (d : Nat) (lv : List (Option Value)) (st : List Value) (M : jx_M) (Q : jx_Po), jx_Ev d 137 42 lv st M Q ↔ jx_Ev d 137 43 lv (.int 2 :: st) M Q) ∧
  (∀ (d : Nat) (lv : List (Option Value)) (M : jx_M) (Q : jx_Po) (a0 : Int32), jx_Ev (d + 1) 137 43 lv [.int a0, .ref 36] M Q ↔ jx_I d 84 [.ref 36, .int a0] M (fun x M => jx_Ev (d + 1) 137 46 lv (.int x :: []) M Q)) ∧
  (∀ (d : Nat) (lv : List (Option Value)) (M : jx_M) (Q : jx_Po) (x : Int32), jx_Ev d 137 46 lv [.int x] M Q ↔ Q [.int x] M) := by
  refine ⟨?_, ?_, ?_, ?_, ?_, ?_, ?_, ?_, ?_, ?_, ?_, ?_, ?_, ?_, ?_, ?_, ?_, ?_, ?_, ?_, ?_, ?_, ?_, ?_, ?_, ?_, ?_, ?_⟩
  · exact fun d st M Q l1 l2 x => jx_ev_st (jx_fok (by decide +kernel : decode (jx_mb 137) 0 = .ok (.aload_n 0, 1))) rfl rfl rfl
  · exact fun d lv st M Q => jx_ev_st (jx_fok (by decide +kernel : decode (jx_mb 137) 1 = .ok (.iconst 0, 1))) rfl rfl rfl
  · exact fun d lv st M Q x => jx_k_pf0 (jx_fok (by decide +kernel : decode (jx_mb 137) 2 = .ok (.putfield 67, 3))) rfl rfl rfl
  · exact fun d st M Q l1 l2 x => jx_ev_st (jx_fok (by decide +kernel : decode (jx_mb 137) 5 = .ok (.aload_n 0, 1))) rfl rfl rfl
  · exact fun d st M Q l0 l2 x => jx_ev_st (jx_fok (by decide +kernel : decode (jx_mb 137) 6 = .ok (.iload_n 1, 1))) rfl rfl rfl
  · exact fun d lv M Q a0 => jx_ev_ci (jx_fok (by decide +kernel : decode (jx_mb 137) 7 = .ok (.invokevirtual 148, 3))) rfl (jx_ccV (As := [.int a0]) (rest := []) rfl rfl rfl rfl rfl rfl) (by decide)
  · exact fun d lv st M Q x => jx_k_b1n (jx_fok (by decide +kernel : decode (jx_mb 137) 10 = .ok (.ifCond .ne 5, 3))) rfl jx_hNe
  · exact fun d lv st M Q => jx_ev_st (jx_fok (by decide +kernel : decode (jx_mb 137) 13 = .ok (.iconst (-1), 1))) rfl rfl rfl
  · exact fun d lv M Q x => jx_k_ri (jx_fok (by decide +kernel : decode (jx_mb 137) 14 = .ok (.ireturn, 1))) rfl
  · exact fun d st M Q l0 l1 x => jx_ev_st (jx_fok (by decide +kernel : decode (jx_mb 137) 15 = .ok (.iload_n 2, 1))) rfl rfl rfl
  · exact fun d lv st M Q => jx_ev_st (jx_fok (by decide +kernel : decode (jx_mb 137) 16 = .ok (.iconst 0, 1))) rfl rfl rfl
  · exact fun d lv st M Q => jx_ev_st (jx_fok (by decide +kernel : decode (jx_mb 137) 17 = .ok (.iconst 2, 1))) rfl rfl rfl
  · exact fun d lv M Q a0 a1 a2 => jx_ev_ci (jx_fok (by decide +kernel : decode (jx_mb 137) 18 = .ok (.invokestatic 73, 3))) rfl (jx_ccS (As := [.int a2, .int a1, .int a0]) (rest := []) rfl rfl rfl rfl rfl) (by decide)
  · exact fun d lv st M Q x => jx_k_b1n (jx_fok (by decide +kernel : decode (jx_mb 137) 21 = .ok (.ifCond .ne 6, 3))) rfl jx_hNe
  · exact fun d lv st M Q => jx_ev_st (jx_fok (by decide +kernel : decode (jx_mb 137) 24 = .ok (.bipush (-2), 2))) rfl rfl rfl
  · exact fun d lv M Q x => jx_k_ri (jx_fok (by decide +kernel : decode (jx_mb 137) 26 = .ok (.ireturn, 1))) rfl
  · exact fun d st M Q l1 l2 x => jx_ev_st (jx_fok (by decide +kernel : decode (jx_mb 137) 27 = .ok (.aload_n 0, 1))) rfl rfl rfl
  · exact fun d lv st M Q => jx_k_gf (jx_fok (by decide +kernel : decode (jx_mb 137) 28 = .ok (.getfield 25, 3))) rfl rfl rfl
  · exact fun d st M Q l0 l2 x => jx_ev_st (jx_fok (by decide +kernel : decode (jx_mb 137) 31 = .ok (.iload_n 1, 1))) rfl rfl rfl
  · exact fun d lv st M Q x a ha => jx_k_al (jx_fok (by decide +kernel : decode (jx_mb 137) 32 = .ok (.iaload, 1))) ha
  · exact fun d st M Q l0 l1 x => jx_ev_st (jx_fok (by decide +kernel : decode (jx_mb 137) 33 = .ok (.iload_n 2, 1))) rfl rfl rfl
  · exact fun d lv st M Q x z => jx_k_b2 (jx_fok (by decide +kernel : decode (jx_mb 137) 34 = .ok (.if_icmp .lt 7, 3))) rfl jx_hLt
  · exact fun d lv st M Q => jx_ev_st (jx_fok (by decide +kernel : decode (jx_mb 137) 37 = .ok (.iconst 1, 1))) rfl rfl rfl
  · exact fun d lv st M Q => jx_k_goto (jx_fok (by decide +kernel : decode (jx_mb 137) 38 = .ok (.goto 8, 3))) rfl
  · exact fun d st M Q l1 l2 x => jx_ev_st (jx_fok (by decide +kernel : decode (jx_mb 137) 41 = .ok (.aload_n 0, 1))) rfl rfl rfl
  · exact fun d lv st M Q => jx_ev_st (jx_fok (by decide +kernel : decode (jx_mb 137) 42 = .ok (.iconst 2, 1))) rfl rfl rfl
  · exact fun d lv M Q a0 => jx_ev_ci (jx_fok (by decide +kernel : decode (jx_mb 137) 43 = .ok (.invokevirtual 97, 3))) rfl (jx_ccV (As := [.int a0]) (rest := []) rfl rfl rfl rfl rfl rfl) (by decide)
  · exact fun d lv M Q x => jx_k_ri (jx_fok (by decide +kernel : decode (jx_mb 137) 46 = .ok (.ireturn, 1))) rfl
theorem kX8_as (d : Nat) (M : jx_M) (q : Int32 → jx_M → Prop) (a0 a1 a2 : Value) : jx_I d 137 [a0, a1, a2] M q ↔ jx_Ev d 137 0 [some a0, some a1, some a2] [] M (jx_qI q) := Iff.rfl
set_option maxRecDepth 100000 in
theorem eX8_trace :
  (∀ (d : Nat) (st : List Value) (M : jx_M) (Q : jx_Po) (x : Nat), jx_Ev d 138 0 [some (.ref x)] st M Q ↔ jx_Ev d 138 1 [some (.ref x)] (.ref x :: st) M Q) ∧
  (∀ (d : Nat) (lv : List (Option Value)) (st : List Value) (M : jx_M) (Q : jx_Po), jx_Ev d 138 1 lv (.ref 36 :: st) M Q ↔ jx_Ev d 138 4 lv (.int (M 36 1) :: st) M Q) ∧
  (∀ (d : Nat) (lv : List (Option Value)) (M : jx_M) (Q : jx_Po) (x : Int32), jx_Ev d 138 4 lv [.int x] M Q ↔ Q [.int x] M) := by
  refine ⟨?_, ?_, ?_⟩
  · exact fun d st M Q x => jx_ev_st (jx_fok (by decide +kernel : decode (jx_mb 138) 0 = .ok (.aload_n 0, 1))) rfl rfl rfl
  · exact fun d lv st M Q => jx_k_gf (jx_fok (by decide +kernel : decode (jx_mb 138) 1 = .ok (.getfield 191, 3))) rfl rfl rfl
  · exact fun d lv M Q x => jx_k_ri (jx_fok (by decide +kernel : decode (jx_mb 138) 4 = .ok (.ireturn, 1))) rfl
theorem kX8_trace (d : Nat) (M : jx_M) (q : Int32 → jx_M → Prop) (a0 : Value) : jx_I d 138 [a0] M q ↔ jx_Ev d 138 0 [some a0] [] M (jx_qI q) := Iff.rfl
set_option maxRecDepth 100000 in
theorem eX8_fault :
  (∀ (d : Nat) (st : List Value) (M : jx_M) (Q : jx_Po) (x : Nat), jx_Ev d 139 0 [some (.ref x)] st M Q ↔ jx_Ev d 139 1 [some (.ref x)] (.ref x :: st) M Q) ∧
  (∀ (d : Nat) (lv : List (Option Value)) (st : List Value) (M : jx_M) (Q : jx_Po), jx_Ev d 139 1 lv (.ref 36 :: st) M Q ↔ jx_Ev d 139 4 lv (.int (M 36 0) :: st) M Q) ∧
  (∀ (d : Nat) (lv : List (Option Value)) (M : jx_M) (Q : jx_Po) (x : Int32), jx_Ev d 139 4 lv [.int x] M Q ↔ Q [.int x] M) := by
  refine ⟨?_, ?_, ?_⟩
  · exact fun d st M Q x => jx_ev_st (jx_fok (by decide +kernel : decode (jx_mb 139) 0 = .ok (.aload_n 0, 1))) rfl rfl rfl
  · exact fun d lv st M Q => jx_k_gf (jx_fok (by decide +kernel : decode (jx_mb 139) 1 = .ok (.getfield 67, 3))) rfl rfl rfl
  · exact fun d lv M Q x => jx_k_ri (jx_fok (by decide +kernel : decode (jx_mb 139) 4 = .ok (.ireturn, 1))) rfl
theorem kX8_fault (d : Nat) (M : jx_M) (q : Int32 → jx_M → Prop) (a0 : Value) : jx_I d 139 [a0] M q ↔ jx_Ev d 139 0 [some a0] [] M (jx_qI q) := Iff.rfl
set_option maxRecDepth 100000 in
theorem eX8_many :
  (∀ (d : Nat) (st : List Value) (M : jx_M) (Q : jx_Po) (l0 : Option Value) (x : Int32), jx_Ev d 140 0 [l0, some (.int x)] st M Q ↔ jx_Ev d 140 1 [l0, some (.int x)] (.int x :: st) M Q) ∧
  (∀ (d : Nat) (lv : List (Option Value)) (st : List Value) (M : jx_M) (Q : jx_Po) (x : Int32), jx_Ev d 140 1 lv (.int x :: st) M Q ↔ (if x = 0 then jx_Ev d 140 36 lv st M Q else if x = 1 then jx_Ev d 140 41 lv st M Q else if x = 2 then jx_Ev d 140 46 lv st M Q else if x = 3 then jx_Ev d 140 51 lv st M Q else if x = 4 then jx_Ev d 140 56 lv st M Q else jx_Ev d 140 61 lv st M Q)) ∧
  (∀ (d : Nat) (st : List Value) (M : jx_M) (Q : jx_Po) (l1 : Option Value) (x : Nat), jx_Ev d 140 36 [some (.ref x), l1] st M Q ↔ jx_Ev d 140 37 [some (.ref x), l1] (.ref x :: st) M Q) ∧
  (∀ (d : Nat) (lv : List (Option Value)) (st : List Value) (M : jx_M) (Q : jx_Po), jx_Ev d 140 37 lv (.ref 36 :: st) M Q ↔ jx_Ev d 140 40 lv (.int (M 36 6) :: st) M Q) ∧
  (∀ (d : Nat) (lv : List (Option Value)) (M : jx_M) (Q : jx_Po) (x : Int32), jx_Ev d 140 40 lv [.int x] M Q ↔ Q [.int x] M) ∧
  (∀ (d : Nat) (st : List Value) (M : jx_M) (Q : jx_Po) (l1 : Option Value) (x : Nat), jx_Ev d 140 41 [some (.ref x), l1] st M Q ↔ jx_Ev d 140 42 [some (.ref x), l1] (.ref x :: st) M Q) ∧
  (∀ (d : Nat) (lv : List (Option Value)) (st : List Value) (M : jx_M) (Q : jx_Po), jx_Ev d 140 42 lv (.ref 36 :: st) M Q ↔ jx_Ev d 140 45 lv (.int (M 36 5) :: st) M Q) ∧
  (∀ (d : Nat) (lv : List (Option Value)) (M : jx_M) (Q : jx_Po) (x : Int32), jx_Ev d 140 45 lv [.int x] M Q ↔ Q [.int x] M) ∧
  (∀ (d : Nat) (st : List Value) (M : jx_M) (Q : jx_Po) (l1 : Option Value) (x : Nat), jx_Ev d 140 46 [some (.ref x), l1] st M Q ↔ jx_Ev d 140 47 [some (.ref x), l1] (.ref x :: st) M Q) ∧
  (∀ (d : Nat) (lv : List (Option Value)) (st : List Value) (M : jx_M) (Q : jx_Po), jx_Ev d 140 47 lv (.ref 36 :: st) M Q ↔ jx_Ev d 140 50 lv (.int (M 36 7) :: st) M Q) ∧
  (∀ (d : Nat) (lv : List (Option Value)) (M : jx_M) (Q : jx_Po) (x : Int32), jx_Ev d 140 50 lv [.int x] M Q ↔ Q [.int x] M) ∧
  (∀ (d : Nat) (st : List Value) (M : jx_M) (Q : jx_Po) (l1 : Option Value) (x : Nat), jx_Ev d 140 51 [some (.ref x), l1] st M Q ↔ jx_Ev d 140 52 [some (.ref x), l1] (.ref x :: st) M Q) ∧
  (∀ (d : Nat) (lv : List (Option Value)) (st : List Value) (M : jx_M) (Q : jx_Po), jx_Ev d 140 52 lv (.ref 36 :: st) M Q ↔ jx_Ev d 140 55 lv (.int (M 36 8) :: st) M Q) ∧
  (∀ (d : Nat) (lv : List (Option Value)) (M : jx_M) (Q : jx_Po) (x : Int32), jx_Ev d 140 55 lv [.int x] M Q ↔ Q [.int x] M) ∧
  (∀ (d : Nat) (st : List Value) (M : jx_M) (Q : jx_Po) (l1 : Option Value) (x : Nat), jx_Ev d 140 56 [some (.ref x), l1] st M Q ↔ jx_Ev d 140 57 [some (.ref x), l1] (.ref x :: st) M Q) ∧
  (∀ (d : Nat) (lv : List (Option Value)) (st : List Value) (M : jx_M) (Q : jx_Po), jx_Ev d 140 57 lv (.ref 36 :: st) M Q ↔ jx_Ev d 140 60 lv (.int (M 36 27) :: st) M Q) ∧
  (∀ (d : Nat) (lv : List (Option Value)) (M : jx_M) (Q : jx_Po) (x : Int32), jx_Ev d 140 60 lv [.int x] M Q ↔ Q [.int x] M) ∧
  (∀ (d : Nat) (lv : List (Option Value)) (st : List Value) (M : jx_M) (Q : jx_Po), jx_Ev d 140 61 lv st M Q ↔ jx_Ev d 140 63 lv (.int (-2) :: st) M Q) ∧
  (∀ (d : Nat) (lv : List (Option Value)) (M : jx_M) (Q : jx_Po) (x : Int32), jx_Ev d 140 63 lv [.int x] M Q ↔ Q [.int x] M) := by
  refine ⟨?_, ?_, ?_, ?_, ?_, ?_, ?_, ?_, ?_, ?_, ?_, ?_, ?_, ?_, ?_, ?_, ?_, ?_, ?_⟩
  · exact fun d st M Q l0 x => jx_ev_st (jx_fok (by decide +kernel : decode (jx_mb 140) 0 = .ok (.iload_n 1, 1))) rfl rfl rfl
  · intro d lv st M Q x
    by_cases h0 : x = 0
    · subst h0; rw [if_pos rfl]; exact jx_k_tsi (jx_fok (by decide +kernel : decode (jx_mb 140) 1 = .ok (.tableswitch 60 0 4 #[35, 40, 45, 50, 55], 35))) (by decide) rfl rfl
    rw [if_neg h0]
    by_cases h1 : x = 1
    · subst h1; rw [if_pos rfl]; exact jx_k_tsi (jx_fok (by decide +kernel : decode (jx_mb 140) 1 = .ok (.tableswitch 60 0 4 #[35, 40, 45, 50, 55], 35))) (by decide) rfl rfl
    rw [if_neg h1]
    by_cases h2 : x = 2
    · subst h2; rw [if_pos rfl]; exact jx_k_tsi (jx_fok (by decide +kernel : decode (jx_mb 140) 1 = .ok (.tableswitch 60 0 4 #[35, 40, 45, 50, 55], 35))) (by decide) rfl rfl
    rw [if_neg h2]
    by_cases h3 : x = 3
    · subst h3; rw [if_pos rfl]; exact jx_k_tsi (jx_fok (by decide +kernel : decode (jx_mb 140) 1 = .ok (.tableswitch 60 0 4 #[35, 40, 45, 50, 55], 35))) (by decide) rfl rfl
    rw [if_neg h3]
    by_cases h4 : x = 4
    · subst h4; rw [if_pos rfl]; exact jx_k_tsi (jx_fok (by decide +kernel : decode (jx_mb 140) 1 = .ok (.tableswitch 60 0 4 #[35, 40, 45, 50, 55], 35))) (by decide) rfl rfl
    rw [if_neg h4]
    exact jx_k_tso (jx_fok (by decide +kernel : decode (jx_mb 140) 1 = .ok (.tableswitch 60 0 4 #[35, 40, 45, 50, 55], 35))) (by have e := jx_tsx5 (x := x) h0 h1 h2 h3 h4; omega) rfl
  · exact fun d st M Q l1 x => jx_ev_st (jx_fok (by decide +kernel : decode (jx_mb 140) 36 = .ok (.aload_n 0, 1))) rfl rfl rfl
  · exact fun d lv st M Q => jx_k_gf (jx_fok (by decide +kernel : decode (jx_mb 140) 37 = .ok (.getfield 80, 3))) rfl rfl rfl
  · exact fun d lv M Q x => jx_k_ri (jx_fok (by decide +kernel : decode (jx_mb 140) 40 = .ok (.ireturn, 1))) rfl
  · exact fun d st M Q l1 x => jx_ev_st (jx_fok (by decide +kernel : decode (jx_mb 140) 41 = .ok (.aload_n 0, 1))) rfl rfl rfl
  · exact fun d lv st M Q => jx_k_gf (jx_fok (by decide +kernel : decode (jx_mb 140) 42 = .ok (.getfield 77, 3))) rfl rfl rfl
  · exact fun d lv M Q x => jx_k_ri (jx_fok (by decide +kernel : decode (jx_mb 140) 45 = .ok (.ireturn, 1))) rfl
  · exact fun d st M Q l1 x => jx_ev_st (jx_fok (by decide +kernel : decode (jx_mb 140) 46 = .ok (.aload_n 0, 1))) rfl rfl rfl
  · exact fun d lv st M Q => jx_k_gf (jx_fok (by decide +kernel : decode (jx_mb 140) 47 = .ok (.getfield 110, 3))) rfl rfl rfl
  · exact fun d lv M Q x => jx_k_ri (jx_fok (by decide +kernel : decode (jx_mb 140) 50 = .ok (.ireturn, 1))) rfl
  · exact fun d st M Q l1 x => jx_ev_st (jx_fok (by decide +kernel : decode (jx_mb 140) 51 = .ok (.aload_n 0, 1))) rfl rfl rfl
  · exact fun d lv st M Q => jx_k_gf (jx_fok (by decide +kernel : decode (jx_mb 140) 52 = .ok (.getfield 116, 3))) rfl rfl rfl
  · exact fun d lv M Q x => jx_k_ri (jx_fok (by decide +kernel : decode (jx_mb 140) 55 = .ok (.ireturn, 1))) rfl
  · exact fun d st M Q l1 x => jx_ev_st (jx_fok (by decide +kernel : decode (jx_mb 140) 56 = .ok (.aload_n 0, 1))) rfl rfl rfl
  · exact fun d lv st M Q => jx_k_gf (jx_fok (by decide +kernel : decode (jx_mb 140) 57 = .ok (.getfield 125, 3))) rfl rfl rfl
  · exact fun d lv M Q x => jx_k_ri (jx_fok (by decide +kernel : decode (jx_mb 140) 60 = .ok (.ireturn, 1))) rfl
  · exact fun d lv st M Q => jx_ev_st (jx_fok (by decide +kernel : decode (jx_mb 140) 61 = .ok (.bipush (-2), 2))) rfl rfl rfl
  · exact fun d lv M Q x => jx_k_ri (jx_fok (by decide +kernel : decode (jx_mb 140) 63 = .ok (.ireturn, 1))) rfl
theorem kX8_many (d : Nat) (M : jx_M) (q : Int32 → jx_M → Prop) (a0 a1 : Value) : jx_I d 140 [a0, a1] M q ↔ jx_Ev d 140 0 [some a0, some a1] [] M (jx_qI q) := Iff.rfl
