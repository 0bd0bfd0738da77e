/-! one-instruction rewritings of the run, by kind -/
section JXK
variable {d y pc t : Nat} {lv : List (Option Value)} {st : List Value} {M : jx_M} {Q : jx_Po} {x z : Int32} {off : Int}
theorem jx_hEq : jx_h .eq x z = true ↔ x = z := by simp [jx_h]
theorem jx_hNe : jx_h .ne x z = true ↔ ¬ x = z := by simp [jx_h]
theorem jx_hLt : jx_h .lt x z = true ↔ x < z := by simp [jx_h]
theorem jx_hGe : jx_h .ge x z = true ↔ z ≤ x := by simp [jx_h]
theorem jx_hGt : jx_h .gt x z = true ↔ z < x := by simp [jx_h]
theorem jx_hLe : jx_h .le x z = true ↔ x ≤ z := by simp [jx_h]
theorem jx_k_b1 {c : ClassFile.Cond} {P : Prop} [Decidable P] (hf : jx_ft y pc = some (.ifCond c off, 3)) (ht : jx_jp pc off = some t) (hc : jx_h c x 0 = true ↔ P) : jx_Ev d y pc lv (.int x :: st) M Q ↔ if P then jx_Ev d y t lv st M Q else jx_Ev d y (pc + 3) lv st M Q := by
  rw [jx_ev_st (pc' := if jx_h c x 0 = true then t else pc + 3) (lv' := lv) (st' := st) (M' := M) hf rfl rfl (by simp only [jx_st, jx_br1, ht, if_true])]
  by_cases h : P
  · rw [if_pos h, if_pos (hc.mpr h)]
  · rw [if_neg h, if_neg (fun q => h (hc.mp q))]
theorem jx_k_b1n {c : ClassFile.Cond} {P : Prop} [Decidable P] (hf : jx_ft y pc = some (.ifCond c off, 3)) (ht : jx_jp pc off = some t) (hc : jx_h c x 0 = true ↔ ¬ P) : jx_Ev d y pc lv (.int x :: st) M Q ↔ if P then jx_Ev d y (pc + 3) lv st M Q else jx_Ev d y t lv st M Q := by
  rw [jx_ev_st (pc' := if jx_h c x 0 = true then t else pc + 3) (lv' := lv) (st' := st) (M' := M) hf rfl rfl (by simp only [jx_st, jx_br1, ht, if_true])]
  by_cases h : P
  · rw [if_pos h, if_neg (fun q => hc.mp q h)]
  · rw [if_neg h, if_pos (hc.mpr h)]
theorem jx_k_b2 {c : ClassFile.Cond} {P : Prop} [Decidable P] (hf : jx_ft y pc = some (.if_icmp c off, 3)) (ht : jx_jp pc off = some t) (hc : jx_h c x z = true ↔ P) : jx_Ev d y pc lv (.int z :: .int x :: st) M Q ↔ if P then jx_Ev d y t lv st M Q else jx_Ev d y (pc + 3) lv st M Q := by
  rw [jx_ev_st (pc' := if jx_h c x z = true then t else pc + 3) (lv' := lv) (st' := st) (M' := M) hf rfl rfl (by simp only [jx_st, jx_br2, ht, if_true])]
  by_cases h : P
  · rw [if_pos h, if_pos (hc.mpr h)]
  · rw [if_neg h, if_neg (fun q => h (hc.mp q))]
theorem jx_k_b2n {c : ClassFile.Cond} {P : Prop} [Decidable P] (hf : jx_ft y pc = some (.if_icmp c off, 3)) (ht : jx_jp pc off = some t) (hc : jx_h c x z = true ↔ ¬ P) : jx_Ev d y pc lv (.int z :: .int x :: st) M Q ↔ if P then jx_Ev d y (pc + 3) lv st M Q else jx_Ev d y t lv st M Q := by
  rw [jx_ev_st (pc' := if jx_h c x z = true then t else pc + 3) (lv' := lv) (st' := st) (M' := M) hf rfl rfl (by simp only [jx_st, jx_br2, ht, if_true])]
  by_cases h : P
  · rw [if_pos h, if_neg (fun q => hc.mp q h)]
  · rw [if_neg h, if_pos (hc.mpr h)]
theorem jx_k_goto (hf : jx_ft y pc = some (.goto off, 3)) (ht : jx_jp pc off = some t) : jx_Ev d y pc lv st M Q ↔ jx_Ev d y t lv st M Q :=
  jx_ev_st hf rfl rfl (by simp only [jx_st, ht, if_true])
theorem jx_k_nr {k : Nat} (hf : jx_ft y pc = some (.ifnull off, 3)) : jx_Ev d y pc lv (.ref k :: st) M Q ↔ jx_Ev d y (pc + 3) lv st M Q := jx_ev_st hf rfl rfl rfl
theorem jx_k_nn (hf : jx_ft y pc = some (.ifnull off, 3)) (ht : jx_jp pc off = some t) : jx_Ev d y pc lv (.null :: st) M Q ↔ jx_Ev d y t lv st M Q :=
  jx_ev_st hf rfl rfl (by simp only [jx_st, jx_brn, ht, if_true])
/-- fields -/
theorem jx_k_gf {i ci j k : Nat} {v : Value} (hf : jx_ft y pc = some (.getfield i, 3)) (hl : jx_fl (jx_mo y) i = some (ci, j)) (hk : jx_cl k = ci) (hv : jx_fv (jx_fk ci j) (M k) k j = v) : jx_Ev d y pc lv (.ref k :: st) M Q ↔ jx_Ev d y (pc + 3) lv (v :: st) M Q :=
  jx_ev_st hf rfl rfl (by simp only [jx_st, jx_gf, hl, hk, hv, if_true])
theorem jx_k_pf0 {i ci j k : Nat} (hf : jx_ft y pc = some (.putfield i, 3)) (hl : jx_fl (jx_mo y) i = some (ci, j)) (hk : jx_cl k = ci) (hv : jx_fk ci j = 0) : jx_Ev d y pc lv (.int x :: .ref k :: st) M Q ↔ jx_Ev d y (pc + 3) lv st (jx_up M k j x) Q :=
  jx_ev_st hf rfl rfl (by simp only [jx_st, jx_pf, hl, hk, hv, if_true, true_and, true_or])
theorem jx_k_pf1 {i ci j k : Nat} (hf : jx_ft y pc = some (.putfield i, 3)) (hl : jx_fl (jx_mo y) i = some (ci, j)) (hk : jx_cl k = ci) (hv : jx_fk ci j = 1) : jx_Ev d y pc lv (.int x :: .ref k :: st) M Q ↔ (x = 0 ∨ x = 1) ∧ jx_Ev d y (pc + 3) lv st (jx_up M k j x) Q := by
  by_cases h : x = 0 ∨ x = 1
  · rw [jx_ev_st (pc' := pc + 3) (lv' := lv) (st' := st) (M' := jx_up M k j x) hf rfl rfl (by simp [jx_st, jx_pf, hl, hk, hv, h])]
    exact ⟨fun q => ⟨h, q⟩, fun q => q.2⟩
  · exact ⟨fun q => absurd q (jx_ev_no hf rfl rfl (by simp [jx_st, jx_pf, hl, hk, hv, h])), fun q => absurd q.1 h⟩
theorem jx_k_pf2 {i ci j k o : Nat} (hf : jx_ft y pc = some (.putfield i, 3)) (hl : jx_fl (jx_mo y) i = some (ci, j)) (hk : jx_cl k = ci) (hv : jx_fk ci j = 2) (ho : o < 56) : jx_Ev d y pc lv (.ref o :: .ref k :: st) M Q ↔ jx_Ev d y (pc + 3) lv st (jx_up M k j (nI o)) Q :=
  jx_ev_st hf rfl rfl (by simp only [jx_st, jx_pf, hl, hk, hv, ho, if_true, true_and, and_self])
/-- rows -/
theorem jx_k_al {a : Nat} (hf : jx_ft y pc = some (.iaload, 1)) (ha : jx_cl a = 9) : jx_Ev d y pc lv (.int x :: .ref a :: st) M Q ↔ vp_in x (jx_sz a) ∧ jx_Ev d y (pc + 1) lv (.int (M a x.toNatClampNeg) :: st) M Q := by
  unfold vp_in
  by_cases h : ¬ (x < 0 ∨ jx_sz a ≤ x.toNatClampNeg)
  · rw [jx_ev_st (pc' := pc + 1) (lv' := lv) (st' := .int (M a x.toNatClampNeg) :: st) (M' := M) hf rfl rfl (by simp only [jx_st, jx_al, ha, if_pos h, if_true, true_and])]
    exact ⟨fun q => ⟨h, q⟩, fun q => q.2⟩
  · exact ⟨fun q => absurd q (jx_ev_no hf rfl rfl (by simp only [jx_st, jx_al, ha, if_neg h, if_true, true_and])), fun q => absurd q.1 h⟩
theorem jx_k_as {a : Nat} (hf : jx_ft y pc = some (.iastore, 1)) (ha : jx_cl a = 9) : jx_Ev d y pc lv (.int z :: .int x :: .ref a :: st) M Q ↔ vp_in x (jx_sz a) ∧ jx_Ev d y (pc + 1) lv st (jx_up M a x.toNatClampNeg z) Q := by
  unfold vp_in
  by_cases h : ¬ (x < 0 ∨ jx_sz a ≤ x.toNatClampNeg)
  · rw [jx_ev_st (pc' := pc + 1) (lv' := lv) (st' := st) (M' := jx_up M a x.toNatClampNeg z) hf rfl rfl (by simp only [jx_st, jx_as, ha, if_pos h, if_true, true_and])]
    exact ⟨fun q => ⟨h, q⟩, fun q => q.2⟩
  · exact ⟨fun q => absurd q (jx_ev_no hf rfl rfl (by simp only [jx_st, jx_as, ha, if_neg h, if_true, true_and])), fun q => absurd q.1 h⟩
theorem jx_k_aa (hf : jx_ft y pc = some (.aaload, 1)) : jx_Ev d y pc lv (.int x :: .ref 1 :: st) M Q ↔ vp_in x 4 ∧ jx_Ev d y (pc + 1) lv (.ref (jx_sp x) :: st) M Q := by
  unfold vp_in
  by_cases h : ¬ (x < 0 ∨ 4 ≤ x.toNatClampNeg)
  · rw [jx_ev_st (pc' := pc + 1) (lv' := lv) (st' := .ref (jx_sp x) :: st) (M' := M) hf rfl rfl (by simp only [jx_st, jx_aa, if_pos h, if_true, true_and])]
    exact ⟨fun q => ⟨h, q⟩, fun q => q.2⟩
  · exact ⟨fun q => absurd q (jx_ev_no hf rfl rfl (by simp only [jx_st, jx_aa, if_neg h, if_true, true_and])), fun q => absurd q.1 h⟩
theorem jx_k_idiv (hf : jx_ft y pc = some (.idiv, 1)) : jx_Ev d y pc lv (.int z :: .int x :: st) M Q ↔ ¬ z = 0 ∧ jx_Ev d y (pc + 1) lv (.int (x / z) :: st) M Q := by
  by_cases h : z = 0
  · exact ⟨fun q => absurd q (jx_ev_no hf rfl rfl (by simp only [jx_st, jx_dv, h, if_true])), fun q => absurd h q.1⟩
  · rw [jx_ev_st (pc' := pc + 1) (lv' := lv) (st' := .int (x / z) :: st) (M' := M) hf rfl rfl (by simp only [jx_st, jx_dv, if_neg h, if_true])]
    exact ⟨fun q => ⟨h, q⟩, fun q => q.2⟩
theorem jx_k_irem (hf : jx_ft y pc = some (.irem, 1)) : jx_Ev d y pc lv (.int z :: .int x :: st) M Q ↔ ¬ z = 0 ∧ jx_Ev d y (pc + 1) lv (.int (x - x / z * z) :: st) M Q := by
  by_cases h : z = 0
  · exact ⟨fun q => absurd q (jx_ev_no hf rfl rfl (by simp only [jx_st, jx_dv, h, if_true])), fun q => absurd h q.1⟩
  · rw [jx_ev_st (pc' := pc + 1) (lv' := lv) (st' := .int (x - x / z * z) :: st) (M' := M) hf rfl rfl (by simp only [jx_st, jx_dv, if_neg h, if_true])]
    exact ⟨fun q => ⟨h, q⟩, fun q => q.2⟩
/-- ends -/
theorem jx_k_ri (hf : jx_ft y pc = some (.ireturn, 1)) (hr : jx_mr y = some .int) : jx_Ev d y pc lv [.int x] M Q ↔ Q [.int x] M :=
  jx_ev_rt hf (by simp only [jx_rt, hr, true_or, and_self, if_true])
theorem jx_k_rz (hf : jx_ft y pc = some (.ireturn, 1)) (hr : jx_mr y = some .boolean) : jx_Ev d y pc lv [.int x] M Q ↔ (x = 0 ∨ x = 1) ∧ Q [.int x] M := by
  by_cases h : x = 0 ∨ x = 1
  · rw [jx_ev_rt (r := [.int x]) hf (by simp [jx_rt, hr, h])]
    exact ⟨fun q => ⟨h, q⟩, fun q => q.2⟩
  · exact ⟨fun q => absurd q (jx_ev_no hf (by simp [jx_rt, hr, h]) rfl rfl), fun q => absurd q.1 h⟩
theorem jx_k_rl {x : Int64} (hf : jx_ft y pc = some (.lreturn, 1)) (hr : jx_mr y = some .long) : jx_Ev d y pc lv [.long x] M Q ↔ Q [.long x] M :=
  jx_ev_rt hf (by simp only [jx_rt, hr, and_self, if_true])
theorem jx_k_rv (hf : jx_ft y pc = some (.return_, 1)) (hr : jx_mr y = none) : jx_Ev d y pc lv [] M Q ↔ Q [] M :=
  jx_ev_rt hf (by simp only [jx_rt, hr, and_self, if_true])
/-- the library's -/
theorem jx_k_max {k : Nat} (hf : jx_ft y pc = some (.invokestatic k, 3)) (hm : jx_ml (jx_mo y) k = none) (hb : jx_bi (jx_mo y) k = 1) (hs : jx_sum st ≤ 8) : jx_Ev (d + 1) y pc lv (.int z :: .int x :: st) M Q ↔ jx_Ev (d + 1) y (pc + 3) lv (.int (if x < z then z else x) :: st) M Q :=
  jx_ev_st hf rfl (by simp only [jx_cc, hm]) (by simp only [jx_st, hb, jx_nat, hs, if_true, and_true, Nat.zero_lt_succ])
theorem jx_k_min {k : Nat} (hf : jx_ft y pc = some (.invokestatic k, 3)) (hm : jx_ml (jx_mo y) k = none) (hb : jx_bi (jx_mo y) k = 2) (hs : jx_sum st ≤ 8) : jx_Ev (d + 1) y pc lv (.int z :: .int x :: st) M Q ↔ jx_Ev (d + 1) y (pc + 3) lv (.int (if z < x then z else x) :: st) M Q :=
  jx_ev_st hf rfl (by simp only [jx_cc, hm]) (by simp only [jx_st, hb, jx_nat, hs, if_true, and_true, Nat.zero_lt_succ])
theorem jx_k_abs {k : Nat} (hf : jx_ft y pc = some (.invokestatic k, 3)) (hm : jx_ml (jx_mo y) k = none) (hb : jx_bi (jx_mo y) k = 3) (hs : jx_sum st ≤ 8) : jx_Ev (d + 1) y pc lv (.int x :: st) M Q ↔ jx_Ev (d + 1) y (pc + 3) lv (.int (if 0 ≤ x then x else 0 - x) :: st) M Q :=
  jx_ev_st hf rfl (by simp only [jx_cc, hm]) (by simp only [jx_st, hb, jx_nat, hs, if_true, and_true, Nat.zero_lt_succ])
def jx_cpP (a b : Nat) (sp dp n : Int32) : Prop := ¬ sp < 0 ∧ ¬ dp < 0 ∧ ¬ n < 0 ∧ sp.toNatClampNeg + n.toNatClampNeg ≤ jx_sz a ∧ dp.toNatClampNeg + n.toNatClampNeg ≤ jx_sz b
theorem jx_k_cpy {k a b : Nat} {n dp sp : Int32} (hf : jx_ft y pc = some (.invokestatic k, 3)) (hm : jx_ml (jx_mo y) k = none) (hb : jx_bi (jx_mo y) k = 4) (hs : jx_sum st ≤ 8) (ha : jx_cl a = 9) (hb9 : jx_cl b = 9) : jx_Ev (d + 1) y pc lv (.int n :: .int dp :: .ref b :: .int sp :: .ref a :: st) M Q ↔ jx_cpP a b sp dp n ∧ jx_Ev (d + 1) y (pc + 3) lv st (jx_cp M a b sp dp n) Q := by
  unfold jx_cpP
  by_cases h : ¬ sp < 0 ∧ ¬ dp < 0 ∧ ¬ n < 0 ∧ sp.toNatClampNeg + n.toNatClampNeg ≤ jx_sz a ∧ dp.toNatClampNeg + n.toNatClampNeg ≤ jx_sz b
  · rw [jx_ev_st (pc' := pc + 3) (lv' := lv) (st' := st) (M' := jx_cp M a b sp dp n) hf rfl (by simp only [jx_cc, hm]) (by simp only [jx_st, hb, jx_nat, hs, ha, hb9, if_pos h, if_true, true_and, Nat.zero_lt_succ])]
    exact ⟨fun q => ⟨h, q⟩, fun q => q.2⟩
  · exact ⟨fun q => absurd q (jx_ev_no hf rfl (by simp only [jx_cc, hm]) (by simp only [jx_st, hb, jx_nat, hs, ha, hb9, if_neg h, if_true, true_and, Nat.zero_lt_succ])), fun q => absurd q.1 h⟩
theorem jx_k_ilt {k : Nat} {u v r : Int64} (hf : jx_ft y pc = some (.invokestatic k, 3)) (hm : jx_ml (jx_mo y) k = none) (hb : jx_bi (jx_mo y) k = 5) (hs : jx_sum st ≤ 8) (hr : jx_ilt u v x = some r) : jx_Ev (d + 1) y pc lv (.int x :: .long v :: .long u :: st) M Q ↔ jx_Ev (d + 1) y (pc + 3) lv (.long r :: st) M Q :=
  jx_ev_st hf rfl (by simp only [jx_cc, hm]) (by simp only [jx_st, hb, jx_nat, hs, hr, if_true, and_true, Nat.zero_lt_succ])
/-- switches -/
theorem jx_k_lsw {dflt : Int} {ps : Array (Int × Int)} {len : Nat} (hf : jx_ft y pc = some (.lookupswitch dflt ps, len)) (hs : (ps.toList.zip (ps.toList.drop 1)).all (fun (a, next) => a.1 < next.1) = true) (ht : jx_jp pc (Op.lookupswitch.offset ps.toList dflt x.toInt) = some t) : jx_Ev d y pc lv (.int x :: st) M Q ↔ jx_Ev d y t lv st M Q :=
  jx_ev_st hf rfl rfl (by simp only [jx_st, jx_lsw, hs, ht, if_true])
theorem jx_k_tso {dflt lo hi : Int} {offs : Array Int} {len : Nat} (hf : jx_ft y pc = some (.tableswitch dflt lo hi offs, len)) (h : x.toInt < lo ∨ hi < x.toInt) (ht : jx_jp pc dflt = some t) : jx_Ev d y pc lv (.int x :: st) M Q ↔ jx_Ev d y t lv st M Q :=
  jx_ev_st hf rfl rfl (by simp only [jx_st, jx_tsw, if_pos h, ht])
theorem jx_k_tsi {dflt lo hi : Int} {offs : Array Int} {len : Nat} (hf : jx_ft y pc = some (.tableswitch dflt lo hi offs, len)) (h : ¬ (x.toInt < lo ∨ hi < x.toInt)) (ho : offs[(x.toInt - lo).toNat]? = some off) (ht : jx_jp pc off = some t) : jx_Ev d y pc lv (.int x :: st) M Q ↔ jx_Ev d y t lv st M Q :=
  jx_ev_st hf rfl rfl (by simp only [jx_st, jx_tsw, if_neg h, ho, ht])
end JXK
