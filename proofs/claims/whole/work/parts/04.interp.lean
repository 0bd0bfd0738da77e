/-! a machine of pure numbers: one memory M of ints (place, offset); references are places; its run is a function -/
def jx_up (M : jx_M) (k j : Nat) (v : Int32) : jx_M := fun a => if a = k then upd (M a) j v else M a
def jx_rv (x : Int32) : Value := if x < 0 then .null else .ref x.toNatClampNeg
def jx_fv (c : Nat) (r : Nat → Int32) (k j : Nat) : Value := match c with
  | 0 => .int (r j)
  | 1 => .int (r j)
  | 2 => jx_rv (r j)
  | c + 3 => .ref (k + c)
def jx_ft (y pc : Nat) : Option (Instr × Nat) := match decode (jx_mb y) pc with
  | .ok x => some x
  | .error _ => none
theorem jx_fok {y pc : Nat} {x : Instr × Nat} (h : decode (jx_mb y) pc = .ok x) : jx_ft y pc = some x := by simp [jx_ft, h]
theorem jx_fok' {y pc : Nat} {x : Instr × Nat} (h : jx_ft y pc = some x) : decode (jx_mb y) pc = .ok x := by
  unfold jx_ft at h
  split at h
  · next q => rw [q]; cases h; rfl
  · cases h
def jx_jp (pc : Nat) (off : Int) : Option Nat := if 0 ≤ (pc : Int) + off then some ((pc : Int) + off).toNat else none
theorem jx_jpe {pc t : Nat} {off : Int} (h : jx_jp pc off = some t) : (pc : Int) + off = (t : Int) := by
  unfold jx_jp at h
  split at h
  · cases h; omega
  · cases h
def jx_h (c : ClassFile.Cond) (x y : Int32) : Bool := match c with
  | .eq => decide (x = y)
  | .ne => decide (¬ x = y)
  | .lt => decide (x < y)
  | .ge => decide (y ≤ x)
  | .gt => decide (y < x)
  | .le => decide (x ≤ y)
abbrev jx_R : Type := Option (Nat × List (Option Value) × List Value × jx_M)
def jx_ldi (pc : Nat) (lv : List (Option Value)) (st : List Value) (M : jx_M) (k : Nat) : jx_R := match lv[k]? with
  | some (some (.int x)) => some (pc, lv, .int x :: st, M)
  | _ => none
def jx_lda (pc : Nat) (lv : List (Option Value)) (st : List Value) (M : jx_M) (k : Nat) : jx_R := match lv[k]? with
  | some (some (.ref x)) => some (pc, lv, .ref x :: st, M)
  | _ => none
def jx_sti (pc : Nat) (lv : List (Option Value)) (st : List Value) (M : jx_M) (k : Nat) : jx_R := match st with
  | .int x :: st => if k < lv.length then some (pc, lv.set k (some (.int x)), st, M) else none
  | _ => none
def jx_sta (pc : Nat) (lv : List (Option Value)) (st : List Value) (M : jx_M) (k : Nat) : jx_R := match st with
  | .ref x :: st => if k < lv.length then some (pc, lv.set k (some (.ref x)), st, M) else none
  | _ => none
def jx_inc (pc : Nat) (lv : List (Option Value)) (st : List Value) (M : jx_M) (k : Nat) (n : Int) : jx_R := match lv[k]? with
  | some (some (.int x)) => some (pc, lv.set k (some (.int (x + Int32.ofInt n))), st, M)
  | _ => none
def jx_b2 (pc : Nat) (lv : List (Option Value)) (st : List Value) (M : jx_M) (f : Int32 → Int32 → Int32) : jx_R := match st with
  | .int y :: .int x :: st => some (pc, lv, .int (f x y) :: st, M)
  | _ => none
def jx_dv (pc : Nat) (lv : List (Option Value)) (st : List Value) (M : jx_M) (f : Int32 → Int32 → Int32) : jx_R := match st with
  | .int y :: .int x :: st => if y = 0 then none else some (pc, lv, .int (f x y) :: st, M)
  | _ => none
def jx_u1 (pc : Nat) (lv : List (Option Value)) (st : List Value) (M : jx_M) (f : Int32 → Value) : jx_R := match st with
  | .int x :: st => some (pc, lv, f x :: st, M)
  | _ => none
def jx_lsh (pc : Nat) (lv : List (Option Value)) (st : List Value) (M : jx_M) : jx_R := match st with
  | .int y :: .long x :: st => some (pc, lv, .long (x <<< (y.toInt64 &&& 63)) :: st, M)
  | _ => none
def jx_dup (pc : Nat) (lv : List (Option Value)) (st : List Value) (M : jx_M) : jx_R := match st with
  | v :: st => if v.category = 1 then some (pc, lv, v :: v :: st, M) else none
  | _ => none
def jx_dup2 (pc : Nat) (lv : List (Option Value)) (st : List Value) (M : jx_M) : jx_R := match st with
  | v :: w :: st => if v.category = 1 ∧ w.category = 1 then some (pc, lv, v :: w :: v :: w :: st, M) else none
  | _ => none
def jx_br1 (pc : Nat) (lv : List (Option Value)) (st : List Value) (M : jx_M) (c : ClassFile.Cond) (off : Int) : jx_R := match st with
  | .int x :: st => match jx_jp pc off with
    | some t => some (if jx_h c x 0 = true then t else pc + 3, lv, st, M)
    | none => none
  | _ => none
def jx_br2 (pc : Nat) (lv : List (Option Value)) (st : List Value) (M : jx_M) (c : ClassFile.Cond) (off : Int) : jx_R := match st with
  | .int y :: .int x :: st => match jx_jp pc off with
    | some t => some (if jx_h c x y = true then t else pc + 3, lv, st, M)
    | none => none
  | _ => none
def jx_brn (pc : Nat) (lv : List (Option Value)) (st : List Value) (M : jx_M) (off : Int) : jx_R := match st with
  | .ref _ :: st => some (pc + 3, lv, st, M)
  | .null :: st => match jx_jp pc off with
    | some t => some (t, lv, st, M)
    | none => none
  | _ => none
def jx_tsw (pc : Nat) (lv : List (Option Value)) (st : List Value) (M : jx_M) (dflt lo hi : Int) (offs : Array Int) : jx_R := match st with
  | .int x :: st => if x.toInt < lo ∨ hi < x.toInt then (match jx_jp pc dflt with
      | some t => some (t, lv, st, M)
      | none => none)
    else match offs[(x.toInt - lo).toNat]? with
      | some off => (match jx_jp pc off with
        | some t => some (t, lv, st, M)
        | none => none)
      | none => none
  | _ => none
def jx_lsw (pc : Nat) (lv : List (Option Value)) (st : List Value) (M : jx_M) (dflt : Int) (ps : Array (Int × Int)) : jx_R := match st with
  | .int x :: st => if (ps.toList.zip (ps.toList.drop 1)).all (fun (a, next) => a.1 < next.1) = true then (match jx_jp pc (Op.lookupswitch.offset ps.toList dflt x.toInt) with
      | some t => some (t, lv, st, M)
      | none => none)
    else none
  | _ => none
def jx_gf (y pc : Nat) (lv : List (Option Value)) (st : List Value) (M : jx_M) (i : Nat) : jx_R := match jx_fl (jx_mo y) i with
  | none => none
  | some (ci, j) => match st with
    | .ref k :: st => if jx_cl k = ci then some (pc + 3, lv, jx_fv (jx_fk ci j) (M k) k j :: st, M) else none
    | _ => none
def jx_pf (y pc : Nat) (lv : List (Option Value)) (st : List Value) (M : jx_M) (i : Nat) : jx_R := match jx_fl (jx_mo y) i with
  | none => none
  | some (ci, j) => match st with
    | .int x :: .ref k :: st => if jx_cl k = ci ∧ (jx_fk ci j = 0 ∨ jx_fk ci j = 1 ∧ (x = 0 ∨ x = 1)) then some (pc + 3, lv, st, jx_up M k j x) else none
    | .ref o :: .ref k :: st => if jx_cl k = ci ∧ jx_fk ci j = 2 ∧ o < 56 then some (pc + 3, lv, st, jx_up M k j (nI o)) else none
    | _ => none
def jx_al (pc : Nat) (lv : List (Option Value)) (st : List Value) (M : jx_M) : jx_R := match st with
  | .int i :: .ref a :: st => if jx_cl a = 9 ∧ ¬ (i < 0 ∨ jx_sz a ≤ i.toNatClampNeg) then some (pc + 1, lv, .int (M a i.toNatClampNeg) :: st, M) else none
  | _ => none
def jx_as (pc : Nat) (lv : List (Option Value)) (st : List Value) (M : jx_M) : jx_R := match st with
  | .int x :: .int i :: .ref a :: st => if jx_cl a = 9 ∧ ¬ (i < 0 ∨ jx_sz a ≤ i.toNatClampNeg) then some (pc + 1, lv, st, jx_up M a i.toNatClampNeg x) else none
  | _ => none
def jx_sp (i : Int32) : Nat := 28 + 2 * i.toNatClampNeg
def jx_aa (pc : Nat) (lv : List (Option Value)) (st : List Value) (M : jx_M) : jx_R := match st with
  | .int i :: .ref a :: st => if a = 1 ∧ ¬ (i < 0 ∨ 4 ≤ i.toNatClampNeg) then some (pc + 1, lv, .ref (jx_sp i) :: st, M) else none
  | _ => none
def jx_cp (M : jx_M) (a b : Nat) (sp dp n : Int32) : jx_M := fun k => if k = b then va_cpy (M a) (M b) sp.toNatClampNeg dp.toNatClampNeg n.toNatClampNeg else M k
def jx_gcd : Nat → Int64 → Int64 → Option Int64
  | 0, _, _ => none
  | n + 1, x, y => if y = 0 then some x else jx_gcd n y (x - x / y * y)
def jx_ilt (u d : Int64) (w : Int32) : Option Int64 := match jx_gcd 100 u d with
  | none => none
  | some x => if x = 0 then none else some (if w = 0 then u / x else d / x)
def jx_sum (st : List Value) : Nat := (st.map fun v => v.category).sum
def jx_nat (b d pc : Nat) (lv : List (Option Value)) (st : List Value) (M : jx_M) : jx_R := match b with
  | 1 => (match st with
    | .int y :: .int x :: st => if 0 < d ∧ jx_sum st ≤ 8 then some (pc + 3, lv, .int (if x < y then y else x) :: st, M) else none
    | _ => none)
  | 2 => (match st with
    | .int y :: .int x :: st => if 0 < d ∧ jx_sum st ≤ 8 then some (pc + 3, lv, .int (if y < x then y else x) :: st, M) else none
    | _ => none)
  | 3 => (match st with
    | .int x :: st => if 0 < d ∧ jx_sum st ≤ 8 then some (pc + 3, lv, .int (if 0 ≤ x then x else 0 - x) :: st, M) else none
    | _ => none)
  | 4 => (match st with
    | .int n :: .int dp :: .ref b :: .int sp :: .ref a :: st => if 0 < d ∧ jx_sum st ≤ 8 ∧ jx_cl a = 9 ∧ jx_cl b = 9 ∧ ¬ sp < 0 ∧ ¬ dp < 0 ∧ ¬ n < 0 ∧ sp.toNatClampNeg + n.toNatClampNeg ≤ jx_sz a ∧ dp.toNatClampNeg + n.toNatClampNeg ≤ jx_sz b then some (pc + 3, lv, st, jx_cp M a b sp dp n) else none
    | _ => none)
  | 5 => (match st with
    | .int w :: .long dd :: .long u :: st => if 0 < d ∧ jx_sum st ≤ 8 then (match jx_ilt u dd w with
        | some r => some (pc + 3, lv, .long r :: st, M)
        | none => none) else none
    | _ => none)
  | _ => none
def jx_st (d y pc : Nat) (i : Instr) (len : Nat) (lv : List (Option Value)) (st : List Value) (M : jx_M) : jx_R :=
  match i with
  | .iconst n => if len = 1 then some (pc + 1, lv, .int (Int32.ofInt n) :: st, M) else none
  | .bipush n => if len = 2 then some (pc + 2, lv, .int (Int8.ofInt n).toInt32 :: st, M) else none
  | .sipush n => if len = 3 then some (pc + 3, lv, .int (Int16.ofInt n).toInt32 :: st, M) else none
  | .lconst n => if len = 1 then some (pc + 1, lv, .long (Int64.ofNat (n : Nat)) :: st, M) else none
  | .ldc k => if len = 2 ∧ jx_mo y = 0 ∧ k = 34 then some (pc + 2, lv, .int 2147483647 :: st, M) else none
  | .ldc2_w k => if len = 3 ∧ (jx_mo y = 7 ∧ k = 203 ∨ jx_mo y = 8 ∧ k = 71) then some (pc + 3, lv, .long (-9223372036854775808) :: st, M) else none
  | .iload k => if len = 2 then jx_ldi (pc + 2) lv st M k else none
  | .iload_n k => if len = 1 then jx_ldi (pc + 1) lv st M k else none
  | .aload k => if len = 2 then jx_lda (pc + 2) lv st M k else none
  | .aload_n k => if len = 1 then jx_lda (pc + 1) lv st M k else none
  | .istore k => if len = 2 then jx_sti (pc + 2) lv st M k else none
  | .istore_n k => if len = 1 then jx_sti (pc + 1) lv st M k else none
  | .astore k => if len = 2 then jx_sta (pc + 2) lv st M k else none
  | .astore_n k => if len = 1 then jx_sta (pc + 1) lv st M k else none
  | .iinc k n => if len = 3 then jx_inc (pc + 3) lv st M k n else none
  | .iadd => if len = 1 then jx_b2 (pc + 1) lv st M (fun x y => x + y) else none
  | .isub => if len = 1 then jx_b2 (pc + 1) lv st M (fun x y => x - y) else none
  | .imul => if len = 1 then jx_b2 (pc + 1) lv st M (fun x y => x * y) else none
  | .iand => if len = 1 then jx_b2 (pc + 1) lv st M (fun x y => x &&& y) else none
  | .ior => if len = 1 then jx_b2 (pc + 1) lv st M (fun x y => x ||| y) else none
  | .ishl => if len = 1 then jx_b2 (pc + 1) lv st M (fun x y => x <<< (y &&& 31)) else none
  | .ishr => if len = 1 then jx_b2 (pc + 1) lv st M (fun x y => x >>> (y &&& 31)) else none
  | .idiv => if len = 1 then jx_dv (pc + 1) lv st M (fun x y => x / y) else none
  | .irem => if len = 1 then jx_dv (pc + 1) lv st M (fun x y => x - x / y * y) else none
  | .ineg => if len = 1 then jx_u1 (pc + 1) lv st M (fun x => .int (-x)) else none
  | .i2b => if len = 1 then jx_u1 (pc + 1) lv st M (fun x => .int x.toInt8.toInt32) else none
  | .i2s => if len = 1 then jx_u1 (pc + 1) lv st M (fun x => .int x.toInt16.toInt32) else none
  | .i2l => if len = 1 then jx_u1 (pc + 1) lv st M (fun x => .long x.toInt64) else none
  | .lshl => if len = 1 then jx_lsh (pc + 1) lv st M else none
  | .dup => if len = 1 then jx_dup (pc + 1) lv st M else none
  | .dup2 => if len = 1 then jx_dup2 (pc + 1) lv st M else none
  | .goto off => if len = 3 then (match jx_jp pc off with
    | some t => some (t, lv, st, M)
    | none => none) else none
  | .ifCond c off => if len = 3 then jx_br1 pc lv st M c off else none
  | .if_icmp c off => if len = 3 then jx_br2 pc lv st M c off else none
  | .ifnull off => if len = 3 then jx_brn pc lv st M off else none
  | .tableswitch dflt lo hi offs => jx_tsw pc lv st M dflt lo hi offs
  | .lookupswitch dflt ps => jx_lsw pc lv st M dflt ps
  | .getfield k => if len = 3 then jx_gf y pc lv st M k else none
  | .putfield k => if len = 3 then jx_pf y pc lv st M k else none
  | .iaload => if len = 1 then jx_al pc lv st M else none
  | .iastore => if len = 1 then jx_as pc lv st M else none
  | .aaload => if len = 1 then jx_aa pc lv st M else none
  | .invokestatic k => if len = 3 then jx_nat (jx_bi (jx_mo y) k) d pc lv st M else none
  | _ => none
def jx_rt (y : Nat) (i : Instr) (len : Nat) (st : List Value) : Option (List Value) := match i with
  | .ireturn => (match st with
    | [.int v] => if len = 1 ∧ (jx_mr y = some .int ∨ jx_mr y = some .boolean ∧ (v = 0 ∨ v = 1)) then some [.int v] else none
    | _ => none)
  | .lreturn => (match st with
    | [.long v] => if len = 1 ∧ jx_mr y = some .long then some [.long v] else none
    | _ => none)
  | .return_ => (match st with
    | [] => if len = 1 ∧ jx_mr y = none then some [] else none
    | _ => none)
  | _ => none
/-- a method's arguments (without the receiver) and what is left below fit -/
def jx_fit (y n : Nat) (As rest : List Value) : Bool := decide (As.length = jx_mp y) && As.all (fun v => decide (v.category = 1)) && decide (As.length + n ≤ jx_mx y) && decide (jx_sum rest ≤ 8) && decide (y < 140)
def jx_cc (y : Nat) (i : Instr) (len : Nat) (st : List Value) : Option (Nat × List Value × List Value) := match i with
  | .invokevirtual k => (match jx_ml (jx_mo y) k with
    | none => none
    | some y' => (match st.drop (jx_mp y') with
      | .ref o :: rest => if len = 3 ∧ jx_ms y' = false ∧ jx_cl o = jx_mo y' ∧ jx_fit y' 1 (st.take (jx_mp y')).reverse rest = true then some (y', .ref o :: (st.take (jx_mp y')).reverse, rest) else none
      | _ => none))
  | .invokestatic k => (match jx_ml (jx_mo y) k with
    | none => none
    | some y' => if len = 3 ∧ jx_ms y' = true ∧ jx_fit y' 0 (st.take (jx_mp y')).reverse (st.drop (jx_mp y')) = true then some (y', (st.take (jx_mp y')).reverse, st.drop (jx_mp y')) else none)
  | _ => none
def jx_en (y : Nat) (As : List Value) : List (Option Value) := As.map some ++ List.replicate (jx_mx y - As.length) none
abbrev jx_RT : Type := Nat → Nat → Nat → List (Option Value) → List Value → jx_M → Option (List Value × jx_M)
def jx_F (rec : jx_RT) : jx_RT := fun d y pc lv st M =>
  match jx_ft y pc with
  | none => none
  | some (i, len) => match jx_rt y i len st with
    | some r => some (r, M)
    | none => match jx_cc y i len st with
      | some (y', As, rest) => (match d with
        | 0 => none
        | d' + 1 => (match rec d' y' 0 (jx_en y' As) [] M with
          | none => none
          | some (r, M') => rec (d' + 1) y (pc + 3) lv (r ++ rest) M'))
      | none => match jx_st d y pc i len lv st M with
        | none => none
        | some (pc', lv', st', M') => rec d y pc' lv' st' M'
def jx_run : Nat → jx_RT
  | 0 => fun _ _ _ _ _ _ => none
  | n + 1 => jx_F (jx_run n)
theorem jx_F_mono {f g : jx_RT} (h : ∀ d y pc lv st M x, f d y pc lv st M = some x → g d y pc lv st M = some x) : ∀ d y pc lv st M x, jx_F f d y pc lv st M = some x → jx_F g d y pc lv st M = some x := by
  intro d y pc lv st M x hx
  unfold jx_F at hx ⊢
  cases h1 : jx_ft y pc with
  | none => rw [h1] at hx; cases hx
  | some q =>
    obtain ⟨i, len⟩ := q
    rw [h1] at hx
    dsimp only at hx ⊢
    cases h2 : jx_rt y i len st with
    | some r => rw [h2] at hx; exact hx
    | none =>
      rw [h2] at hx
      dsimp only at hx ⊢
      cases h3 : jx_cc y i len st with
      | some q =>
        obtain ⟨y', As, rest⟩ := q
        rw [h3] at hx
        dsimp only at hx ⊢
        cases d with
        | zero => cases hx
        | succ d' =>
          dsimp only at hx ⊢
          cases h4 : f d' y' 0 (jx_en y' As) [] M with
          | none => rw [h4] at hx; cases hx
          | some q =>
            obtain ⟨r, M'⟩ := q
            rw [h4] at hx
            rw [h _ _ _ _ _ _ _ h4]
            exact h _ _ _ _ _ _ _ hx
      | none =>
        rw [h3] at hx
        dsimp only at hx ⊢
        cases h4 : jx_st d y pc i len lv st M with
        | none => rw [h4] at hx; cases hx
        | some q =>
          obtain ⟨pc', lv', st', M'⟩ := q
          rw [h4] at hx
          exact h _ _ _ _ _ _ _ hx
theorem jx_run_succ : ∀ n d y pc lv st M x, jx_run n d y pc lv st M = some x → jx_run (n + 1) d y pc lv st M = some x
  | 0, _, _, _, _, _, _, _, h => by cases h
  | n + 1, d, y, pc, lv, st, M, x, h => jx_F_mono (jx_run_succ n) d y pc lv st M x h
theorem jx_run_le {n k : Nat} (h : n ≤ k) {d y pc : Nat} {lv : List (Option Value)} {st : List Value} {M : jx_M} {x : List Value × jx_M} (hx : jx_run n d y pc lv st M = some x) : jx_run k d y pc lv st M = some x := by
  induction h with
  | refl => exact hx
  | step _ ih => exact jx_run_succ _ _ _ _ _ _ _ _ ih
abbrev jx_Po : Type := List Value → jx_M → Prop
/-- the run from here ends with Q -/
def jx_Ev (d y pc : Nat) (lv : List (Option Value)) (st : List Value) (M : jx_M) (Q : jx_Po) : Prop := ∃ n r M', jx_run n d y pc lv st M = some (r, M') ∧ Q r M'
def jx_Ct (d y : Nat) (As : List Value) (M : jx_M) (Q : jx_Po) : Prop := jx_Ev d y 0 (jx_en y As) [] M Q
def jx_qI (q : Int32 → jx_M → Prop) : jx_Po := fun r M => ∃ x, r = [.int x] ∧ q x M
def jx_qL (q : Int64 → jx_M → Prop) : jx_Po := fun r M => ∃ x, r = [.long x] ∧ q x M
def jx_qV (q : jx_M → Prop) : jx_Po := fun r M => r = [] ∧ q M
def jx_I (d y : Nat) (As : List Value) (M : jx_M) (q : Int32 → jx_M → Prop) : Prop := jx_Ct d y As M (jx_qI q)
def jx_L (d y : Nat) (As : List Value) (M : jx_M) (q : Int64 → jx_M → Prop) : Prop := jx_Ct d y As M (jx_qL q)
def jx_V (d y : Nat) (As : List Value) (M : jx_M) (q : jx_M → Prop) : Prop := jx_Ct d y As M (jx_qV q)
theorem jx_qI_a {q : Int32 → jx_M → Prop} {x : Int32} {M : jx_M} : jx_qI q [.int x] M ↔ q x M := by simp [jx_qI]
theorem jx_qL_a {q : Int64 → jx_M → Prop} {x : Int64} {M : jx_M} : jx_qL q [.long x] M ↔ q x M := by simp [jx_qL]
theorem jx_qV_a {q : jx_M → Prop} {M : jx_M} : jx_qV q [] M ↔ q M := by simp [jx_qV]
section JXE
variable {d y pc y' len : Nat} {i : Instr} {lv lv' : List (Option Value)} {st st' As rest : List Value} {M M' : jx_M} {Q Q' : jx_Po}
theorem jx_Ev.mono (h : jx_Ev d y pc lv st M Q) (hq : ∀ r M', Q r M' → Q' r M') : jx_Ev d y pc lv st M Q' := by
  obtain ⟨n, r, M', h1, h2⟩ := h
  exact ⟨n, r, M', h1, hq r M' h2⟩
theorem jx_I.mono {q q' : Int32 → jx_M → Prop} (h : jx_I d y As M q) (hq : ∀ x M', q x M' → q' x M') : jx_I d y As M q' := jx_Ev.mono h (fun _ _ ⟨x, e, z⟩ => ⟨x, e, hq x _ z⟩)
theorem jx_V.mono {q q' : jx_M → Prop} (h : jx_V d y As M q) (hq : ∀ M', q M' → q' M') : jx_V d y As M q' := jx_Ev.mono h (fun _ _ ⟨e, z⟩ => ⟨e, hq _ z⟩)
theorem jx_L.mono {q q' : Int64 → jx_M → Prop} (h : jx_L d y As M q) (hq : ∀ x M', q x M' → q' x M') : jx_L d y As M q' := jx_Ev.mono h (fun _ _ ⟨x, e, z⟩ => ⟨x, e, hq x _ z⟩)
theorem jx_ev_st {pc' : Nat} (hf : jx_ft y pc = some (i, len)) (h1 : jx_rt y i len st = none) (h2 : jx_cc y i len st = none) (h : jx_st d y pc i len lv st M = some (pc', lv', st', M')) : jx_Ev d y pc lv st M Q ↔ jx_Ev d y pc' lv' st' M' Q := by
  constructor
  · rintro ⟨n, r, N, a, b⟩
    cases n with
    | zero => cases a
    | succ n =>
      refine ⟨n, r, N, ?_, b⟩
      rw [← a]
      show _ = jx_F (jx_run n) d y pc lv st M
      simp only [jx_F, hf, h1, h2, h]
  · rintro ⟨n, r, N, a, b⟩
    refine ⟨n + 1, r, N, ?_, b⟩
    rw [← a]
    show jx_F (jx_run n) d y pc lv st M = _
    simp only [jx_F, hf, h1, h2, h]
theorem jx_ev_no (hf : jx_ft y pc = some (i, len)) (h1 : jx_rt y i len st = none) (h2 : jx_cc y i len st = none) (h : jx_st d y pc i len lv st M = none) : ¬ jx_Ev d y pc lv st M Q := by
  rintro ⟨n, r, N, a, b⟩
  cases n with
  | zero => cases a
  | succ n =>
    have a' : jx_F (jx_run n) d y pc lv st M = some (r, N) := a
    simp only [jx_F, hf, h1, h2, h] at a'
    cases a'
theorem jx_ev_rt {r : List Value} (hf : jx_ft y pc = some (i, len)) (h1 : jx_rt y i len st = some r) : jx_Ev d y pc lv st M Q ↔ Q r M := by
  constructor
  · rintro ⟨n, r', N, a, b⟩
    cases n with
    | zero => cases a
    | succ n =>
      have a' : jx_F (jx_run n) d y pc lv st M = some (r', N) := a
      simp only [jx_F, hf, h1] at a'
      cases a'
      exact b
  · intro h
    refine ⟨1, r, M, ?_, h⟩
    show jx_F (jx_run 0) d y pc lv st M = _
    simp only [jx_F, hf, h1]
theorem jx_ev_cc (hf : jx_ft y pc = some (i, len)) (h1 : jx_rt y i len st = none) (h2 : jx_cc y i len st = some (y', As, rest)) : jx_Ev (d + 1) y pc lv st M Q ↔ jx_Ct d y' As M (fun r M' => jx_Ev (d + 1) y (pc + 3) lv (r ++ rest) M' Q) := by
  constructor
  · rintro ⟨n, r, N, a, b⟩
    cases n with
    | zero => cases a
    | succ n =>
      have a' : jx_F (jx_run n) (d + 1) y pc lv st M = some (r, N) := a
      simp only [jx_F, hf, h1, h2] at a'
      cases h4 : jx_run n d y' 0 (jx_en y' As) [] M with
      | none => rw [h4] at a'; cases a'
      | some q =>
        obtain ⟨r1, M1⟩ := q
        rw [h4] at a'
        exact ⟨n, r1, M1, h4, n, r, N, a', b⟩
  · rintro ⟨n, r1, M1, a, k, r, N, a2, b⟩
    refine ⟨(n + k) + 1, r, N, ?_, b⟩
    show jx_F (jx_run (n + k)) (d + 1) y pc lv st M = _
    simp only [jx_F, hf, h1, h2]
    rw [jx_run_le (Nat.le_add_right n k) a]
    exact jx_run_le (Nat.le_add_left k n) a2
/-- what a method of a kind gives -/
def jx_typ (y : Nat) (r : List Value) : Prop := (jx_mr y = none ∧ r = []) ∨ (jx_mr y = some .long ∧ ∃ x, r = [.long x]) ∨ ((jx_mr y = some .int ∨ jx_mr y = some .boolean) ∧ ∃ x, r = [.int x])
theorem jx_rt_typ {r : List Value} (h : jx_rt y i len st = some r) : jx_typ y r := by
  unfold jx_rt at h
  split at h
  · split at h
    · split at h
      · next q => cases h; exact Or.inr (Or.inr ⟨q.2.elim Or.inl (fun z => Or.inr z.1), _, rfl⟩)
      · cases h
    · cases h
  · split at h
    · split at h
      · next q => cases h; exact Or.inr (Or.inl ⟨q.2, _, rfl⟩)
      · cases h
    · cases h
  · split at h
    · split at h
      · next q => cases h; exact Or.inl ⟨q.2, rfl⟩
      · cases h
    · cases h
  · cases h
theorem jx_run_typ : ∀ (n d y pc : Nat) (lv : List (Option Value)) (st : List Value) (M : jx_M) (r : List Value) (M' : jx_M), jx_run n d y pc lv st M = some (r, M') → jx_typ y r
  | 0, _, _, _, _, _, _, _, _, h => by cases h
  | n + 1, d, y, pc, lv, st, M, r, M', h => by
    have h : jx_F (jx_run n) d y pc lv st M = some (r, M') := h
    unfold jx_F at h
    cases h1 : jx_ft y pc with
    | none => rw [h1] at h; cases h
    | some q =>
      obtain ⟨i, len⟩ := q
      rw [h1] at h
      dsimp only at h
      cases h2 : jx_rt y i len st with
      | some r => rw [h2] at h; cases h; exact jx_rt_typ h2
      | none =>
        rw [h2] at h
        dsimp only at h
        cases h3 : jx_cc y i len st with
        | some q =>
          obtain ⟨y', As, rest⟩ := q
          rw [h3] at h
          dsimp only at h
          cases d with
          | zero => cases h
          | succ d' =>
            dsimp only at h
            cases h4 : jx_run n d' y' 0 (jx_en y' As) [] M with
            | none => rw [h4] at h; cases h
            | some q =>
              obtain ⟨r1, M1⟩ := q
              rw [h4] at h
              exact jx_run_typ n _ _ _ _ _ _ _ _ h
        | none =>
          rw [h3] at h
          dsimp only at h
          cases h4 : jx_st d y pc i len lv st M with
          | none => rw [h4] at h; cases h
          | some q =>
            obtain ⟨pc', lv', st', M1⟩ := q
            rw [h4] at h
            exact jx_run_typ n _ _ _ _ _ _ _ _ h
theorem jx_ev_ci (hf : jx_ft y pc = some (i, len)) (h1 : jx_rt y i len st = none) (h2 : jx_cc y i len st = some (y', As, rest)) (ht : jx_mr y' = some .int ∨ jx_mr y' = some .boolean) : jx_Ev (d + 1) y pc lv st M Q ↔ jx_I d y' As M (fun x M' => jx_Ev (d + 1) y (pc + 3) lv (.int x :: rest) M' Q) := by
  rw [jx_ev_cc hf h1 h2]
  constructor
  · rintro ⟨n, r1, M1, a, b⟩
    rcases jx_run_typ _ _ _ _ _ _ _ _ _ a with h | h | h
    · rcases ht with t | t <;> rw [t] at h <;> cases h.1
    · rcases ht with t | t <;> rw [t] at h <;> cases h.1
    · obtain ⟨x, rfl⟩ := h.2
      exact ⟨n, _, M1, a, x, rfl, b⟩
  · rintro ⟨n, r1, M1, a, x, rfl, b⟩
    exact ⟨n, _, M1, a, b⟩
theorem jx_ev_cl (hf : jx_ft y pc = some (i, len)) (h1 : jx_rt y i len st = none) (h2 : jx_cc y i len st = some (y', As, rest)) (ht : jx_mr y' = some .long) : jx_Ev (d + 1) y pc lv st M Q ↔ jx_L d y' As M (fun x M' => jx_Ev (d + 1) y (pc + 3) lv (.long x :: rest) M' Q) := by
  rw [jx_ev_cc hf h1 h2]
  constructor
  · rintro ⟨n, r1, M1, a, b⟩
    rcases jx_run_typ _ _ _ _ _ _ _ _ _ a with h | h | h
    · rw [ht] at h; cases h.1
    · obtain ⟨x, rfl⟩ := h.2
      exact ⟨n, _, M1, a, x, rfl, b⟩
    · rw [ht] at h; rcases h.1 with z | z <;> cases z
  · rintro ⟨n, r1, M1, a, x, rfl, b⟩
    exact ⟨n, _, M1, a, b⟩
theorem jx_ev_cv (hf : jx_ft y pc = some (i, len)) (h1 : jx_rt y i len st = none) (h2 : jx_cc y i len st = some (y', As, rest)) (ht : jx_mr y' = none) : jx_Ev (d + 1) y pc lv st M Q ↔ jx_V d y' As M (fun M' => jx_Ev (d + 1) y (pc + 3) lv rest M' Q) := by
  rw [jx_ev_cc hf h1 h2]
  constructor
  · rintro ⟨n, r1, M1, a, b⟩
    rcases jx_run_typ _ _ _ _ _ _ _ _ _ a with h | h | h
    · obtain ⟨-, rfl⟩ := h
      exact ⟨n, _, M1, a, rfl, b⟩
    · rw [ht] at h; cases h.1
    · rw [ht] at h; rcases h.1 with z | z <;> cases z
  · rintro ⟨n, r1, M1, a, rfl, b⟩
    exact ⟨n, _, M1, a, b⟩
/-- a call's shape -/
theorem jx_ccV {k o : Nat} (h1 : jx_ml (jx_mo y) k = some y') (h2 : jx_ms y' = false) (hn : As.length = jx_mp y') (h4 : jx_cl o = jx_mo y') (h5 : jx_fit y' 1 As rest = true) (h3 : st = As.reverse ++ .ref o :: rest) : jx_cc y (.invokevirtual k) 3 st = some (y', .ref o :: As, rest) := by
  have e1 : st.drop (jx_mp y') = .ref o :: rest := by rw [h3, ← hn, ← List.length_reverse, List.drop_left]
  have e2 : (st.take (jx_mp y')).reverse = As := by rw [h3, ← hn, ← List.length_reverse, List.take_left, List.reverse_reverse]
  simp only [jx_cc, h1, e1, e2, h2, h4, h5, and_self, if_true]
theorem jx_ccS {k : Nat} (h1 : jx_ml (jx_mo y) k = some y') (h2 : jx_ms y' = true) (hn : As.length = jx_mp y') (h5 : jx_fit y' 0 As rest = true) (h3 : st = As.reverse ++ rest) : jx_cc y (.invokestatic k) 3 st = some (y', As, rest) := by
  have e1 : st.drop (jx_mp y') = rest := by rw [h3, ← hn, ← List.length_reverse, List.drop_left]
  have e2 : (st.take (jx_mp y')).reverse = As := by rw [h3, ← hn, ← List.length_reverse, List.take_left, List.reverse_reverse]
  simp only [jx_cc, h1, e1, e2, h2, h5, and_self, if_true]
end JXE
