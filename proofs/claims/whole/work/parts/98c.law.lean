/-! THE CLAIM OUT OF ONE WALK OF THE LAW'S BODY. Your part is whole_start (and what it stands on); all else here is the same for every law, but numbers. -/
def R_law : String := "ThunderPostLaw"
def lw_P (b : Addr) (xs : List Int32) (args : Array Value) (s : State) : Prop := args = #[.ref b] ∧ s.IntsAt b xs ∧ xs.length ≤ 384 ∧ (Jvm.Cond.and given_1 narrow_1).before args s = true
def lw_Q (_ : Array Value) (s : State) (o : Outcome) (t : State) : Prop := o = .returned (some (.int 1)) ∧ Framed s o t [] 600000 7302250
def lw_Z (below : List Frame) (a : Array Value) (s : State) : State → Prop := fun t => ∃ o, t.status = .running ∧ Ended t below o ∧ lw_Q a s o t
/-- the law's own end, with 1 on the stack, nothing written that was there before, its room as the claim has it -/
theorem lw_ret {p : Program} {l : Launch} {e : Env} {s : State} {m : MethodId} {below : List Frame} {meth : Method} {c : Code} {b : Nat} (hx : p.tables.exec = Jvm.exec) (hb : c.code = code) (hr : meth.sig.returnType = ret) (hlocks : meth.locks = false) {pc : Nat} {H : Heap} {ls : Array Slot} (hdg : decode code pc = .ok (.ireturn, 1)) : W p l e room_1 s m #[Value.ref b] below meth c H [] 600000 7302250 (lw_Z below #[Value.ref b] s) (F0 m pc ls [.int 1]) := by
  intro T hT X
  obtain ⟨fs, hret, hrun, hended, hW, hframe⟩ := X.leave (v := some (.int 1)) (hlocks := hlocks) (fun h => by rw [hr] at h; cases h)
  have hmeth' : T.vm.method? m = some meth := X.method'
  refine ⟨T.setFrames fs, ?_, .returned (some (.int 1)), hrun, hended, rfl, ⟨_, rfl⟩, hW, hframe⟩
  jvm_step X.here [X.here.top, hx, hb, hdg, hmeth', hr, ret, narrow_b1]
  (try refine ⟨rfl, ?_⟩); (try refine ⟨rfl, ?_⟩)
  first | (intro acts; rw [hret _ acts rfl rfl rfl]) | rw [hret _ _ rfl rfl rfl]
  exact Steps.refl _
/-- what holds at the law's entry: the machine, the code, the tables' words (any of lw_tbl by 'hts w (by decide +kernel)'), the script of L ints xs at the cell b, what the Statement gives of the start (any of its parts by flat_of_before) -/
def lw_At (p : Program) (s : State) (m : MethodId) (meth : Method) (c : Code) (b L : Nat) (xs : Nat → Int32) : Prop :=
  p.tables.exec = Jvm.exec ∧ c.code = code ∧ meth.sig.returnType = ret ∧ c.maxLocals = 4 ∧ s.vm.findClass R_law = some m.cls ∧ (∀ w ∈ lw_tbl, w.before #[Value.ref b] s = true) ∧ va_X b L xs s s.heap ∧ b < s.heap.size ∧ meth.locks = false ∧ (Jvm.Cond.and given_1 narrow_1).before #[Value.ref b] s = true
/-! a call out of the law, its arguments (law.py) -/
section JXL
variable {D : va_G} {ad : Nat → Nat} {cI cS : ClassId} {p : Program} {l : Launch} {e : Env} {R : Room} {s : State} {m : MethodId} {args : Array Value} {below : List Frame} {meth : Method} {c : Code} {Q : State → Prop} {H : Heap} {locs : List Loc} {ls : Array Slot} {pc cells slots : Nat} {rest st0 : List Value} {a : Array Value} {r1 : List Value} {M M1 : jx_M} {A0 : Nat → Prop}
theorem jx_callL (hr : va_Run p l e R s m args below meth c H locs cells slots 0 0 (F0 m pc ls st0) rest (jx_Q D ad cI cS r1 M1 a) (jx_A ad)) (hS : va_S A0 s.heap H locs) (hA : ∀ q, jx_A ad q → A0 q)
    (kk : ∀ (H1 : Heap) (locs1 : List Loc), va_P D vwCl (jx_w ad cI cS M1) H1 → va_S A0 s.heap H1 locs1 → W p l e R s m args below meth c H1 locs1 cells slots Q (F0 m (pc + 3) ls (r1.map (jx_cv ad) ++ rest))) : W p l e R s m args below meth c H locs cells slots Q (F0 m pc ls st0) := by
  intro T hT X
  obtain ⟨v, st₀, t, T', L, h0, X', hL, e1, e2, ⟨⟨v', hv, hl, hP, hK⟩, hz, hk⟩, st⟩ := hr T hT X
  cases hv
  rw [h0] at hz hk
  obtain ⟨t2, a1, b1⟩ := kk T'.heap (locs ++ L) (by rw [e1]; exact hP)
    ⟨Nat.le_trans hS.1 (by rw [e1]; exact hz), fun q h1 h2 => by rw [e1, hk q (Nat.lt_of_lt_of_le h1 hS.1) (fun z => h2 (hA q z))]; exact hS.2.1 q h1 h2, fun q hq => by
      rcases List.mem_append.mp hq with h | h
      · exact hS.2.2 q h
      · exact hA _ (hL q h)⟩ T' rfl X'
  refine ⟨t2, st t2 ?_, b1⟩
  rw [hl]
  exact a1
theorem jx_lawV {cc : ByteArray} {nL y o k d : Nat} {own : String} {As : List Value} (hx : p.tables.exec = Jvm.exec) (hb : c.code = cc) (hml : c.maxLocals = nL) (hown : s.vm.findClass own = some m.cls) (hts : ∀ w ∈ jx_TB, w.before args s = true) (hK : va_K D vwCl (jx_tys cI cS) s)
    (hlink : Cond.methodLink own k (jx_mn y) ∈ jx_TB) (hy : y < 141) (hms : jx_ms y = false) (hcl : jx_cl o = jx_mo y) (hn : As.length = jx_mp y) (hsz : ls.size = nL) (hR : d + 1 ≤ R.frames ∧ 100 * (d + 1) ≤ R.locals) (hcs : cells ≤ R.cells ∧ slots ≤ R.slots) (hrest : (rest.map fun v => v.category).sum ≤ 8)
    (hM : jx_Met l D ad cI cS d y (.ref o :: As) M r1 M1) (hP : va_P D vwCl (jx_w ad cI cS M) H) (hS : va_S A0 s.heap H locs) (hA : ∀ q, jx_A ad q → A0 q) (hd : decode cc pc = .ok (.invokevirtual k, 3))
    (kk : ∀ (H1 : Heap) (locs1 : List Loc), va_P D vwCl (jx_w ad cI cS M1) H1 → va_S A0 s.heap H1 locs1 → W p l e R s m args below meth c H1 locs1 cells slots Q (F0 m (pc + 3) ls (r1.map (jx_cv ad) ++ rest))) : W p l e R s m args below meth c H locs cells slots Q (F0 m pc ls ((As.map (jx_cv ad)).reverse ++ .ref (ad o) :: rest)) := by
  obtain ⟨o1, o2, o3, o4, o5, o6, o7, o8⟩ := jx_oks y hy
  rw [hms] at o8
  simp only [Bool.false_eq_true, if_false] at o8
  have hk56 := jx_klt (k := o) hcl (Nat.lt_trans o6 (by decide))
  refine jx_callL (va_runV (C := jx_rx (jx_mo y)) (bytes := jx_mb y) (maxL := jx_mx y) (ret := jx_mr y) (b := ad o) (As := As.map (jx_cv ad)) (rest := rest) (n := jx_mp y) ⟨hx, hb, hml, hown, hts⟩ hM (cwV (jx_mp y) hts (jx_good (fun w hw => ?_)) rfl rfl rfl ⟨o3, o5⟩ ⟨?_, ?_⟩) ⟨jx_blind, ?_, fun U hU hW => ⟨rfl, by rw [hU]; exact hP, va_K.moved hW.alike hK⟩⟩ rfl ?_ hsz rfl (lv_room hrest) hd hcs) hS hA kk
  · rcases List.mem_append.mp hw with h1 | h1
    · simp only [List.mem_cons, List.not_mem_nil, or_false] at h1
      rcases h1 with rfl | rfl | rfl | rfl
      · exact hlink
      · exact o8.1
      · exact o8.2
      · rw [← o3]; exact o2
    · rcases List.mem_cons.mp h1 with rfl | h1
      · exact o1
      · exact h1
  · exact hR.1
  · refine Nat.le_trans ?_ hR.2
    show 8 + (jx_mx y + 11) + 100 * d ≤ 100 * (d + 1); omega
  · exact va_recv hK hP (jx_vcl _ o6) (q0 := o) (by rw [jx_w_at hk56, jx_ce_obj (by rw [hcl]; exact o6), hcl])
  · rw [List.length_map]; exact hn
end JXL
def lw_dk (pc k : Nat) : Bool := decide (decode code pc = .ok (.aload_n 0, 1)) && decide (decode code (pc + 1) = .ok (.iload_n 3, 1)) && decide (decode code (pc + 2) = .ok (.iconst (k : Int), 1)) && decide (decode code (pc + 3) = .ok (.iadd, 1)) && decide (decode code (pc + 4) = .ok (.iaload, 1))
def lw_dks : Nat → Nat → Nat → Bool
  | 0, _, _ => true
  | n + 1, pc, k => lw_dk pc k && lw_dks n (pc + 5) (k + 1)
def lw_vs (xs : Nat → Int32) (i : Nat) : Nat → Nat → List Value
  | 0, _ => []
  | n + 1, k => .int (xs (i + k)) :: lw_vs xs i n (k + 1)
theorem lw_vs_len (xs : Nat → Int32) (i : Nat) : ∀ n k, (lw_vs xs i n k).length = n
  | 0, _ => rfl
  | n + 1, k => by rw [lw_vs, List.length_cons, lw_vs_len xs i n (k + 1)]
theorem lw_vs_cat (xs : Nat → Int32) (i : Nat) : ∀ n k, ∀ v ∈ lw_vs xs i n k, v.category = 1
  | 0, _, v, h => by cases h
  | n + 1, k, v, h => by
    rw [lw_vs] at h
    rcases List.mem_cons.mp h with rfl | h
    · rfl
    · exact lw_vs_cat xs i n (k + 1) v h
theorem lw_vs_cv (ad : Nat → Nat) (xs : Nat → Int32) (i : Nat) : ∀ n k, (lw_vs xs i n k).map (jx_cv ad) = lw_vs xs i n k
  | 0, _ => rfl
  | n + 1, k => by rw [lw_vs, List.map_cons, lw_vs_cv ad xs i n (k + 1)]; rfl
def lw_ck (pc n k7 k8 : Nat) (lg : Bool) : Bool := decide (decode code pc = .ok (.aload_n 1, 1)) && lw_dks n (pc + 1) 1 && decide (decode code (pc + 1 + 5 * n) = .ok (.invokevirtual k7, 3)) && decide (decode code (pc + 1 + 5 * n + 3) = .ok (.aload_n 2, 1)) && lw_dks n (pc + 1 + 5 * n + 3 + 1) 1 && decide (decode code (pc + 1 + 5 * n + 3 + 1 + 5 * n) = .ok (.invokevirtual k8, 3)) &&
  (if lg then decide (decode code (pc + 1 + 5 * n + 3 + 1 + 5 * n + 3) = .ok (.lcmp, 1)) && decide (decode code (pc + 1 + 5 * n + 3 + 1 + 5 * n + 3 + 1) = .ok (.ifCond .eq (1170 - ((pc + 1 + 5 * n + 3 + 1 + 5 * n + 3 + 1 : Nat) : Int)), 3))
   else decide (decode code (pc + 1 + 5 * n + 3 + 1 + 5 * n + 3) = .ok (.if_icmp .eq (1170 - ((pc + 1 + 5 * n + 3 + 1 + 5 * n + 3 : Nat) : Int)), 3)))
/-- a method that the law calls with n ints -/
def lw_mk (y k o n : Nat) : Prop := Cond.methodLink R_law k (jx_mn y) ∈ jx_TB ∧ y < 141 ∧ jx_ms y = false ∧ jx_cl o = jx_mo y ∧ jx_mp y = n ∧ n + 1 ≤ jx_mx y
abbrev lw_A (s : State) : Nat → Prop := fun q => s.heap.size ≤ q
section LWC
variable {D : va_G} {ad : Nat → Nat} {cI cS : ClassId} {p : Program} {l : Launch} {e : Env} {s : State} {m : MethodId} {below : List Frame} {meth : Method} {c : Code} {Q : State → Prop} {H : Heap} {locs : List Loc} {ls : Array Slot} {pc b L i : Nat} {xs : Nat → Int32} {M : jx_M}
theorem lw_arg {k : Nat} {st : List Value} {h1 h2 : Nat} (C0 : lw_At p s m meth c b L xs) (hL : L ≤ 384) (hl : lv_has ls 4 [(3, .int (nI i)), (2, .ref h2), (1, .ref h1), (0, .ref b)]) (hS : va_S (lw_A s) s.heap H locs) (hik : i + k < L) (hd : lw_dk pc k = true)
    (kk : W p l e room_1 s m #[Value.ref b] below meth c H locs 56 900 Q (F0 m (pc + 5) ls (.int (xs (i + k)) :: st))) : W p l e room_1 s m #[Value.ref b] below meth c H locs 56 900 Q (F0 m pc ls st) := by
  obtain ⟨hx, hb, hr, hml, hown, hts, hX, hbl, hlocks, hgv⟩ := C0
  have hbA : ¬ (lw_A s) b := Nat.not_le.mpr hbl
  simp only [lw_dk, Bool.and_eq_true, decide_eq_true_eq] at hd
  obtain ⟨⟨⟨⟨d0, d1⟩, d2⟩, d3⟩, d4⟩ := hd
  refine lv_aload_n hx hb d0 rfl (lv_at hl 3 rfl) ?_
  refine lv_iload_n hx hb d1 rfl (lv_at hl 0 rfl) ?_
  refine lv_iconst (v := nI k) hx hb d2 (by show Int32.ofInt (k : Int) = Int32.ofNat k; rfl) ?_
  refine lv_iadd hx hb d3 ?_
  rw [nI_add]
  refine va_sld hx hb hX hbl hbA hS (vp_in_nI hik (by omega)) d4 ?_
  rw [nI_clamp (by omega)]
  exact kk
theorem lw_args {h1 h2 : Nat} (C0 : lw_At p s m meth c b L xs) (hL : L ≤ 384) (hl : lv_has ls 4 [(3, .int (nI i)), (2, .ref h2), (1, .ref h1), (0, .ref b)]) (hS : va_S (lw_A s) s.heap H locs) :
    ∀ (n pc k : Nat) (st : List Value), i + k + n ≤ L → lw_dks n pc k = true → W p l e room_1 s m #[Value.ref b] below meth c H locs 56 900 Q (F0 m (pc + 5 * n) ls ((lw_vs xs i n k).reverse ++ st)) → W p l e room_1 s m #[Value.ref b] below meth c H locs 56 900 Q (F0 m pc ls st) := by
  intro n
  induction n with
  | zero =>
    intro pc k st _ _ kk
    have e : pc + 5 * 0 = pc := by omega
    rw [e] at kk
    exact kk
  | succ n ih =>
    intro pc k st hik hd kk
    rw [lw_dks, Bool.and_eq_true] at hd
    refine lw_arg (k := k) C0 hL hl hS (by omega) hd.1 ?_
    refine ih (pc + 5) (k + 1) _ (by omega) hd.2 ?_
    rw [lw_vs, List.reverse_cons, List.append_assoc] at kk
    rw [show pc + 5 + 5 * n = pc + 5 * (n + 1) by omega]
    exact kk
/-- what a case goes on with -/
def lw_K (D : va_G) (ad : Nat → Nat) (cI cS : ClassId) (p : Program) (l : Launch) (e : Env) (s : State) (m : MethodId) (below : List Frame) (meth : Method) (c : Code) (Q : State → Prop) (ls : Array Slot) (b : Nat) : Prop :=
  ∀ (M : jx_M) (H : Heap) (locs : List Loc), tp_I M → va_P D vwCl (jx_w ad cI cS M) H → va_S (lw_A s) s.heap H locs → W p l e room_1 s m #[Value.ref b] below meth c H locs 56 900 Q (F0 m 1170 ls [])
set_option maxHeartbeats 1000000 in
theorem lw_cI {pc n k7 k8 y7 y8 : Nat} (C0 : lw_At p s m meth c b L xs) (hL : L ≤ 384) (hinj : jx_inj ad) (hA : ∀ k, k < 56 → lw_A s (ad k)) (hK : va_K D vwCl (jx_tys cI cS) s) (hl : lv_has ls 4 [(3, .int (nI i)), (2, .ref (ad 36)), (1, .ref (ad 0)), (0, .ref b)]) (hi : i + 6 ≤ L) (hn : n ≤ 5)
    (hck : lw_ck pc n k7 k8 false = true) (h7 : lw_mk y7 k7 0 n) (h8 : lw_mk y8 k8 36 n) (hop : jx_I 20 y7 (.ref 0 :: lw_vs xs i n 1) M (fun r M1 => jx_I 20 y8 (.ref 36 :: lw_vs xs i n 1) M1 (fun r2 M2 => r = r2 ∧ tp_I M2)))
    (hP : va_P D vwCl (jx_w ad cI cS M) H) (hS : va_S (lw_A s) s.heap H locs) (kk : lw_K D ad cI cS p l e s m below meth c Q ls b) : W p l e room_1 s m #[Value.ref b] below meth c H locs 56 900 Q (F0 m pc ls []) := by
  obtain ⟨hx, hb, hr, hml, hown, hts, hX, hbl, hlocks, hgv⟩ := id C0
  have hts' : ∀ w ∈ jx_TB, w.before #[Value.ref b] s = true := fun w hw => hts w (List.mem_filter.mp hw).1
  have hAA : ∀ q, jx_A ad q → lw_A s q := fun q ⟨k, h1, h2⟩ => by rw [h2]; exact hA k h1
  simp only [lw_ck, Bool.false_eq_true, if_false, Bool.and_eq_true, decide_eq_true_eq] at hck
  obtain ⟨⟨⟨⟨⟨⟨d0, d1⟩, d2⟩, d3⟩, d4⟩, d5⟩, d6⟩ := hck
  obtain ⟨l7, y7l, s7, c7, p7, x7⟩ := h7
  obtain ⟨l8, y8l, s8, c8, p8, x8⟩ := h8
  have hcat : ∀ o, ∀ v ∈ (Value.ref o :: lw_vs xs i n 1), v.category = 1 := by
    intro o v hv
    rcases List.mem_cons.mp hv with rfl | h
    · rfl
    · exact lw_vs_cat xs i n 1 v h
  have hI := jx_ilt_ok l D ad cI cS
  obtain ⟨r7, M1, ⟨x, e7, hop8⟩, hM7⟩ := jx_met (l := l) (D := D) (ad := ad) (cI := cI) (cS := cS) hI hinj y7l (hcat 0) (by rw [List.length_cons, lw_vs_len]; exact x7) hop
  subst e7
  obtain ⟨r8, M2, ⟨x2, e8, exx, hT2⟩, hM8⟩ := jx_met (l := l) (D := D) (ad := ad) (cI := cI) (cS := cS) hI hinj y8l (hcat 36) (by rw [List.length_cons, lw_vs_len]; exact x8) hop8
  subst e8
  subst exx
  refine lv_aload_n hx hb d0 rfl (lv_at hl 2 rfl) ?_
  refine lw_args C0 hL hl hS n (pc + 1) 1 _ (by omega) d1 ?_
  rw [← lw_vs_cv ad xs i n 1]
  refine jx_lawV (rest := []) hx hb hml hown hts' hK l7 y7l s7 c7 (by rw [lw_vs_len, p7]) hl.1 ⟨by decide, by decide⟩ ⟨by decide, by decide⟩ (by decide) hM7 hP hS hAA d2 (fun H1 locs1 hP1 hS1 => ?_)
  refine lv_aload_n hx hb d3 rfl (lv_at hl 1 rfl) ?_
  refine lw_args C0 hL hl hS1 n _ 1 _ (by omega) d4 ?_
  rw [← lw_vs_cv ad xs i n 1]
  refine jx_lawV (rest := [.int x]) hx hb hml hown hts' hK l8 y8l s8 c8 (by rw [lw_vs_len, p8]) hl.1 ⟨by decide, by decide⟩ ⟨by decide, by decide⟩ (by show 1 ≤ 8; decide) hM8 hP1 hS1 hAA d5 (fun H2 locs2 hP2 hS2 => ?_)
  exact lv_icmp_eq (tgt := 1170) hx hb d6 (by omega) (fun _ => kk M2 H2 locs2 hT2 hP2 hS2) (fun z => absurd rfl z)
set_option maxHeartbeats 1000000 in
theorem lw_cL {pc n k7 k8 y7 y8 : Nat} (C0 : lw_At p s m meth c b L xs) (hL : L ≤ 384) (hinj : jx_inj ad) (hA : ∀ k, k < 56 → lw_A s (ad k)) (hK : va_K D vwCl (jx_tys cI cS) s) (hl : lv_has ls 4 [(3, .int (nI i)), (2, .ref (ad 36)), (1, .ref (ad 0)), (0, .ref b)]) (hi : i + 6 ≤ L) (hn : n ≤ 5)
    (hck : lw_ck pc n k7 k8 true = true) (h7 : lw_mk y7 k7 0 n) (h8 : lw_mk y8 k8 36 n) (hop : jx_L 20 y7 (.ref 0 :: lw_vs xs i n 1) M (fun r M1 => jx_L 20 y8 (.ref 36 :: lw_vs xs i n 1) M1 (fun r2 M2 => r = r2 ∧ tp_I M2)))
    (hP : va_P D vwCl (jx_w ad cI cS M) H) (hS : va_S (lw_A s) s.heap H locs) (kk : lw_K D ad cI cS p l e s m below meth c Q ls b) : W p l e room_1 s m #[Value.ref b] below meth c H locs 56 900 Q (F0 m pc ls []) := by
  obtain ⟨hx, hb, hr, hml, hown, hts, hX, hbl, hlocks, hgv⟩ := id C0
  have hts' : ∀ w ∈ jx_TB, w.before #[Value.ref b] s = true := fun w hw => hts w (List.mem_filter.mp hw).1
  have hAA : ∀ q, jx_A ad q → lw_A s q := fun q ⟨k, h1, h2⟩ => by rw [h2]; exact hA k h1
  simp only [lw_ck, if_true, Bool.and_eq_true, decide_eq_true_eq] at hck
  obtain ⟨⟨⟨⟨⟨⟨d0, d1⟩, d2⟩, d3⟩, d4⟩, d5⟩, d6, d7⟩ := hck
  obtain ⟨l7, y7l, s7, c7, p7, x7⟩ := h7
  obtain ⟨l8, y8l, s8, c8, p8, x8⟩ := h8
  have hcat : ∀ o, ∀ v ∈ (Value.ref o :: lw_vs xs i n 1), v.category = 1 := by
    intro o v hv
    rcases List.mem_cons.mp hv with rfl | h
    · rfl
    · exact lw_vs_cat xs i n 1 v h
  have hI := jx_ilt_ok l D ad cI cS
  obtain ⟨r7, M1, ⟨x, e7, hop8⟩, hM7⟩ := jx_met (l := l) (D := D) (ad := ad) (cI := cI) (cS := cS) hI hinj y7l (hcat 0) (by rw [List.length_cons, lw_vs_len]; exact x7) hop
  subst e7
  obtain ⟨r8, M2, ⟨x2, e8, exx, hT2⟩, hM8⟩ := jx_met (l := l) (D := D) (ad := ad) (cI := cI) (cS := cS) hI hinj y8l (hcat 36) (by rw [List.length_cons, lw_vs_len]; exact x8) hop8
  subst e8
  subst exx
  refine lv_aload_n hx hb d0 rfl (lv_at hl 2 rfl) ?_
  refine lw_args C0 hL hl hS n (pc + 1) 1 _ (by omega) d1 ?_
  rw [← lw_vs_cv ad xs i n 1]
  refine jx_lawV (rest := []) hx hb hml hown hts' hK l7 y7l s7 c7 (by rw [lw_vs_len, p7]) hl.1 ⟨by decide, by decide⟩ ⟨by decide, by decide⟩ (by decide) hM7 hP hS hAA d2 (fun H1 locs1 hP1 hS1 => ?_)
  refine lv_aload_n hx hb d3 rfl (lv_at hl 1 rfl) ?_
  refine lw_args C0 hL hl hS1 n _ 1 _ (by omega) d4 ?_
  rw [← lw_vs_cv ad xs i n 1]
  refine jx_lawV (rest := [.long x]) hx hb hml hown hts' hK l8 y8l s8 c8 (by rw [lw_vs_len, p8]) hl.1 ⟨by decide, by decide⟩ ⟨by decide, by decide⟩ (by show 2 ≤ 8; decide) hM8 hP1 hS1 hAA d5 (fun H2 locs2 hP2 hS2 => ?_)
  refine W.lcmp hx hb d6 ?_
  exact lv_if_eq (tgt := 1170) hx hb d7 (by omega) (fun _ => kk M2 H2 locs2 hT2 hP2 hS2) (fun z => absurd ((jx_lgc x x).mpr rfl) z)
end LWC
