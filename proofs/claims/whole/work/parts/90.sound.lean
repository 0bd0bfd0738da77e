/-! the machine does what the run says -/
def jx_cv (ad : Nat → Nat) : Value → Value
  | .ref k => .ref (ad k)
  | v => v
def jx_tys (cI cS : ClassId) : List (ClassId × FieldType) := [(cI, .int), (cS, .object RX4)]
def jx_ce (ad : Nat → Nat) (cI cS : ClassId) (r : Nat → Int32) (k : Nat) : va_E :=
  if jx_cl k = 9 then .inl (cI, jx_sz k, .inl r) else if jx_cl k = 10 then .inl (cS, jx_sz k, .inr (.inr (.inr (.inr (fun j => some (ad (28 + 2 * j))))))) else .inr (jx_cl k, (List.range (jx_sz k)).map (fun j => jx_cv ad (jx_fv (jx_fk (jx_cl k) j) r k j)))
def jx_w (ad : Nat → Nat) (cI cS : ClassId) (M : jx_M) : va_W := (List.range 56).map (fun k => (ad k, jx_ce ad cI cS (M k) k))
def jx_A (ad : Nat → Nat) : Nat → Prop := fun q => ∃ k, k < 56 ∧ q = ad k
def jx_inj (ad : Nat → Nat) : Prop := ∀ i j, i < 56 → j < 56 → ad i = ad j → i = j
section JXW
variable {ad : Nat → Nat} {cI cS : ClassId} {M M' : jx_M}
theorem jx_w_at {k : Nat} (h : k < 56) : (jx_w ad cI cS M)[k]? = some (ad k, jx_ce ad cI cS (M k) k) := by simp [jx_w, h]
theorem jx_w_len : (jx_w ad cI cS M).length = 56 := by simp [jx_w]
theorem jx_w_inv {k : Nat} {q : Nat × va_E} (h : (jx_w ad cI cS M)[k]? = some q) : k < 56 ∧ q = (ad k, jx_ce ad cI cS (M k) k) := by
  have hk : k < 56 := by
    have := (List.getElem?_eq_some_iff.mp h).1
    rwa [jx_w_len] at this
  rw [jx_w_at hk] at h
  exact ⟨hk, (Option.some.inj h).symm⟩
theorem jx_w_set {k : Nat} {e : va_E} (hk : k < 56) (ho : ∀ a, a ≠ k → M' a = M a) (he : e = jx_ce ad cI cS (M' k) k) : (jx_w ad cI cS M).set k (ad k, e) = jx_w ad cI cS M' := by
  apply List.ext_getElem?
  intro a
  by_cases ha : a = k
  · subst ha
    rw [List.getElem?_set_self (by rw [jx_w_len]; exact hk), jx_w_at hk, he]
  · rw [List.getElem?_set_ne (Ne.symm ha)]
    by_cases h2 : a < 56
    · rw [jx_w_at h2, jx_w_at h2, ho a ha]
    · rw [List.getElem?_eq_none (by rw [jx_w_len]; omega), List.getElem?_eq_none (by rw [jx_w_len]; omega)]
theorem jx_w_D (h : jx_inj ad) : va_D (jx_A ad) (jx_w ad cI cS M) := by
  refine ⟨fun i j p q hi hj e => ?_, fun k q hk => ?_⟩
  · obtain ⟨h1, rfl⟩ := jx_w_inv hi
    obtain ⟨h2, rfl⟩ := jx_w_inv hj
    exact h i j h1 h2 e
  · obtain ⟨h1, rfl⟩ := jx_w_inv hk
    exact ⟨k, h1, rfl⟩
theorem jx_ce_arr {k : Nat} {r : Nat → Int32} (h : jx_cl k = 9) : jx_ce ad cI cS r k = .inl (cI, jx_sz k, .inl r) := by rw [jx_ce, if_pos h]
theorem jx_ce_obj {k : Nat} {r : Nat → Int32} (h : jx_cl k < 9) : jx_ce ad cI cS r k = .inr (jx_cl k, (List.range (jx_sz k)).map (fun j => jx_cv ad (jx_fv (jx_fk (jx_cl k) j) r k j))) := by rw [jx_ce, if_neg (by omega), if_neg (by omega)]
theorem jx_up_o {k j : Nat} {x : Int32} : ∀ a, a ≠ k → jx_up M k j x a = M a := fun a h => by simp [jx_up, h]
theorem jx_up_s {k j : Nat} {x : Int32} : jx_up M k j x k = upd (M k) j x := by simp [jx_up]
theorem jx_fv_o {c k j j' : Nat} {r : Nat → Int32} {x : Int32} (h : j' ≠ j) : jx_fv c (upd r j x) k j' = jx_fv c r k j' := by
  unfold jx_fv
  split <;> simp [upd, h]
theorem jx_fs_set {k j N ci : Nat} {r : Nat → Int32} {x : Int32} {v : Value} (hj : j < N) (hv : jx_cv ad (jx_fv (jx_fk ci j) (upd r j x) k j) = v) :
    ((List.range N).map (fun j => jx_cv ad (jx_fv (jx_fk ci j) r k j))).set j v = (List.range N).map (fun j' => jx_cv ad (jx_fv (jx_fk ci j') (upd r j x) k j')) := by
  apply List.ext_getElem?
  intro a
  by_cases ha : a = j
  · subst ha
    rw [List.getElem?_set_self (by simpa using hj), List.getElem?_map, List.getElem?_range hj, ← hv]
    rfl
  · rw [List.getElem?_set_ne (Ne.symm ha), List.getElem?_map, List.getElem?_map]
    by_cases h2 : a < N
    · rw [List.getElem?_range h2]
      simp only [Option.map_some, jx_fv_o ha]
    · rw [List.getElem?_eq_none (by simp; omega)]
      rfl
theorem jx_rvn {o : Nat} (h : o < 56) : jx_rv (nI o) = .ref o := by
  rw [jx_rv, if_neg (nI_pos (by omega)), nI_clamp (by omega)]
end JXW
theorem jx_fl_mem {o i : Nat} {q : Nat × Nat} (h : jx_fl o i = some q) : (o, i, q) ∈ jx_flT := by
  unfold jx_fl at h
  cases h1 : jx_flT.find? (fun e => e.1 == o && e.2.1 == i) with
  | none => rw [h1] at h; cases h
  | some e =>
    rw [h1] at h
    have h2 := List.find?_some h1
    simp only [Bool.and_eq_true, beq_iff_eq] at h2
    have h3 := List.mem_of_find?_eq_some h1
    obtain ⟨a, b, c⟩ := e
    simp only [Option.map_some, Option.some.injEq] at h
    obtain ⟨rfl, rfl⟩ := h2
    rw [← h]
    exact h3
theorem jx_ml_mem {o i y : Nat} (h : jx_ml o i = some y) : (o, i, y) ∈ jx_mlT := by
  unfold jx_ml at h
  cases h1 : jx_mlT.find? (fun e => e.1 == o && e.2.1 == i) with
  | none => rw [h1] at h; cases h
  | some e =>
    rw [h1] at h
    have h2 := List.find?_some h1
    simp only [Bool.and_eq_true, beq_iff_eq] at h2
    have h3 := List.mem_of_find?_eq_some h1
    obtain ⟨a, b, c⟩ := e
    simp only [Option.map_some, Option.some.injEq] at h
    obtain ⟨rfl, rfl⟩ := h2
    rw [← h]
    exact h3
/-! locals -/
def jx_ls (ad : Nat → Nat) (lv : List (Option Value)) : List (Nat × Value) := (List.range lv.length).filterMap (fun k => match lv[k]? with
  | some (some v) => some (k, jx_cv ad v)
  | _ => none)
theorem jx_ls_mem {ad : Nat → Nat} {lv : List (Option Value)} {q : Nat × Value} : q ∈ jx_ls ad lv ↔ ∃ v, lv[q.1]? = some (some v) ∧ q.2 = jx_cv ad v := by
  unfold jx_ls
  rw [List.mem_filterMap]
  constructor
  · rintro ⟨k, -, h⟩
    split at h
    · next v hv => cases h; exact ⟨v, hv, rfl⟩
    · cases h
  · rintro ⟨v, h1, h2⟩
    refine ⟨q.1, List.mem_range.mpr (List.getElem?_eq_some_iff.mp h1).1, ?_⟩
    rw [h1]
    simp only [← h2]
def jx_LV (ad : Nat → Nat) (ls : Array Slot) (n : Nat) (lv : List (Option Value)) : Prop := lv.length = n ∧ (∀ (k : Nat) (v : Value), lv[k]? = some (some v) → v.category = 1) ∧ lv_has ls n (jx_ls ad lv)
theorem jx_cvc (ad : Nat → Nat) (v : Value) : (jx_cv ad v).category = v.category := by cases v <;> rfl
theorem jx_LV.get {ad : Nat → Nat} {ls : Array Slot} {n k : Nat} {lv : List (Option Value)} {v : Value} (h : jx_LV ad ls n lv) (hk : lv[k]? = some (some v)) : ls[k]? = some (.val (jx_cv ad v)) :=
  h.2.2.2.2 (k, jx_cv ad v) (jx_ls_mem.mpr ⟨v, hk, rfl⟩)
theorem jx_LV.set {ad : Nat → Nat} {ls ls' : Array Slot} {n k : Nat} {lv : List (Option Value)} {v : Value} (h : jx_LV ad ls n lv) (hk : k < lv.length) (hc : v.category = 1)
    (h' : lv_has ls' n ((k, jx_cv ad v) :: (jx_ls ad lv).filter (fun q => !(q.1 == k) && !(q.1 + 1 == k && q.2.category == 2)))) : jx_LV ad ls' n (lv.set k (some v)) := by
  refine ⟨by rw [List.length_set]; exact h.1, fun j w hj => ?_, h'.1, h'.2.1, fun q hq => ?_⟩
  · by_cases e : j = k
    · subst e
      rw [List.getElem?_set_self hk] at hj
      cases hj
      exact hc
    · rw [List.getElem?_set_ne (Ne.symm e)] at hj
      exact h.2.1 j w hj
  · obtain ⟨w, h1, h2⟩ := jx_ls_mem.mp hq
    apply h'.2.2
    by_cases e : q.1 = k
    · rw [e, List.getElem?_set_self hk] at h1
      cases h1
      rw [List.mem_cons]
      exact Or.inl (Prod.ext e h2)
    · rw [List.getElem?_set_ne (Ne.symm e)] at h1
      refine List.mem_cons_of_mem _ (List.mem_filter.mpr ⟨jx_ls_mem.mpr ⟨w, h1, h2⟩, ?_⟩)
      have c1 : q.2.category = 1 := by rw [h2, jx_cvc]; exact h.2.1 _ w h1
      simp [e, c1]
theorem jx_args_mem : ∀ (vs : List Value) (i : Nat), (∀ v ∈ vs, v.category = 1) → ∀ (k : Nat) (v : Value), vs[k]? = some v → (i + k, v) ∈ lv_args i vs
  | [], _, _, k, v, h => by simp at h
  | w :: vs, i, hc, k, v, h => by
    have hw : ¬ w.category = 2 := by rw [hc w List.mem_cons_self]; decide
    rw [lv_args, if_neg hw]
    cases k with
    | zero =>
      rw [List.getElem?_cons_zero] at h
      cases h
      exact List.mem_cons_self
    | succ k =>
      rw [List.getElem?_cons_succ] at h
      have := jx_args_mem vs (i + 1) (fun v hv => hc v (List.mem_cons_of_mem _ hv)) k v h
      rw [show i + (k + 1) = i + 1 + k by omega]
      exact List.mem_cons_of_mem _ this
theorem jx_sl_len : ∀ (vs : List Value), (∀ v ∈ vs, v.category = 1) → (lg_sl vs).length = vs.length
  | [], _ => rfl
  | w :: vs, hc => by
    have hw : ¬ w.category = 2 := by rw [hc w List.mem_cons_self]; decide
    have := jx_sl_len vs (fun v hv => hc v (List.mem_cons_of_mem _ hv))
    unfold lg_sl at this ⊢
    rw [List.flatMap_cons, if_neg hw, List.length_append, this]
    simp [Nat.add_comm]
theorem jx_LV_entry {ad : Nat → Nat} {y : Nat} {As : List Value} (hc : ∀ v ∈ As, v.category = 1) (hn : As.length ≤ jx_mx y) :
    jx_LV ad ((lg_sl (As.map (jx_cv ad)) ++ List.replicate (jx_mx y - (lg_sl (As.map (jx_cv ad))).length) Slot.unset).toArray) (jx_mx y) (jx_en y As) := by
  have hc' : ∀ v ∈ As.map (jx_cv ad), v.category = 1 := by
    intro v hv
    obtain ⟨w, h1, rfl⟩ := List.mem_map.mp hv
    rw [jx_cvc]; exact hc w h1
  have hl := jx_sl_len _ hc'
  rw [List.length_map] at hl
  have h0 := lv_entry (As.map (jx_cv ad)) (n := jx_mx y) (by rw [hl]; exact hn)
  have key : ∀ (k : Nat) (v : Value), (jx_en y As)[k]? = some (some v) → As[k]? = some v := by
    intro k v h
    unfold jx_en at h
    by_cases hk : k < As.length
    · rw [List.getElem?_append_left (by simpa using hk), List.getElem?_map] at h
      cases h2 : As[k]? with
      | none => rw [h2] at h; cases h
      | some w => rw [h2] at h; cases h; rfl
    · rw [List.getElem?_append_right (by simpa using Nat.not_lt.mp hk)] at h
      have := List.eq_of_mem_replicate (List.mem_of_getElem? h)
      cases this
  refine ⟨by simp [jx_en]; omega, fun k v h => hc v (List.mem_of_getElem? (key k v h)), h0.1, h0.2.1, fun q hq => h0.2.2 q ?_⟩
  obtain ⟨v, h1, h2⟩ := jx_ls_mem.mp hq
  have h3 := jx_args_mem (As.map (jx_cv ad)) 0 hc' q.1 (jx_cv ad v) (by rw [List.getElem?_map, key _ _ h1]; rfl)
  rw [Nat.zero_add, ← h2] at h3
  exact h3
/-! contracts -/
def jx_rm (d : Nat) : Room := { frames := d, cells := 0, slots := 0, locals := 100 * d }
def jx_ws (y : Nat) : List Cond := Cond.code (jx_mn y) (jx_mb y) (jx_mx y) (jx_mr y) :: jx_TB
def jx_B (D : va_G) (ad : Nat → Nat) (cI cS : ClassId) (M : jx_M) (t : State) : Prop := va_P D vwCl (jx_w ad cI cS M) t.heap ∧ va_K D vwCl (jx_tys cI cS) t
def jx_Q (D : va_G) (ad : Nat → Nat) (cI cS : ClassId) (r : List Value) (M' : jx_M) : Array Value → State → Outcome → State → Prop := fun _ st oc t => (∃ v : Option Value, oc = .returned v ∧ v.toList = r.map (jx_cv ad) ∧ jx_B D ad cI cS M' t) ∧ va_F (jx_A ad) st t
def jx_Met (l : Launch) (D : va_G) (ad : Nat → Nat) (cI cS : ClassId) (d y : Nat) (As : List Value) (M : jx_M) (r : List Value) (M' : jx_M) : Prop :=
  Met l (jx_mn y) (jx_ws y) (jx_rm d) (va_Pc (As.map (jx_cv ad)) (jx_B D ad cI cS M)) (jx_Q D ad cI cS r M') 0 0 (jx_A ad)
def jx_Cx (D : va_G) (cI cS : ClassId) (p : Program) (s : State) (m : MethodId) (args : Array Value) (meth : Method) (c : Code) (y : Nat) : Prop :=
  p.tables.exec = Jvm.exec ∧ c.code = jx_mb y ∧ c.maxLocals = jx_mx y ∧ s.vm.findClass (jx_rx (jx_mo y)) = some m.cls ∧ (∀ w ∈ jx_TB, w.before args s = true) ∧ meth.sig.returnType = jx_mr y ∧ meth.locks = false ∧ va_K D vwCl (jx_tys cI cS) s
def jx_G (D : va_G) (ad : Nat → Nat) (cI cS : ClassId) (p : Program) (l : Launch) (e : Env) (R : Room) (s : State) (m : MethodId) (args : Array Value) (below : List Frame) (meth : Method) (c : Code) (Q : State → Prop) (y pc : Nat) (lv : List (Option Value)) (st : List Value) (M : jx_M) : Prop :=
  ∀ (H : Heap) (locs : List Loc) (ls : Array Slot), jx_LV ad ls (jx_mx y) lv → va_P D vwCl (jx_w ad cI cS M) H → va_S (jx_A ad) s.heap H locs → W p l e R s m args below meth c H locs 0 0 Q (F0 m pc ls (st.map (jx_cv ad)))
theorem jx_good {ws : List Cond} (h : ∀ w ∈ ws, w ∈ jx_TB) : GoodIn jx_TB ws := fun w hw => ⟨h w hw, good_of_word (List.mem_filter.mp (h w hw)).2⟩
theorem jx_blind {D : va_G} {ad : Nat → Nat} {cI cS : ClassId} {M : jx_M} {av : List Value} : FrameBlind (va_Pc av (jx_B D ad cI cS M)) := fun a U g mk q => ⟨q.1, q.2.1, va_K.moved (u := U) (U := U.calling g mk a) (Vm.Alike.refl U.vm) q.2.2⟩
theorem jx_met_of {l : Launch} {D : va_G} {ad : Nat → Nat} {cI cS : ClassId} {d y : Nat} {As : List Value} {M : jx_M} {r : List Value} {M' : jx_M} (hy : y < 141) (hc : ∀ v ∈ As, v.category = 1) (hn : As.length ≤ jx_mx y)
    (h : ∀ (p : Program) (e : Env) (s : State) (m : MethodId) (args : Array Value) (below : List Frame) (meth : Method) (c : Code), jx_Cx D cI cS p s m args meth c y → jx_G D ad cI cS p l e (jx_rm d) s m args below meth c (MQ below (jx_Q D ad cI cS r M') args s 0 0 (jx_A ad)) y 0 (jx_en y As) [] M) : jx_Met l D ad cI cS d y As M r M' := by
  obtain ⟨o1, o2, o3, o4, o5, o6, o7, o8⟩ := jx_oks y hy
  refine Met.ofW (cc := jx_mb y) (maxL := jx_mx y) (ret := jx_mr y) o4 rfl ?_
  intro p e s m args below meth c s₁ B hml hv
  obtain ⟨rfl, hP, hK⟩ := hv
  have hts := atoms_spec (ws := jx_ws y) B.pre
  have hown := findClass_of_methodNamed B.named
  rw [o3] at hown
  rw [lg_entry_eq]
  exact h p e s m _ below meth c ⟨B.exec, B.bytes, hml, hown, fun w hw => hts w (List.mem_cons_of_mem _ hw), B.returns, B.notSynchronized, hK⟩ s.heap [] _ (jx_LV_entry hc hn) hP va_S.rf
