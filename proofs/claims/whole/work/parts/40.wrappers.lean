/-! the law's helpers: each calls one method of the class and tells by a number what it threw -/
def wO (cy : Nat → ClassId) (ad : Nat → Nat) (o : Nat) (Xr : va_W) (f : Nat → Int64) : SC → va_W := wC cy ad ((o, .inl (cy 2, 1, .inr (.inl f))) :: Xr)
def ncs : List (String × String) := [("java/lang/IllegalArgumentException", "java/lang/IllegalStateException"), ("java/lang/IllegalArgumentException", "java/lang/IndexOutOfBoundsException"), ("java/lang/IllegalStateException", "java/lang/IllegalArgumentException"), ("java/lang/IllegalStateException", "java/lang/IndexOutOfBoundsException"), ("java/lang/IndexOutOfBoundsException", "java/lang/IllegalArgumentException"), ("java/lang/IndexOutOfBoundsException", "java/lang/IllegalStateException")]
def KNc (U : State) : Prop := ∀ q ∈ ncs, va_Nc q.1 q.2 U
def PGw (t1 t2 : Nat) (D : va_G) (cy : Nat → ClassId) (w : SC → va_W) (sz : Nat) (av : List Value) (S : SC) : Array Value → State → Prop := fun a U => PGs t1 t2 D cy w sz av S a U ∧ KNc U
theorem PGw_blind {t1 t2 : Nat} {D : va_G} {cy : Nat → ClassId} {w : SC → va_W} {sz : Nat} {av : List Value} {S : SC} : FrameBlind (PGw t1 t2 D cy w sz av S) := by
  intro a U g mk ⟨h1, h2⟩
  exact ⟨PGs_blind a U g mk h1, fun q hq => (h2 q hq).moved (u := U) (U := U.calling g mk a) (Vm.Alike.refl U.vm)⟩
def CW (l : Launch) (t1 t2 : Nat) (D : va_G) (cy : Nat → ClassId) (ad : Nat → Nat) (o : Nat) (Xr : va_W) (y : MethodName) (wds : List Cond) (rm : Room) (av : List Value) (S : SC) (f : Nat → Int64) (k : Int32) (S' : SC) (f' : Nat → Int64) : Prop :=
  ∀ sz : Nat, Met l y wds rm (PGw t1 t2 D cy (wO cy ad o Xr f) sz av S) (QG D (wO cy ad o Xr f') (AW (wO cy ad o Xr f) sz) (some (.int k)) S') rm.cells rm.slots (AW (wO cy ad o Xr f) sz)
theorem CW.of {l : Launch} {t1 t2 : Nat} {D : va_G} {cy : Nat → ClassId} {ad : Nat → Nat} {o : Nat} {Xr : va_W} {y : MethodName} {wds wds' : List Cond} {rm : Room} {av : List Value} {S S' : SC} {f f' : Nat → Int64} {k : Int32} {cc : ByteArray} {maxL : Nat} {ret : Option FieldType} {hh : List (Nat × Nat × Nat × Nat)}
    (hy : plainName y.cls = true) (hw : wds = Cond.codeWith y cc maxL ret hh :: wds') (hent : (lg_sl av).length ≤ maxL)
    (body : ∀ (p : Program) (e : Env) (s : State) (m : MethodId) (below : List Frame) (meth : Method) (c : Code) (A : Nat → Prop) (ls : Array Slot), CX p s m av.toArray meth c cc maxL y.cls wds D cy (wO cy ad o Xr f) A → meth.sig.returnType = ret → ST D (wO cy ad o Xr f) A s S s.heap [] → lv_has ls maxL (lv_args 0 av) → SX t1 t2 A s s.heap → c.exceptionTable.toList = tableOf hh → KNc s →
      W p l e rm s m av.toArray below meth c s.heap [] 0 0 (MQ below (QG D (wO cy ad o Xr f') A (some (.int k)) S') av.toArray s rm.cells rm.slots A) (F0 m 0 ls [])) : CW l t1 t2 D cy ad o Xr y wds rm av S f k S' f' := by
  intro sz
  refine va_MetW (cc := cc) (maxL := maxL) (ret := ret) hy hw ?_
  intro p e s m args below meth c s₁ B hml hv
  obtain ⟨⟨rfl, hsz, ⟨hP, hD0⟩, hK, hX⟩, hN⟩ := hv
  subst hsz
  have hts := atoms_spec (ws := wds) B.pre
  have htab := vx_table (x := y) B (hts _ (by rw [hw]; exact List.mem_cons_self))
  have hwA : ∀ (S : SC) (k : Nat) (q : Nat × va_E), (wO cy ad o Xr f S)[k]? = some q → AW (wO cy ad o Xr f) s.heap.size q.1 := fun S k q h => Or.inl ⟨S, k, q.2, h⟩
  rw [lg_entry_eq]
  exact body p e s m below meth c (AW (wO cy ad o Xr f) s.heap.size) _ ⟨B.exec, B.bytes, hml, findClass_of_methodNamed B.named, hts, B.notSynchronized, hK, fun q h => Or.inr h, hwA⟩ B.returns ⟨hP, ⟨hD0.1, fun k q h => hwA S k q h⟩, va_S.rf⟩ (lv_entry av hent) hX htab hN
def wkn : List Nat → Nat → Int32 → Option Int32
  | [], _, _ => none
  | a :: t, e, i => if e = a then some i else wkn t e (i + 1)
/-- the helper's number -/
def wk (es : List Nat) (r : Int32 ⊕ Nat) : Option Int32 := match r with | .inl _ => some 0 | .inr e => wkn es e 1
/-- what the helper's cell holds then -/
def wf (f : Nat → Int64) (r : Int32 ⊕ Nat) : Nat → Int64 := match r with | .inl v => vp_updL f 0 v.toInt64 | .inr _ => f
set_option maxHeartbeats 4000000 in
set_option maxRecDepth 100000 in
theorem kL_begin (l : Launch) (hfl : l.stackTraces = false) (t1 t2 : Nat) (D : va_G) (cy : Nat → ClassId) (ad : Nat → Nat) (o : Nat) (Xr : va_W) (S : SC) (f : Nat → Int64) (x1 : Int32) (x2 : Int32) (x3 : Int32) (x4 : Int32) (x5 : Int32) (r : (Int32 ⊕ Nat) × SC) (hf : fX3_begin S x1 x2 x3 x4 x5 = some r) (k : Int32) (hk : wk [0] r.1 = some k) : CW l t1 t2 D cy ad o Xr yL_begin wsL_begin ({ frames := 7, cells := 1, slots := 6, locals := 115 } : Room) [.ref (ad 0), .int x1, .int x2, .int x3, .int x4, .int x5, .ref o] S f k r.2 (wf f r.1) := by
  refine CW.of (cc := cL_begin) (maxL := 8) (ret := (some .int)) (by decide +kernel) rfl (Nat.le_of_ble_eq_true rfl) ?_
  intro p e s m below meth c A ls X hr T hl hX htab hN
  obtain ⟨hx, hb, hml, hown, hts, hlk, hK, hA, hwA⟩ := id X
  have hl : lv_has ls 8 [(0, .ref (ad 0)), (1, .int x1), (2, .int x2), (3, .int x3), (4, .int x4), (5, .int x5), (6, .ref o)] := hl
  have htab : c.exceptionTable.toList = [⟨0, 16, 19, 13⟩] := htab
  refine lv_aload hx hb dL_begin_0 (lv_at hl 6 rfl) ?_
  refine lv_iconst (v := 0) hx hb dL_begin_2 (by decide) ?_
  refine lv_aload_n hx hb dL_begin_3 rfl (lv_at hl 0 rfl) ?_
  refine lv_iload_n hx hb dL_begin_4 rfl (lv_at hl 1 rfl) ?_
  refine lv_iload_n hx hb dL_begin_5 rfl (lv_at hl 2 rfl) ?_
  refine lv_iload_n hx hb dL_begin_6 rfl (lv_at hl 3 rfl) ?_
  refine lv_iload hx hb dL_begin_7 (lv_at hl 4 rfl) ?_
  refine lv_iload hx hb dL_begin_9 (lv_at hl 5 rfl) ?_
  obtain ⟨r1, S1⟩ := r
  cases r1 with
  | inl v =>
    obtain rfl : (0 : Int32) = k := Option.some.inj hk
    refine ct_Vi (v := some (.int v)) (q0 := 15) (ci := 3) (As := [.int x1, .int x2, .int x3, .int x4, .int x5]) (rest := [.int 0, .ref o]) X hX T (kX3_begin l hfl t1 t2 D cy ad ((o, .inl (cy 2, 1, .inr (.inl f))) :: Xr) S x1 x2 x3 x4 x5 (.inl v, S1) hf) (cwV 5 hts gL_begin_X3_begin rfl rfl rfl (by decide +kernel) ⟨(Nat.le_of_ble_eq_true rfl), (Nat.le_of_ble_eq_true rfl)⟩) rfl rfl rfl hl.1 rfl (Nat.le_of_ble_eq_true rfl) dL_begin_11 ⟨(Nat.le_of_ble_eq_true rfl), (Nat.le_of_ble_eq_true rfl)⟩ (st2 := [.int v, .int 0, .ref o]) (pc2 := 14) (c2 := 1) (s2 := 6) rfl rfl rfl rfl (fun H locs T => ?_)
    refine lv_i2l hx hb dL_begin_14 rfl ?_
    refine va_last hx hb hK.1 T.1 T.2.1 T.2.2 16 2 rfl rfl (show vp_in 0 1 from fun h => absurd h (by decide)) dL_begin_15 (fun H locs hP hD hS => ?_)
    have hP : va_P D vwCl (wO cy ad o Xr (vp_updL f 0 v.toInt64) S1) H := hP
    have hD : va_D A (wO cy ad o Xr (vp_updL f 0 v.toInt64) S1) := hD
    refine lv_goto (tgt := 23) hx hb dL_begin_16 (by decide) ?_
    refine lv_iconst (v := 0) hx hb dL_begin_23 (by decide) ?_
    exact W.iret hx hb hr (fun t ht _ => ⟨rfl, ⟨by rw [ht]; exact hP, hD.weaken (fun _ _ _ _ => trivial)⟩, hS.F ht⟩) hS.2.2 dL_begin_24 hlk
  | inr e9 =>
    by_cases h0 : e9 = 0
    · subst h0
      obtain rfl : (1 : Int32) = k := by simpa [wk, wkn] using hk
      refine ct_V (q0 := 15) (ci := 3) (As := [.int x1, .int x2, .int x3, .int x4, .int x5]) (rest := [.int 0, .ref o]) X hX T (kX3_begin l hfl t1 t2 D cy ad ((o, .inl (cy 2, 1, .inr (.inl f))) :: Xr) S x1 x2 x3 x4 x5 (.inr 0, S1) hf) (cwV 5 hts gL_begin_X3_begin rfl rfl rfl (by decide +kernel) ⟨(Nat.le_of_ble_eq_true rfl), (Nat.le_of_ble_eq_true rfl)⟩) rfl rfl rfl hl.1 rfl (Nat.le_of_ble_eq_true rfl) dL_begin_11 ⟨(Nat.le_of_ble_eq_true rfl), (Nat.le_of_ble_eq_true rfl)⟩ (fun v hv => by cases hv) (fun k2 hk2 H locs q ce T q1 q2 q3 => ?_)
      obtain rfl : 0 = k2 := by cases hk2; rfl
      refine vx_catch (name := "java/lang/IllegalArgumentException") hown [] ⟨0, 16, 19, 13⟩ [] htab (fun _ h => absurd h List.not_mem_nil) (by decide) (by decide) (hts _ (List.mem_of_getElem? (i := 1) rfl)) (va_Nw.use rfl (hK.2 _ (List.mem_of_getElem? (i := 12) rfl))) q1 q2 q3 ?_
      refine lv_astore (lv' := [(7, .ref q), (0, .ref (ad 0)), (1, .int x1), (2, .int x2), (3, .int x3), (4, .int x4), (5, .int x5), (6, .ref o)]) hx hb dL_begin_19 hl (by decide) rfl (fun ls hl => ?_)
      refine lv_iconst (v := 1) hx hb dL_begin_21 (by decide) ?_
      exact W.iret hx hb hr (fun t ht _ => ⟨rfl, ⟨by rw [ht]; exact T.1, T.2.1.weaken (fun _ _ _ _ => trivial)⟩, T.2.2.F ht⟩) T.2.2.2.2 dL_begin_22 hlk
    · skip
      exact absurd hk (by simp [wk, wkn, h0])

set_option maxHeartbeats 4000000 in
set_option maxRecDepth 100000 in
theorem kL_place (l : Launch) (hfl : l.stackTraces = false) (t1 t2 : Nat) (D : va_G) (cy : Nat → ClassId) (ad : Nat → Nat) (o : Nat) (Xr : va_W) (S : SC) (f : Nat → Int64) (x1 : Int32) (r : (Int32 ⊕ Nat) × SC) (hf : fX3_place S x1 = some r) (k : Int32) (hk : wk [2, 1] r.1 = some k) : CW l t1 t2 D cy ad o Xr yL_place wsL_place ({ frames := 8, cells := 2, slots := 12, locals := 144 } : Room) [.ref (ad 0), .int x1, .ref o] S f k r.2 (wf f r.1) := by
  refine CW.of (cc := cL_place) (maxL := 4) (ret := (some .int)) (by decide +kernel) rfl (Nat.le_of_ble_eq_true rfl) ?_
  intro p e s m below meth c A ls X hr T hl hX htab hN
  obtain ⟨hx, hb, hml, hown, hts, hlk, hK, hA, hwA⟩ := id X
  have hl : lv_has ls 4 [(0, .ref (ad 0)), (1, .int x1), (2, .ref o)] := hl
  have htab : c.exceptionTable.toList = [⟨0, 9, 12, 19⟩, ⟨0, 9, 15, 21⟩] := htab
  refine lv_aload_n hx hb dL_place_0 rfl (lv_at hl 2 rfl) ?_
  refine lv_iconst (v := 0) hx hb dL_place_1 (by decide) ?_
  refine lv_aload_n hx hb dL_place_2 rfl (lv_at hl 0 rfl) ?_
  refine lv_iload_n hx hb dL_place_3 rfl (lv_at hl 1 rfl) ?_
  obtain ⟨r1, S1⟩ := r
  cases r1 with
  | inl v =>
    obtain rfl : (0 : Int32) = k := Option.some.inj hk
    refine ct_Vi (v := some (.int v)) (q0 := 15) (ci := 3) (As := [.int x1]) (rest := [.int 0, .ref o]) X hX T (kX3_place l hfl t1 t2 D cy ad ((o, .inl (cy 2, 1, .inr (.inl f))) :: Xr) S x1 (.inl v, S1) hf) (cwV 1 hts gL_place_X3_place rfl rfl rfl (by decide +kernel) ⟨(Nat.le_of_ble_eq_true rfl), (Nat.le_of_ble_eq_true rfl)⟩) rfl rfl rfl hl.1 rfl (Nat.le_of_ble_eq_true rfl) dL_place_4 ⟨(Nat.le_of_ble_eq_true rfl), (Nat.le_of_ble_eq_true rfl)⟩ (st2 := [.int v, .int 0, .ref o]) (pc2 := 7) (c2 := 2) (s2 := 12) rfl rfl rfl rfl (fun H locs T => ?_)
    refine lv_i2l hx hb dL_place_7 rfl ?_
    refine va_last hx hb hK.1 T.1 T.2.1 T.2.2 16 2 rfl rfl (show vp_in 0 1 from fun h => absurd h (by decide)) dL_place_8 (fun H locs hP hD hS => ?_)
    have hP : va_P D vwCl (wO cy ad o Xr (vp_updL f 0 v.toInt64) S1) H := hP
    have hD : va_D A (wO cy ad o Xr (vp_updL f 0 v.toInt64) S1) := hD
    refine lv_goto (tgt := 18) hx hb dL_place_9 (by decide) ?_
    refine lv_iconst (v := 0) hx hb dL_place_18 (by decide) ?_
    exact W.iret hx hb hr (fun t ht _ => ⟨rfl, ⟨by rw [ht]; exact hP, hD.weaken (fun _ _ _ _ => trivial)⟩, hS.F ht⟩) hS.2.2 dL_place_19 hlk
  | inr e9 =>
    by_cases h0 : e9 = 2
    · subst h0
      obtain rfl : (1 : Int32) = k := by simpa [wk, wkn] using hk
      refine ct_V (q0 := 15) (ci := 3) (As := [.int x1]) (rest := [.int 0, .ref o]) X hX T (kX3_place l hfl t1 t2 D cy ad ((o, .inl (cy 2, 1, .inr (.inl f))) :: Xr) S x1 (.inr 2, S1) hf) (cwV 1 hts gL_place_X3_place rfl rfl rfl (by decide +kernel) ⟨(Nat.le_of_ble_eq_true rfl), (Nat.le_of_ble_eq_true rfl)⟩) rfl rfl rfl hl.1 rfl (Nat.le_of_ble_eq_true rfl) dL_place_4 ⟨(Nat.le_of_ble_eq_true rfl), (Nat.le_of_ble_eq_true rfl)⟩ (fun v hv => by cases hv) (fun k2 hk2 H locs q ce T q1 q2 q3 => ?_)
      obtain rfl : 2 = k2 := by cases hk2; rfl
      refine vx_catch (name := "java/lang/IndexOutOfBoundsException") hown [] ⟨0, 9, 12, 19⟩ [⟨0, 9, 15, 21⟩] htab (fun _ h => absurd h List.not_mem_nil) (by decide) (by decide) (hts _ (List.mem_of_getElem? (i := 1) rfl)) (va_Nw.use rfl (hK.2 _ (List.mem_of_getElem? (i := 14) rfl))) q1 q2 q3 ?_
      refine lv_astore_n (lv' := [(3, .ref q), (0, .ref (ad 0)), (1, .int x1), (2, .ref o)]) hx hb dL_place_12 rfl hl (by decide) rfl (fun ls hl => ?_)
      refine lv_iconst (v := 1) hx hb dL_place_13 (by decide) ?_
      exact W.iret hx hb hr (fun t ht _ => ⟨rfl, ⟨by rw [ht]; exact T.1, T.2.1.weaken (fun _ _ _ _ => trivial)⟩, T.2.2.F ht⟩) T.2.2.2.2 dL_place_14 hlk
    · skip
      by_cases h1 : e9 = 1
      · subst h1
        obtain rfl : (2 : Int32) = k := by simpa [wk, wkn] using hk
        refine ct_V (q0 := 15) (ci := 3) (As := [.int x1]) (rest := [.int 0, .ref o]) X hX T (kX3_place l hfl t1 t2 D cy ad ((o, .inl (cy 2, 1, .inr (.inl f))) :: Xr) S x1 (.inr 1, S1) hf) (cwV 1 hts gL_place_X3_place rfl rfl rfl (by decide +kernel) ⟨(Nat.le_of_ble_eq_true rfl), (Nat.le_of_ble_eq_true rfl)⟩) rfl rfl rfl hl.1 rfl (Nat.le_of_ble_eq_true rfl) dL_place_4 ⟨(Nat.le_of_ble_eq_true rfl), (Nat.le_of_ble_eq_true rfl)⟩ (fun v hv => by cases hv) (fun k2 hk2 H locs q ce T q1 q2 q3 => ?_)
        obtain rfl : 1 = k2 := by cases hk2; rfl
        refine vx_catch (name := "java/lang/IllegalStateException") hown [⟨0, 9, 12, 19⟩] ⟨0, 9, 15, 21⟩ [] htab (List.forall_mem_cons.mpr ⟨Or.inr ⟨by decide, "java/lang/IndexOutOfBoundsException", (hts _ (List.mem_of_getElem? (i := 1) rfl)), hN _ (List.mem_of_getElem? (i := 3) rfl)⟩, fun _ h => absurd h List.not_mem_nil⟩) (by decide) (by decide) (hts _ (List.mem_of_getElem? (i := 2) rfl)) (va_Nw.use rfl (hK.2 _ (List.mem_of_getElem? (i := 13) rfl))) q1 q2 q3 ?_
        refine lv_astore_n (lv' := [(3, .ref q), (0, .ref (ad 0)), (1, .int x1), (2, .ref o)]) hx hb dL_place_15 rfl hl (by decide) rfl (fun ls hl => ?_)
        refine lv_iconst (v := 2) hx hb dL_place_16 (by decide) ?_
        exact W.iret hx hb hr (fun t ht _ => ⟨rfl, ⟨by rw [ht]; exact T.1, T.2.1.weaken (fun _ _ _ _ => trivial)⟩, T.2.2.F ht⟩) T.2.2.2.2 dL_place_17 hlk
      · skip
        exact absurd hk (by simp [wk, wkn, h0, h1])

set_option maxHeartbeats 4000000 in
set_option maxRecDepth 100000 in
theorem kL_raise (l : Launch) (hfl : l.stackTraces = false) (t1 t2 : Nat) (D : va_G) (cy : Nat → ClassId) (ad : Nat → Nat) (o : Nat) (Xr : va_W) (S : SC) (f : Nat → Int64) (x1 : Int32) (x2 : Int32) (r : (Int32 ⊕ Nat) × SC) (hf : fX3_raise S x1 x2 = some r) (k : Int32) (hk : wk [2, 0, 1] r.1 = some k) : CW l t1 t2 D cy ad o Xr yL_raise wsL_raise ({ frames := 8, cells := 2, slots := 12, locals := 134 } : Room) [.ref (ad 0), .int x1, .int x2, .ref o] S f k r.2 (wf f r.1) := by
  refine CW.of (cc := cL_raise) (maxL := 5) (ret := (some .int)) (by decide +kernel) rfl (Nat.le_of_ble_eq_true rfl) ?_
  intro p e s m below meth c A ls X hr T hl hX htab hN
  obtain ⟨hx, hb, hml, hown, hts, hlk, hK, hA, hwA⟩ := id X
  have hl : lv_has ls 5 [(0, .ref (ad 0)), (1, .int x1), (2, .int x2), (3, .ref o)] := hl
  have htab : c.exceptionTable.toList = [⟨0, 10, 13, 19⟩, ⟨0, 10, 17, 13⟩, ⟨0, 10, 21, 21⟩] := htab
  refine lv_aload_n hx hb dL_raise_0 rfl (lv_at hl 3 rfl) ?_
  refine lv_iconst (v := 0) hx hb dL_raise_1 (by decide) ?_
  refine lv_aload_n hx hb dL_raise_2 rfl (lv_at hl 0 rfl) ?_
  refine lv_iload_n hx hb dL_raise_3 rfl (lv_at hl 1 rfl) ?_
  refine lv_iload_n hx hb dL_raise_4 rfl (lv_at hl 2 rfl) ?_
  obtain ⟨r1, S1⟩ := r
  cases r1 with
  | inl v =>
    obtain rfl : (0 : Int32) = k := Option.some.inj hk
    refine ct_Vi (v := some (.int v)) (q0 := 15) (ci := 3) (As := [.int x1, .int x2]) (rest := [.int 0, .ref o]) X hX T (kX3_raise l hfl t1 t2 D cy ad ((o, .inl (cy 2, 1, .inr (.inl f))) :: Xr) S x1 x2 (.inl v, S1) hf) (cwV 2 hts gL_raise_X3_raise rfl rfl rfl (by decide +kernel) ⟨(Nat.le_of_ble_eq_true rfl), (Nat.le_of_ble_eq_true rfl)⟩) rfl rfl rfl hl.1 rfl (Nat.le_of_ble_eq_true rfl) dL_raise_5 ⟨(Nat.le_of_ble_eq_true rfl), (Nat.le_of_ble_eq_true rfl)⟩ (st2 := [.int v, .int 0, .ref o]) (pc2 := 8) (c2 := 2) (s2 := 12) rfl rfl rfl rfl (fun H locs T => ?_)
    refine lv_i2l hx hb dL_raise_8 rfl ?_
    refine va_last hx hb hK.1 T.1 T.2.1 T.2.2 16 2 rfl rfl (show vp_in 0 1 from fun h => absurd h (by decide)) dL_raise_9 (fun H locs hP hD hS => ?_)
    have hP : va_P D vwCl (wO cy ad o Xr (vp_updL f 0 v.toInt64) S1) H := hP
    have hD : va_D A (wO cy ad o Xr (vp_updL f 0 v.toInt64) S1) := hD
    refine lv_goto (tgt := 25) hx hb dL_raise_10 (by decide) ?_
    refine lv_iconst (v := 0) hx hb dL_raise_25 (by decide) ?_
    exact W.iret hx hb hr (fun t ht _ => ⟨rfl, ⟨by rw [ht]; exact hP, hD.weaken (fun _ _ _ _ => trivial)⟩, hS.F ht⟩) hS.2.2 dL_raise_26 hlk
  | inr e9 =>
    by_cases h0 : e9 = 2
    · subst h0
      obtain rfl : (1 : Int32) = k := by simpa [wk, wkn] using hk
      refine ct_V (q0 := 15) (ci := 3) (As := [.int x1, .int x2]) (rest := [.int 0, .ref o]) X hX T (kX3_raise l hfl t1 t2 D cy ad ((o, .inl (cy 2, 1, .inr (.inl f))) :: Xr) S x1 x2 (.inr 2, S1) hf) (cwV 2 hts gL_raise_X3_raise rfl rfl rfl (by decide +kernel) ⟨(Nat.le_of_ble_eq_true rfl), (Nat.le_of_ble_eq_true rfl)⟩) rfl rfl rfl hl.1 rfl (Nat.le_of_ble_eq_true rfl) dL_raise_5 ⟨(Nat.le_of_ble_eq_true rfl), (Nat.le_of_ble_eq_true rfl)⟩ (fun v hv => by cases hv) (fun k2 hk2 H locs q ce T q1 q2 q3 => ?_)
      obtain rfl : 2 = k2 := by cases hk2; rfl
      refine vx_catch (name := "java/lang/IndexOutOfBoundsException") hown [] ⟨0, 10, 13, 19⟩ [⟨0, 10, 17, 13⟩, ⟨0, 10, 21, 21⟩] htab (fun _ h => absurd h List.not_mem_nil) (by decide) (by decide) (hts _ (List.mem_of_getElem? (i := 1) rfl)) (va_Nw.use rfl (hK.2 _ (List.mem_of_getElem? (i := 14) rfl))) q1 q2 q3 ?_
      refine lv_astore (lv' := [(4, .ref q), (0, .ref (ad 0)), (1, .int x1), (2, .int x2), (3, .ref o)]) hx hb dL_raise_13 hl (by decide) rfl (fun ls hl => ?_)
      refine lv_iconst (v := 1) hx hb dL_raise_15 (by decide) ?_
      exact W.iret hx hb hr (fun t ht _ => ⟨rfl, ⟨by rw [ht]; exact T.1, T.2.1.weaken (fun _ _ _ _ => trivial)⟩, T.2.2.F ht⟩) T.2.2.2.2 dL_raise_16 hlk
    · skip
      by_cases h1 : e9 = 0
      · subst h1
        obtain rfl : (2 : Int32) = k := by simpa [wk, wkn] using hk
        refine ct_V (q0 := 15) (ci := 3) (As := [.int x1, .int x2]) (rest := [.int 0, .ref o]) X hX T (kX3_raise l hfl t1 t2 D cy ad ((o, .inl (cy 2, 1, .inr (.inl f))) :: Xr) S x1 x2 (.inr 0, S1) hf) (cwV 2 hts gL_raise_X3_raise rfl rfl rfl (by decide +kernel) ⟨(Nat.le_of_ble_eq_true rfl), (Nat.le_of_ble_eq_true rfl)⟩) rfl rfl rfl hl.1 rfl (Nat.le_of_ble_eq_true rfl) dL_raise_5 ⟨(Nat.le_of_ble_eq_true rfl), (Nat.le_of_ble_eq_true rfl)⟩ (fun v hv => by cases hv) (fun k2 hk2 H locs q ce T q1 q2 q3 => ?_)
        obtain rfl : 0 = k2 := by cases hk2; rfl
        refine vx_catch (name := "java/lang/IllegalArgumentException") hown [⟨0, 10, 13, 19⟩] ⟨0, 10, 17, 13⟩ [⟨0, 10, 21, 21⟩] htab (List.forall_mem_cons.mpr ⟨Or.inr ⟨by decide, "java/lang/IndexOutOfBoundsException", (hts _ (List.mem_of_getElem? (i := 1) rfl)), hN _ (List.mem_of_getElem? (i := 1) rfl)⟩, fun _ h => absurd h List.not_mem_nil⟩) (by decide) (by decide) (hts _ (List.mem_of_getElem? (i := 2) rfl)) (va_Nw.use rfl (hK.2 _ (List.mem_of_getElem? (i := 12) rfl))) q1 q2 q3 ?_
        refine lv_astore (lv' := [(4, .ref q), (0, .ref (ad 0)), (1, .int x1), (2, .int x2), (3, .ref o)]) hx hb dL_raise_17 hl (by decide) rfl (fun ls hl => ?_)
        refine lv_iconst (v := 2) hx hb dL_raise_19 (by decide) ?_
        exact W.iret hx hb hr (fun t ht _ => ⟨rfl, ⟨by rw [ht]; exact T.1, T.2.1.weaken (fun _ _ _ _ => trivial)⟩, T.2.2.F ht⟩) T.2.2.2.2 dL_raise_20 hlk
      · skip
        by_cases h2 : e9 = 1
        · subst h2
          obtain rfl : (3 : Int32) = k := by simpa [wk, wkn] using hk
          refine ct_V (q0 := 15) (ci := 3) (As := [.int x1, .int x2]) (rest := [.int 0, .ref o]) X hX T (kX3_raise l hfl t1 t2 D cy ad ((o, .inl (cy 2, 1, .inr (.inl f))) :: Xr) S x1 x2 (.inr 1, S1) hf) (cwV 2 hts gL_raise_X3_raise rfl rfl rfl (by decide +kernel) ⟨(Nat.le_of_ble_eq_true rfl), (Nat.le_of_ble_eq_true rfl)⟩) rfl rfl rfl hl.1 rfl (Nat.le_of_ble_eq_true rfl) dL_raise_5 ⟨(Nat.le_of_ble_eq_true rfl), (Nat.le_of_ble_eq_true rfl)⟩ (fun v hv => by cases hv) (fun k2 hk2 H locs q ce T q1 q2 q3 => ?_)
          obtain rfl : 1 = k2 := by cases hk2; rfl
          refine vx_catch (name := "java/lang/IllegalStateException") hown [⟨0, 10, 13, 19⟩, ⟨0, 10, 17, 13⟩] ⟨0, 10, 21, 21⟩ [] htab (List.forall_mem_cons.mpr ⟨Or.inr ⟨by decide, "java/lang/IndexOutOfBoundsException", (hts _ (List.mem_of_getElem? (i := 1) rfl)), hN _ (List.mem_of_getElem? (i := 3) rfl)⟩, List.forall_mem_cons.mpr ⟨Or.inr ⟨by decide, "java/lang/IllegalArgumentException", (hts _ (List.mem_of_getElem? (i := 2) rfl)), hN _ (List.mem_of_getElem? (i := 2) rfl)⟩, fun _ h => absurd h List.not_mem_nil⟩⟩) (by decide) (by decide) (hts _ (List.mem_of_getElem? (i := 3) rfl)) (va_Nw.use rfl (hK.2 _ (List.mem_of_getElem? (i := 13) rfl))) q1 q2 q3 ?_
          refine lv_astore (lv' := [(4, .ref q), (0, .ref (ad 0)), (1, .int x1), (2, .int x2), (3, .ref o)]) hx hb dL_raise_21 hl (by decide) rfl (fun ls hl => ?_)
          refine lv_iconst (v := 3) hx hb dL_raise_23 (by decide) ?_
          exact W.iret hx hb hr (fun t ht _ => ⟨rfl, ⟨by rw [ht]; exact T.1, T.2.1.weaken (fun _ _ _ _ => trivial)⟩, T.2.2.F ht⟩) T.2.2.2.2 dL_raise_24 hlk
        · skip
          exact absurd hk (by simp [wk, wkn, h0, h1, h2])

set_option maxHeartbeats 4000000 in
set_option maxRecDepth 100000 in
theorem kL_height (l : Launch) (hfl : l.stackTraces = false) (t1 t2 : Nat) (D : va_G) (cy : Nat → ClassId) (ad : Nat → Nat) (o : Nat) (Xr : va_W) (S : SC) (f : Nat → Int64) (x1 : Int32) (r : Int32 ⊕ Nat) (hf : fX3_height S x1 = some r) (k : Int32) (hk : wk [2] r = some k) : CW l t1 t2 D cy ad o Xr yL_height wsL_height ({ frames := 8, cells := 1, slots := 6, locals := 132 } : Room) [.ref (ad 0), .int x1, .ref o] S f k S (wf f r) := by
  refine CW.of (cc := cL_height) (maxL := 4) (ret := (some .int)) (by decide +kernel) rfl (Nat.le_of_ble_eq_true rfl) ?_
  intro p e s m below meth c A ls X hr T hl hX htab hN
  obtain ⟨hx, hb, hml, hown, hts, hlk, hK, hA, hwA⟩ := id X
  have hl : lv_has ls 4 [(0, .ref (ad 0)), (1, .int x1), (2, .ref o)] := hl
  have htab : c.exceptionTable.toList = [⟨0, 9, 12, 19⟩] := htab
  refine lv_aload_n hx hb dL_height_0 rfl (lv_at hl 2 rfl) ?_
  refine lv_iconst (v := 0) hx hb dL_height_1 (by decide) ?_
  refine lv_aload_n hx hb dL_height_2 rfl (lv_at hl 0 rfl) ?_
  refine lv_iload_n hx hb dL_height_3 rfl (lv_at hl 1 rfl) ?_
  obtain ⟨r1, e1⟩ : ∃ r1, r1 = r := ⟨_, rfl⟩
  subst e1
  cases r1 with
  | inl v =>
    obtain rfl : (0 : Int32) = k := Option.some.inj hk
    refine ct_Vi (v := some (.int v)) (q0 := 15) (ci := 3) (As := [.int x1]) (rest := [.int 0, .ref o]) X hX T (kX3_height l hfl t1 t2 D cy ad ((o, .inl (cy 2, 1, .inr (.inl f))) :: Xr) S x1 (.inl v) hf) (cwV 1 hts gL_height_X3_height rfl rfl rfl (by decide +kernel) ⟨(Nat.le_of_ble_eq_true rfl), (Nat.le_of_ble_eq_true rfl)⟩) rfl rfl rfl hl.1 rfl (Nat.le_of_ble_eq_true rfl) dL_height_4 ⟨(Nat.le_of_ble_eq_true rfl), (Nat.le_of_ble_eq_true rfl)⟩ (st2 := [.int v, .int 0, .ref o]) (pc2 := 7) (c2 := 1) (s2 := 6) rfl rfl rfl rfl (fun H locs T => ?_)
    refine lv_i2l hx hb dL_height_7 rfl ?_
    refine va_last hx hb hK.1 T.1 T.2.1 T.2.2 16 2 rfl rfl (show vp_in 0 1 from fun h => absurd h (by decide)) dL_height_8 (fun H locs hP hD hS => ?_)
    have hP : va_P D vwCl (wO cy ad o Xr (vp_updL f 0 v.toInt64) S) H := hP
    have hD : va_D A (wO cy ad o Xr (vp_updL f 0 v.toInt64) S) := hD
    refine lv_goto (tgt := 15) hx hb dL_height_9 (by decide) ?_
    refine lv_iconst (v := 0) hx hb dL_height_15 (by decide) ?_
    exact W.iret hx hb hr (fun t ht _ => ⟨rfl, ⟨by rw [ht]; exact hP, hD.weaken (fun _ _ _ _ => trivial)⟩, hS.F ht⟩) hS.2.2 dL_height_16 hlk
  | inr e9 =>
    by_cases h0 : e9 = 2
    · subst h0
      obtain rfl : (1 : Int32) = k := by simpa [wk, wkn] using hk
      refine ct_V (q0 := 15) (ci := 3) (As := [.int x1]) (rest := [.int 0, .ref o]) X hX T (kX3_height l hfl t1 t2 D cy ad ((o, .inl (cy 2, 1, .inr (.inl f))) :: Xr) S x1 (.inr 2) hf) (cwV 1 hts gL_height_X3_height rfl rfl rfl (by decide +kernel) ⟨(Nat.le_of_ble_eq_true rfl), (Nat.le_of_ble_eq_true rfl)⟩) rfl rfl rfl hl.1 rfl (Nat.le_of_ble_eq_true rfl) dL_height_4 ⟨(Nat.le_of_ble_eq_true rfl), (Nat.le_of_ble_eq_true rfl)⟩ (fun v hv => by cases hv) (fun k2 hk2 H locs q ce T q1 q2 q3 => ?_)
      obtain rfl : 2 = k2 := by cases hk2; rfl
      refine vx_catch (name := "java/lang/IndexOutOfBoundsException") hown [] ⟨0, 9, 12, 19⟩ [] htab (fun _ h => absurd h List.not_mem_nil) (by decide) (by decide) (hts _ (List.mem_of_getElem? (i := 1) rfl)) (va_Nw.use rfl (hK.2 _ (List.mem_of_getElem? (i := 14) rfl))) q1 q2 q3 ?_
      refine lv_astore_n (lv' := [(3, .ref q), (0, .ref (ad 0)), (1, .int x1), (2, .ref o)]) hx hb dL_height_12 rfl hl (by decide) rfl (fun ls hl => ?_)
      refine lv_iconst (v := 1) hx hb dL_height_13 (by decide) ?_
      exact W.iret hx hb hr (fun t ht _ => ⟨rfl, ⟨by rw [ht]; exact T.1, T.2.1.weaken (fun _ _ _ _ => trivial)⟩, T.2.2.F ht⟩) T.2.2.2.2 dL_height_14 hlk
    · skip
      exact absurd hk (by simp [wk, wkn, h0])

set_option maxHeartbeats 4000000 in
set_option maxRecDepth 100000 in
theorem kL_builderAt (l : Launch) (hfl : l.stackTraces = false) (t1 t2 : Nat) (D : va_G) (cy : Nat → ClassId) (ad : Nat → Nat) (o : Nat) (Xr : va_W) (S : SC) (f : Nat → Int64) (x1 : Int32) (r : Int32 ⊕ Nat) (hf : fX3_builderAt S x1 = some r) (k : Int32) (hk : wk [2] r = some k) : CW l t1 t2 D cy ad o Xr yL_builderAt wsL_builderAt ({ frames := 8, cells := 1, slots := 6, locals := 132 } : Room) [.ref (ad 0), .int x1, .ref o] S f k S (wf f r) := by
  refine CW.of (cc := cL_builderAt) (maxL := 4) (ret := (some .int)) (by decide +kernel) rfl (Nat.le_of_ble_eq_true rfl) ?_
  intro p e s m below meth c A ls X hr T hl hX htab hN
  obtain ⟨hx, hb, hml, hown, hts, hlk, hK, hA, hwA⟩ := id X
  have hl : lv_has ls 4 [(0, .ref (ad 0)), (1, .int x1), (2, .ref o)] := hl
  have htab : c.exceptionTable.toList = [⟨0, 9, 12, 19⟩] := htab
  refine lv_aload_n hx hb dL_builderAt_0 rfl (lv_at hl 2 rfl) ?_
  refine lv_iconst (v := 0) hx hb dL_builderAt_1 (by decide) ?_
  refine lv_aload_n hx hb dL_builderAt_2 rfl (lv_at hl 0 rfl) ?_
  refine lv_iload_n hx hb dL_builderAt_3 rfl (lv_at hl 1 rfl) ?_
  obtain ⟨r1, e1⟩ : ∃ r1, r1 = r := ⟨_, rfl⟩
  subst e1
  cases r1 with
  | inl v =>
    obtain rfl : (0 : Int32) = k := Option.some.inj hk
    refine ct_Vi (v := some (.int v)) (q0 := 15) (ci := 3) (As := [.int x1]) (rest := [.int 0, .ref o]) X hX T (kX3_builderAt l hfl t1 t2 D cy ad ((o, .inl (cy 2, 1, .inr (.inl f))) :: Xr) S x1 (.inl v) hf) (cwV 1 hts gL_builderAt_X3_builderAt rfl rfl rfl (by decide +kernel) ⟨(Nat.le_of_ble_eq_true rfl), (Nat.le_of_ble_eq_true rfl)⟩) rfl rfl rfl hl.1 rfl (Nat.le_of_ble_eq_true rfl) dL_builderAt_4 ⟨(Nat.le_of_ble_eq_true rfl), (Nat.le_of_ble_eq_true rfl)⟩ (st2 := [.int v, .int 0, .ref o]) (pc2 := 7) (c2 := 1) (s2 := 6) rfl rfl rfl rfl (fun H locs T => ?_)
    refine lv_i2l hx hb dL_builderAt_7 rfl ?_
    refine va_last hx hb hK.1 T.1 T.2.1 T.2.2 16 2 rfl rfl (show vp_in 0 1 from fun h => absurd h (by decide)) dL_builderAt_8 (fun H locs hP hD hS => ?_)
    have hP : va_P D vwCl (wO cy ad o Xr (vp_updL f 0 v.toInt64) S) H := hP
    have hD : va_D A (wO cy ad o Xr (vp_updL f 0 v.toInt64) S) := hD
    refine lv_goto (tgt := 15) hx hb dL_builderAt_9 (by decide) ?_
    refine lv_iconst (v := 0) hx hb dL_builderAt_15 (by decide) ?_
    exact W.iret hx hb hr (fun t ht _ => ⟨rfl, ⟨by rw [ht]; exact hP, hD.weaken (fun _ _ _ _ => trivial)⟩, hS.F ht⟩) hS.2.2 dL_builderAt_16 hlk
  | inr e9 =>
    by_cases h0 : e9 = 2
    · subst h0
      obtain rfl : (1 : Int32) = k := by simpa [wk, wkn] using hk
      refine ct_V (q0 := 15) (ci := 3) (As := [.int x1]) (rest := [.int 0, .ref o]) X hX T (kX3_builderAt l hfl t1 t2 D cy ad ((o, .inl (cy 2, 1, .inr (.inl f))) :: Xr) S x1 (.inr 2) hf) (cwV 1 hts gL_builderAt_X3_builderAt rfl rfl rfl (by decide +kernel) ⟨(Nat.le_of_ble_eq_true rfl), (Nat.le_of_ble_eq_true rfl)⟩) rfl rfl rfl hl.1 rfl (Nat.le_of_ble_eq_true rfl) dL_builderAt_4 ⟨(Nat.le_of_ble_eq_true rfl), (Nat.le_of_ble_eq_true rfl)⟩ (fun v hv => by cases hv) (fun k2 hk2 H locs q ce T q1 q2 q3 => ?_)
      obtain rfl : 2 = k2 := by cases hk2; rfl
      refine vx_catch (name := "java/lang/IndexOutOfBoundsException") hown [] ⟨0, 9, 12, 19⟩ [] htab (fun _ h => absurd h List.not_mem_nil) (by decide) (by decide) (hts _ (List.mem_of_getElem? (i := 1) rfl)) (va_Nw.use rfl (hK.2 _ (List.mem_of_getElem? (i := 14) rfl))) q1 q2 q3 ?_
      refine lv_astore_n (lv' := [(3, .ref q), (0, .ref (ad 0)), (1, .int x1), (2, .ref o)]) hx hb dL_builderAt_12 rfl hl (by decide) rfl (fun ls hl => ?_)
      refine lv_iconst (v := 1) hx hb dL_builderAt_13 (by decide) ?_
      exact W.iret hx hb hr (fun t ht _ => ⟨rfl, ⟨by rw [ht]; exact T.1, T.2.1.weaken (fun _ _ _ _ => trivial)⟩, T.2.2.F ht⟩) T.2.2.2.2 dL_builderAt_14 hlk
    · skip
      exact absurd hk (by simp [wk, wkn, h0])

set_option maxHeartbeats 4000000 in
set_option maxRecDepth 100000 in
theorem kL_turnCount (l : Launch) (hfl : l.stackTraces = false) (t1 t2 : Nat) (D : va_G) (cy : Nat → ClassId) (ad : Nat → Nat) (o : Nat) (Xr : va_W) (S : SC) (f : Nat → Int64) (r : (Int32 ⊕ Nat) × SC) (hf : fX3_turnCount S = some r) (k : Int32) (hk : wk [1] r.1 = some k) : CW l t1 t2 D cy ad o Xr yL_turnCount wsL_turnCount ({ frames := 8, cells := 1, slots := 6, locals := 150 } : Room) [.ref (ad 0), .ref o] S f k r.2 (wf f r.1) := by
  refine CW.of (cc := cL_turnCount) (maxL := 3) (ret := (some .int)) (by decide +kernel) rfl (Nat.le_of_ble_eq_true rfl) ?_
  intro p e s m below meth c A ls X hr T hl hX htab hN
  obtain ⟨hx, hb, hml, hown, hts, hlk, hK, hA, hwA⟩ := id X
  have hl : lv_has ls 3 [(0, .ref (ad 0)), (1, .ref o)] := hl
  have htab : c.exceptionTable.toList = [⟨0, 8, 11, 21⟩] := htab
  refine lv_aload_n hx hb dL_turnCount_0 rfl (lv_at hl 1 rfl) ?_
  refine lv_iconst (v := 0) hx hb dL_turnCount_1 (by decide) ?_
  refine lv_aload_n hx hb dL_turnCount_2 rfl (lv_at hl 0 rfl) ?_
  obtain ⟨r1, S1⟩ := r
  cases r1 with
  | inl v =>
    obtain rfl : (0 : Int32) = k := Option.some.inj hk
    refine ct_Vi (v := some (.int v)) (q0 := 15) (ci := 3) (As := []) (rest := [.int 0, .ref o]) X hX T (kX3_turnCount l hfl t1 t2 D cy ad ((o, .inl (cy 2, 1, .inr (.inl f))) :: Xr) S (.inl v, S1) hf) (cwV 0 hts gL_turnCount_X3_turnCount rfl rfl rfl (by decide +kernel) ⟨(Nat.le_of_ble_eq_true rfl), (Nat.le_of_ble_eq_true rfl)⟩) rfl rfl rfl hl.1 rfl (Nat.le_of_ble_eq_true rfl) dL_turnCount_3 ⟨(Nat.le_of_ble_eq_true rfl), (Nat.le_of_ble_eq_true rfl)⟩ (st2 := [.int v, .int 0, .ref o]) (pc2 := 6) (c2 := 1) (s2 := 6) rfl rfl rfl rfl (fun H locs T => ?_)
    refine lv_i2l hx hb dL_turnCount_6 rfl ?_
    refine va_last hx hb hK.1 T.1 T.2.1 T.2.2 16 2 rfl rfl (show vp_in 0 1 from fun h => absurd h (by decide)) dL_turnCount_7 (fun H locs hP hD hS => ?_)
    have hP : va_P D vwCl (wO cy ad o Xr (vp_updL f 0 v.toInt64) S1) H := hP
    have hD : va_D A (wO cy ad o Xr (vp_updL f 0 v.toInt64) S1) := hD
    refine lv_goto (tgt := 14) hx hb dL_turnCount_8 (by decide) ?_
    refine lv_iconst (v := 0) hx hb dL_turnCount_14 (by decide) ?_
    exact W.iret hx hb hr (fun t ht _ => ⟨rfl, ⟨by rw [ht]; exact hP, hD.weaken (fun _ _ _ _ => trivial)⟩, hS.F ht⟩) hS.2.2 dL_turnCount_15 hlk
  | inr e9 =>
    by_cases h0 : e9 = 1
    · subst h0
      obtain rfl : (1 : Int32) = k := by simpa [wk, wkn] using hk
      refine ct_V (q0 := 15) (ci := 3) (As := []) (rest := [.int 0, .ref o]) X hX T (kX3_turnCount l hfl t1 t2 D cy ad ((o, .inl (cy 2, 1, .inr (.inl f))) :: Xr) S (.inr 1, S1) hf) (cwV 0 hts gL_turnCount_X3_turnCount rfl rfl rfl (by decide +kernel) ⟨(Nat.le_of_ble_eq_true rfl), (Nat.le_of_ble_eq_true rfl)⟩) rfl rfl rfl hl.1 rfl (Nat.le_of_ble_eq_true rfl) dL_turnCount_3 ⟨(Nat.le_of_ble_eq_true rfl), (Nat.le_of_ble_eq_true rfl)⟩ (fun v hv => by cases hv) (fun k2 hk2 H locs q ce T q1 q2 q3 => ?_)
      obtain rfl : 1 = k2 := by cases hk2; rfl
      refine vx_catch (name := "java/lang/IllegalStateException") hown [] ⟨0, 8, 11, 21⟩ [] htab (fun _ h => absurd h List.not_mem_nil) (by decide) (by decide) (hts _ (List.mem_of_getElem? (i := 1) rfl)) (va_Nw.use rfl (hK.2 _ (List.mem_of_getElem? (i := 13) rfl))) q1 q2 q3 ?_
      refine lv_astore_n (lv' := [(2, .ref q), (0, .ref (ad 0)), (1, .ref o)]) hx hb dL_turnCount_11 rfl hl (by decide) rfl (fun ls hl => ?_)
      refine lv_iconst (v := 1) hx hb dL_turnCount_12 (by decide) ?_
      exact W.iret hx hb hr (fun t ht _ => ⟨rfl, ⟨by rw [ht]; exact T.1, T.2.1.weaken (fun _ _ _ _ => trivial)⟩, T.2.2.F ht⟩) T.2.2.2.2 dL_turnCount_13 hlk
    · skip
      exact absurd hk (by simp [wk, wkn, h0])

set_option maxHeartbeats 4000000 in
set_option maxRecDepth 100000 in
theorem kL_turnAt (l : Launch) (hfl : l.stackTraces = false) (t1 t2 : Nat) (D : va_G) (cy : Nat → ClassId) (ad : Nat → Nat) (o : Nat) (Xr : va_W) (S : SC) (f : Nat → Int64) (x1 : Int32) (r : (Int32 ⊕ Nat) × SC) (hf : fX3_turnAt S x1 = some r) (k : Int32) (hk : wk [2, 1] r.1 = some k) : CW l t1 t2 D cy ad o Xr yL_turnAt wsL_turnAt ({ frames := 8, cells := 2, slots := 12, locals := 151 } : Room) [.ref (ad 0), .int x1, .ref o] S f k r.2 (wf f r.1) := by
  refine CW.of (cc := cL_turnAt) (maxL := 4) (ret := (some .int)) (by decide +kernel) rfl (Nat.le_of_ble_eq_true rfl) ?_
  intro p e s m below meth c A ls X hr T hl hX htab hN
  obtain ⟨hx, hb, hml, hown, hts, hlk, hK, hA, hwA⟩ := id X
  have hl : lv_has ls 4 [(0, .ref (ad 0)), (1, .int x1), (2, .ref o)] := hl
  have htab : c.exceptionTable.toList = [⟨0, 9, 12, 19⟩, ⟨0, 9, 15, 21⟩] := htab
  refine lv_aload_n hx hb dL_turnAt_0 rfl (lv_at hl 2 rfl) ?_
  refine lv_iconst (v := 0) hx hb dL_turnAt_1 (by decide) ?_
  refine lv_aload_n hx hb dL_turnAt_2 rfl (lv_at hl 0 rfl) ?_
  refine lv_iload_n hx hb dL_turnAt_3 rfl (lv_at hl 1 rfl) ?_
  obtain ⟨r1, S1⟩ := r
  cases r1 with
  | inl v =>
    obtain rfl : (0 : Int32) = k := Option.some.inj hk
    refine ct_Vi (v := some (.int v)) (q0 := 15) (ci := 3) (As := [.int x1]) (rest := [.int 0, .ref o]) X hX T (kX3_turnAt l hfl t1 t2 D cy ad ((o, .inl (cy 2, 1, .inr (.inl f))) :: Xr) S x1 (.inl v, S1) hf) (cwV 1 hts gL_turnAt_X3_turnAt rfl rfl rfl (by decide +kernel) ⟨(Nat.le_of_ble_eq_true rfl), (Nat.le_of_ble_eq_true rfl)⟩) rfl rfl rfl hl.1 rfl (Nat.le_of_ble_eq_true rfl) dL_turnAt_4 ⟨(Nat.le_of_ble_eq_true rfl), (Nat.le_of_ble_eq_true rfl)⟩ (st2 := [.int v, .int 0, .ref o]) (pc2 := 7) (c2 := 2) (s2 := 12) rfl rfl rfl rfl (fun H locs T => ?_)
    refine lv_i2l hx hb dL_turnAt_7 rfl ?_
    refine va_last hx hb hK.1 T.1 T.2.1 T.2.2 16 2 rfl rfl (show vp_in 0 1 from fun h => absurd h (by decide)) dL_turnAt_8 (fun H locs hP hD hS => ?_)
    have hP : va_P D vwCl (wO cy ad o Xr (vp_updL f 0 v.toInt64) S1) H := hP
    have hD : va_D A (wO cy ad o Xr (vp_updL f 0 v.toInt64) S1) := hD
    refine lv_goto (tgt := 18) hx hb dL_turnAt_9 (by decide) ?_
    refine lv_iconst (v := 0) hx hb dL_turnAt_18 (by decide) ?_
    exact W.iret hx hb hr (fun t ht _ => ⟨rfl, ⟨by rw [ht]; exact hP, hD.weaken (fun _ _ _ _ => trivial)⟩, hS.F ht⟩) hS.2.2 dL_turnAt_19 hlk
  | inr e9 =>
    by_cases h0 : e9 = 2
    · subst h0
      obtain rfl : (1 : Int32) = k := by simpa [wk, wkn] using hk
      refine ct_V (q0 := 15) (ci := 3) (As := [.int x1]) (rest := [.int 0, .ref o]) X hX T (kX3_turnAt l hfl t1 t2 D cy ad ((o, .inl (cy 2, 1, .inr (.inl f))) :: Xr) S x1 (.inr 2, S1) hf) (cwV 1 hts gL_turnAt_X3_turnAt rfl rfl rfl (by decide +kernel) ⟨(Nat.le_of_ble_eq_true rfl), (Nat.le_of_ble_eq_true rfl)⟩) rfl rfl rfl hl.1 rfl (Nat.le_of_ble_eq_true rfl) dL_turnAt_4 ⟨(Nat.le_of_ble_eq_true rfl), (Nat.le_of_ble_eq_true rfl)⟩ (fun v hv => by cases hv) (fun k2 hk2 H locs q ce T q1 q2 q3 => ?_)
      obtain rfl : 2 = k2 := by cases hk2; rfl
      refine vx_catch (name := "java/lang/IndexOutOfBoundsException") hown [] ⟨0, 9, 12, 19⟩ [⟨0, 9, 15, 21⟩] htab (fun _ h => absurd h List.not_mem_nil) (by decide) (by decide) (hts _ (List.mem_of_getElem? (i := 1) rfl)) (va_Nw.use rfl (hK.2 _ (List.mem_of_getElem? (i := 14) rfl))) q1 q2 q3 ?_
      refine lv_astore_n (lv' := [(3, .ref q), (0, .ref (ad 0)), (1, .int x1), (2, .ref o)]) hx hb dL_turnAt_12 rfl hl (by decide) rfl (fun ls hl => ?_)
      refine lv_iconst (v := 1) hx hb dL_turnAt_13 (by decide) ?_
      exact W.iret hx hb hr (fun t ht _ => ⟨rfl, ⟨by rw [ht]; exact T.1, T.2.1.weaken (fun _ _ _ _ => trivial)⟩, T.2.2.F ht⟩) T.2.2.2.2 dL_turnAt_14 hlk
    · skip
      by_cases h1 : e9 = 1
      · subst h1
        obtain rfl : (2 : Int32) = k := by simpa [wk, wkn] using hk
        refine ct_V (q0 := 15) (ci := 3) (As := [.int x1]) (rest := [.int 0, .ref o]) X hX T (kX3_turnAt l hfl t1 t2 D cy ad ((o, .inl (cy 2, 1, .inr (.inl f))) :: Xr) S x1 (.inr 1, S1) hf) (cwV 1 hts gL_turnAt_X3_turnAt rfl rfl rfl (by decide +kernel) ⟨(Nat.le_of_ble_eq_true rfl), (Nat.le_of_ble_eq_true rfl)⟩) rfl rfl rfl hl.1 rfl (Nat.le_of_ble_eq_true rfl) dL_turnAt_4 ⟨(Nat.le_of_ble_eq_true rfl), (Nat.le_of_ble_eq_true rfl)⟩ (fun v hv => by cases hv) (fun k2 hk2 H locs q ce T q1 q2 q3 => ?_)
        obtain rfl : 1 = k2 := by cases hk2; rfl
        refine vx_catch (name := "java/lang/IllegalStateException") hown [⟨0, 9, 12, 19⟩] ⟨0, 9, 15, 21⟩ [] htab (List.forall_mem_cons.mpr ⟨Or.inr ⟨by decide, "java/lang/IndexOutOfBoundsException", (hts _ (List.mem_of_getElem? (i := 1) rfl)), hN _ (List.mem_of_getElem? (i := 3) rfl)⟩, fun _ h => absurd h List.not_mem_nil⟩) (by decide) (by decide) (hts _ (List.mem_of_getElem? (i := 2) rfl)) (va_Nw.use rfl (hK.2 _ (List.mem_of_getElem? (i := 13) rfl))) q1 q2 q3 ?_
        refine lv_astore_n (lv' := [(3, .ref q), (0, .ref (ad 0)), (1, .int x1), (2, .ref o)]) hx hb dL_turnAt_15 rfl hl (by decide) rfl (fun ls hl => ?_)
        refine lv_iconst (v := 2) hx hb dL_turnAt_16 (by decide) ?_
        exact W.iret hx hb hr (fun t ht _ => ⟨rfl, ⟨by rw [ht]; exact T.1, T.2.1.weaken (fun _ _ _ _ => trivial)⟩, T.2.2.F ht⟩) T.2.2.2.2 dL_turnAt_17 hlk
      · skip
        exact absurd hk (by simp [wk, wkn, h0, h1])

set_option maxHeartbeats 4000000 in
set_option maxRecDepth 100000 in
theorem kL_play (l : Launch) (hfl : l.stackTraces = false) (t1 t2 : Nat) (D : va_G) (cy : Nat → ClassId) (ad : Nat → Nat) (o : Nat) (Xr : va_W) (S : SC) (f : Nat → Int64) (x1 : Int32) (r : (Int32 ⊕ Nat) × SC) (hf : fX3_play S x1 = some r) (k : Int32) (hk : wk [1] r.1 = some k) : CW l t1 t2 D cy ad o Xr yL_play wsL_play ({ frames := 8, cells := 2, slots := 12, locals := 151 } : Room) [.ref (ad 0), .int x1, .ref o] S f k r.2 (wf f r.1) := by
  refine CW.of (cc := cL_play) (maxL := 4) (ret := (some .int)) (by decide +kernel) rfl (Nat.le_of_ble_eq_true rfl) ?_
  intro p e s m below meth c A ls X hr T hl hX htab hN
  obtain ⟨hx, hb, hml, hown, hts, hlk, hK, hA, hwA⟩ := id X
  have hl : lv_has ls 4 [(0, .ref (ad 0)), (1, .int x1), (2, .ref o)] := hl
  have htab : c.exceptionTable.toList = [⟨0, 9, 12, 21⟩] := htab
  refine lv_aload_n hx hb dL_play_0 rfl (lv_at hl 2 rfl) ?_
  refine lv_iconst (v := 0) hx hb dL_play_1 (by decide) ?_
  refine lv_aload_n hx hb dL_play_2 rfl (lv_at hl 0 rfl) ?_
  refine lv_iload_n hx hb dL_play_3 rfl (lv_at hl 1 rfl) ?_
  obtain ⟨r1, S1⟩ := r
  cases r1 with
  | inl v =>
    obtain rfl : (0 : Int32) = k := Option.some.inj hk
    refine ct_Vi (v := some (.int v)) (q0 := 15) (ci := 3) (As := [.int x1]) (rest := [.int 0, .ref o]) X hX T (kX3_play l hfl t1 t2 D cy ad ((o, .inl (cy 2, 1, .inr (.inl f))) :: Xr) S x1 (.inl v, S1) hf) (cwV 1 hts gL_play_X3_play rfl rfl rfl (by decide +kernel) ⟨(Nat.le_of_ble_eq_true rfl), (Nat.le_of_ble_eq_true rfl)⟩) rfl rfl rfl hl.1 rfl (Nat.le_of_ble_eq_true rfl) dL_play_4 ⟨(Nat.le_of_ble_eq_true rfl), (Nat.le_of_ble_eq_true rfl)⟩ (st2 := [.int v, .int 0, .ref o]) (pc2 := 7) (c2 := 2) (s2 := 12) rfl rfl rfl rfl (fun H locs T => ?_)
    refine lv_i2l hx hb dL_play_7 rfl ?_
    refine va_last hx hb hK.1 T.1 T.2.1 T.2.2 16 2 rfl rfl (show vp_in 0 1 from fun h => absurd h (by decide)) dL_play_8 (fun H locs hP hD hS => ?_)
    have hP : va_P D vwCl (wO cy ad o Xr (vp_updL f 0 v.toInt64) S1) H := hP
    have hD : va_D A (wO cy ad o Xr (vp_updL f 0 v.toInt64) S1) := hD
    refine lv_goto (tgt := 15) hx hb dL_play_9 (by decide) ?_
    refine lv_iconst (v := 0) hx hb dL_play_15 (by decide) ?_
    exact W.iret hx hb hr (fun t ht _ => ⟨rfl, ⟨by rw [ht]; exact hP, hD.weaken (fun _ _ _ _ => trivial)⟩, hS.F ht⟩) hS.2.2 dL_play_16 hlk
  | inr e9 =>
    by_cases h0 : e9 = 1
    · subst h0
      obtain rfl : (1 : Int32) = k := by simpa [wk, wkn] using hk
      refine ct_V (q0 := 15) (ci := 3) (As := [.int x1]) (rest := [.int 0, .ref o]) X hX T (kX3_play l hfl t1 t2 D cy ad ((o, .inl (cy 2, 1, .inr (.inl f))) :: Xr) S x1 (.inr 1, S1) hf) (cwV 1 hts gL_play_X3_play rfl rfl rfl (by decide +kernel) ⟨(Nat.le_of_ble_eq_true rfl), (Nat.le_of_ble_eq_true rfl)⟩) rfl rfl rfl hl.1 rfl (Nat.le_of_ble_eq_true rfl) dL_play_4 ⟨(Nat.le_of_ble_eq_true rfl), (Nat.le_of_ble_eq_true rfl)⟩ (fun v hv => by cases hv) (fun k2 hk2 H locs q ce T q1 q2 q3 => ?_)
      obtain rfl : 1 = k2 := by cases hk2; rfl
      refine vx_catch (name := "java/lang/IllegalStateException") hown [] ⟨0, 9, 12, 21⟩ [] htab (fun _ h => absurd h List.not_mem_nil) (by decide) (by decide) (hts _ (List.mem_of_getElem? (i := 1) rfl)) (va_Nw.use rfl (hK.2 _ (List.mem_of_getElem? (i := 13) rfl))) q1 q2 q3 ?_
      refine lv_astore_n (lv' := [(3, .ref q), (0, .ref (ad 0)), (1, .int x1), (2, .ref o)]) hx hb dL_play_12 rfl hl (by decide) rfl (fun ls hl => ?_)
      refine lv_iconst (v := 1) hx hb dL_play_13 (by decide) ?_
      exact W.iret hx hb hr (fun t ht _ => ⟨rfl, ⟨by rw [ht]; exact T.1, T.2.1.weaken (fun _ _ _ _ => trivial)⟩, T.2.2.F ht⟩) T.2.2.2.2 dL_play_14 hlk
    · skip
      exact absurd hk (by simp [wk, wkn, h0])

set_option maxHeartbeats 4000000 in
set_option maxRecDepth 100000 in
theorem kL_takeBack (l : Launch) (hfl : l.stackTraces = false) (t1 t2 : Nat) (D : va_G) (cy : Nat → ClassId) (ad : Nat → Nat) (o : Nat) (Xr : va_W) (S : SC) (f : Nat → Int64) (r : (Int32 ⊕ Nat) × SC) (hf : fX3_takeBack S = some r) (k : Int32) (hk : wk [1] r.1 = some k) : CW l t1 t2 D cy ad o Xr yL_takeBack wsL_takeBack ({ frames := 7, cells := 1, slots := 6, locals := 110 } : Room) [.ref (ad 0), .ref o] S f k r.2 (wf f r.1) := by
  refine CW.of (cc := cL_takeBack) (maxL := 3) (ret := (some .int)) (by decide +kernel) rfl (Nat.le_of_ble_eq_true rfl) ?_
  intro p e s m below meth c A ls X hr T hl hX htab hN
  obtain ⟨hx, hb, hml, hown, hts, hlk, hK, hA, hwA⟩ := id X
  have hl : lv_has ls 3 [(0, .ref (ad 0)), (1, .ref o)] := hl
  have htab : c.exceptionTable.toList = [⟨0, 8, 11, 21⟩] := htab
  refine lv_aload_n hx hb dL_takeBack_0 rfl (lv_at hl 1 rfl) ?_
  refine lv_iconst (v := 0) hx hb dL_takeBack_1 (by decide) ?_
  refine lv_aload_n hx hb dL_takeBack_2 rfl (lv_at hl 0 rfl) ?_
  obtain ⟨r1, S1⟩ := r
  cases r1 with
  | inl v =>
    obtain rfl : (0 : Int32) = k := Option.some.inj hk
    refine ct_Vi (v := some (.int v)) (q0 := 15) (ci := 3) (As := []) (rest := [.int 0, .ref o]) X hX T (kX3_takeBack l hfl t1 t2 D cy ad ((o, .inl (cy 2, 1, .inr (.inl f))) :: Xr) S (.inl v, S1) hf) (cwV 0 hts gL_takeBack_X3_takeBack rfl rfl rfl (by decide +kernel) ⟨(Nat.le_of_ble_eq_true rfl), (Nat.le_of_ble_eq_true rfl)⟩) rfl rfl rfl hl.1 rfl (Nat.le_of_ble_eq_true rfl) dL_takeBack_3 ⟨(Nat.le_of_ble_eq_true rfl), (Nat.le_of_ble_eq_true rfl)⟩ (st2 := [.int v, .int 0, .ref o]) (pc2 := 6) (c2 := 1) (s2 := 6) rfl rfl rfl rfl (fun H locs T => ?_)
    refine lv_i2l hx hb dL_takeBack_6 rfl ?_
    refine va_last hx hb hK.1 T.1 T.2.1 T.2.2 16 2 rfl rfl (show vp_in 0 1 from fun h => absurd h (by decide)) dL_takeBack_7 (fun H locs hP hD hS => ?_)
    have hP : va_P D vwCl (wO cy ad o Xr (vp_updL f 0 v.toInt64) S1) H := hP
    have hD : va_D A (wO cy ad o Xr (vp_updL f 0 v.toInt64) S1) := hD
    refine lv_goto (tgt := 14) hx hb dL_takeBack_8 (by decide) ?_
    refine lv_iconst (v := 0) hx hb dL_takeBack_14 (by decide) ?_
    exact W.iret hx hb hr (fun t ht _ => ⟨rfl, ⟨by rw [ht]; exact hP, hD.weaken (fun _ _ _ _ => trivial)⟩, hS.F ht⟩) hS.2.2 dL_takeBack_15 hlk
  | inr e9 =>
    by_cases h0 : e9 = 1
    · subst h0
      obtain rfl : (1 : Int32) = k := by simpa [wk, wkn] using hk
      refine ct_V (q0 := 15) (ci := 3) (As := []) (rest := [.int 0, .ref o]) X hX T (kX3_takeBack l hfl t1 t2 D cy ad ((o, .inl (cy 2, 1, .inr (.inl f))) :: Xr) S (.inr 1, S1) hf) (cwV 0 hts gL_takeBack_X3_takeBack rfl rfl rfl (by decide +kernel) ⟨(Nat.le_of_ble_eq_true rfl), (Nat.le_of_ble_eq_true rfl)⟩) rfl rfl rfl hl.1 rfl (Nat.le_of_ble_eq_true rfl) dL_takeBack_3 ⟨(Nat.le_of_ble_eq_true rfl), (Nat.le_of_ble_eq_true rfl)⟩ (fun v hv => by cases hv) (fun k2 hk2 H locs q ce T q1 q2 q3 => ?_)
      obtain rfl : 1 = k2 := by cases hk2; rfl
      refine vx_catch (name := "java/lang/IllegalStateException") hown [] ⟨0, 8, 11, 21⟩ [] htab (fun _ h => absurd h List.not_mem_nil) (by decide) (by decide) (hts _ (List.mem_of_getElem? (i := 1) rfl)) (va_Nw.use rfl (hK.2 _ (List.mem_of_getElem? (i := 13) rfl))) q1 q2 q3 ?_
      refine lv_astore_n (lv' := [(2, .ref q), (0, .ref (ad 0)), (1, .ref o)]) hx hb dL_takeBack_11 rfl hl (by decide) rfl (fun ls hl => ?_)
      refine lv_iconst (v := 1) hx hb dL_takeBack_12 (by decide) ?_
      exact W.iret hx hb hr (fun t ht _ => ⟨rfl, ⟨by rw [ht]; exact T.1, T.2.1.weaken (fun _ _ _ _ => trivial)⟩, T.2.2.F ht⟩) T.2.2.2.2 dL_takeBack_13 hlk
    · skip
      exact absurd hk (by simp [wk, wkn, h0])

set_option maxHeartbeats 4000000 in
set_option maxRecDepth 100000 in
theorem kL_worth (l : Launch) (hfl : l.stackTraces = false) (t1 t2 : Nat) (D : va_G) (cy : Nat → ClassId) (ad : Nat → Nat) (o : Nat) (Xr : va_W) (S : SC) (f : Nat → Int64) (x1 : Int32) (r : (Int32 ⊕ Nat) × SC) (hf : fX3_worth S x1 = some r) (k : Int32) (hk : wk [0, 1] r.1 = some k) : CW l t1 t2 D cy ad o Xr yL_worth wsL_worth ({ frames := 162, cells := 2, slots := 12, locals := 8047 } : Room) [.ref (ad 0), .int x1, .ref o] S f k r.2 (wf f r.1) := by
  refine CW.of (cc := cL_worth) (maxL := 4) (ret := (some .int)) (by decide +kernel) rfl (Nat.le_of_ble_eq_true rfl) ?_
  intro p e s m below meth c A ls X hr T hl hX htab hN
  obtain ⟨hx, hb, hml, hown, hts, hlk, hK, hA, hwA⟩ := id X
  have hl : lv_has ls 4 [(0, .ref (ad 0)), (1, .int x1), (2, .ref o)] := hl
  have htab : c.exceptionTable.toList = [⟨0, 9, 12, 13⟩, ⟨0, 9, 15, 21⟩] := htab
  refine lv_aload_n hx hb dL_worth_0 rfl (lv_at hl 2 rfl) ?_
  refine lv_iconst (v := 0) hx hb dL_worth_1 (by decide) ?_
  refine lv_aload_n hx hb dL_worth_2 rfl (lv_at hl 0 rfl) ?_
  refine lv_iload_n hx hb dL_worth_3 rfl (lv_at hl 1 rfl) ?_
  obtain ⟨r1, S1⟩ := r
  cases r1 with
  | inl v =>
    obtain rfl : (0 : Int32) = k := Option.some.inj hk
    refine ct_Vi (v := some (.int v)) (q0 := 15) (ci := 3) (As := [.int x1]) (rest := [.int 0, .ref o]) X hX T (kX3_worth l hfl t1 t2 D cy ad ((o, .inl (cy 2, 1, .inr (.inl f))) :: Xr) S x1 (.inl v, S1) hf) (cwV 1 hts gL_worth_X3_worth rfl rfl rfl (by decide +kernel) ⟨(Nat.le_of_ble_eq_true rfl), (Nat.le_of_ble_eq_true rfl)⟩) rfl rfl rfl hl.1 rfl (Nat.le_of_ble_eq_true rfl) dL_worth_4 ⟨(Nat.le_of_ble_eq_true rfl), (Nat.le_of_ble_eq_true rfl)⟩ (st2 := [.int v, .int 0, .ref o]) (pc2 := 7) (c2 := 2) (s2 := 12) rfl rfl rfl rfl (fun H locs T => ?_)
    refine lv_i2l hx hb dL_worth_7 rfl ?_
    refine va_last hx hb hK.1 T.1 T.2.1 T.2.2 16 2 rfl rfl (show vp_in 0 1 from fun h => absurd h (by decide)) dL_worth_8 (fun H locs hP hD hS => ?_)
    have hP : va_P D vwCl (wO cy ad o Xr (vp_updL f 0 v.toInt64) S1) H := hP
    have hD : va_D A (wO cy ad o Xr (vp_updL f 0 v.toInt64) S1) := hD
    refine lv_goto (tgt := 18) hx hb dL_worth_9 (by decide) ?_
    refine lv_iconst (v := 0) hx hb dL_worth_18 (by decide) ?_
    exact W.iret hx hb hr (fun t ht _ => ⟨rfl, ⟨by rw [ht]; exact hP, hD.weaken (fun _ _ _ _ => trivial)⟩, hS.F ht⟩) hS.2.2 dL_worth_19 hlk
  | inr e9 =>
    by_cases h0 : e9 = 0
    · subst h0
      obtain rfl : (1 : Int32) = k := by simpa [wk, wkn] using hk
      refine ct_V (q0 := 15) (ci := 3) (As := [.int x1]) (rest := [.int 0, .ref o]) X hX T (kX3_worth l hfl t1 t2 D cy ad ((o, .inl (cy 2, 1, .inr (.inl f))) :: Xr) S x1 (.inr 0, S1) hf) (cwV 1 hts gL_worth_X3_worth rfl rfl rfl (by decide +kernel) ⟨(Nat.le_of_ble_eq_true rfl), (Nat.le_of_ble_eq_true rfl)⟩) rfl rfl rfl hl.1 rfl (Nat.le_of_ble_eq_true rfl) dL_worth_4 ⟨(Nat.le_of_ble_eq_true rfl), (Nat.le_of_ble_eq_true rfl)⟩ (fun v hv => by cases hv) (fun k2 hk2 H locs q ce T q1 q2 q3 => ?_)
      obtain rfl : 0 = k2 := by cases hk2; rfl
      refine vx_catch (name := "java/lang/IllegalArgumentException") hown [] ⟨0, 9, 12, 13⟩ [⟨0, 9, 15, 21⟩] htab (fun _ h => absurd h List.not_mem_nil) (by decide) (by decide) (hts _ (List.mem_of_getElem? (i := 1) rfl)) (va_Nw.use rfl (hK.2 _ (List.mem_of_getElem? (i := 12) rfl))) q1 q2 q3 ?_
      refine lv_astore_n (lv' := [(3, .ref q), (0, .ref (ad 0)), (1, .int x1), (2, .ref o)]) hx hb dL_worth_12 rfl hl (by decide) rfl (fun ls hl => ?_)
      refine lv_iconst (v := 1) hx hb dL_worth_13 (by decide) ?_
      exact W.iret hx hb hr (fun t ht _ => ⟨rfl, ⟨by rw [ht]; exact T.1, T.2.1.weaken (fun _ _ _ _ => trivial)⟩, T.2.2.F ht⟩) T.2.2.2.2 dL_worth_14 hlk
    · skip
      by_cases h1 : e9 = 1
      · subst h1
        obtain rfl : (2 : Int32) = k := by simpa [wk, wkn] using hk
        refine ct_V (q0 := 15) (ci := 3) (As := [.int x1]) (rest := [.int 0, .ref o]) X hX T (kX3_worth l hfl t1 t2 D cy ad ((o, .inl (cy 2, 1, .inr (.inl f))) :: Xr) S x1 (.inr 1, S1) hf) (cwV 1 hts gL_worth_X3_worth rfl rfl rfl (by decide +kernel) ⟨(Nat.le_of_ble_eq_true rfl), (Nat.le_of_ble_eq_true rfl)⟩) rfl rfl rfl hl.1 rfl (Nat.le_of_ble_eq_true rfl) dL_worth_4 ⟨(Nat.le_of_ble_eq_true rfl), (Nat.le_of_ble_eq_true rfl)⟩ (fun v hv => by cases hv) (fun k2 hk2 H locs q ce T q1 q2 q3 => ?_)
        obtain rfl : 1 = k2 := by cases hk2; rfl
        refine vx_catch (name := "java/lang/IllegalStateException") hown [⟨0, 9, 12, 13⟩] ⟨0, 9, 15, 21⟩ [] htab (List.forall_mem_cons.mpr ⟨Or.inr ⟨by decide, "java/lang/IllegalArgumentException", (hts _ (List.mem_of_getElem? (i := 1) rfl)), hN _ (List.mem_of_getElem? (i := 2) rfl)⟩, fun _ h => absurd h List.not_mem_nil⟩) (by decide) (by decide) (hts _ (List.mem_of_getElem? (i := 2) rfl)) (va_Nw.use rfl (hK.2 _ (List.mem_of_getElem? (i := 13) rfl))) q1 q2 q3 ?_
        refine lv_astore_n (lv' := [(3, .ref q), (0, .ref (ad 0)), (1, .int x1), (2, .ref o)]) hx hb dL_worth_15 rfl hl (by decide) rfl (fun ls hl => ?_)
        refine lv_iconst (v := 2) hx hb dL_worth_16 (by decide) ?_
        exact W.iret hx hb hr (fun t ht _ => ⟨rfl, ⟨by rw [ht]; exact T.1, T.2.1.weaken (fun _ _ _ _ => trivial)⟩, T.2.2.F ht⟩) T.2.2.2.2 dL_worth_17 hlk
      · skip
        exact absurd hk (by simp [wk, wkn, h0, h1])

set_option maxHeartbeats 4000000 in
set_option maxRecDepth 100000 in
theorem kL_best (l : Launch) (hfl : l.stackTraces = false) (t1 t2 : Nat) (D : va_G) (cy : Nat → ClassId) (ad : Nat → Nat) (o : Nat) (Xr : va_W) (S : SC) (f : Nat → Int64) (x1 : Int32) (r : (Int32 ⊕ Nat) × SC) (hf : fX3_best S x1 = some r) (k : Int32) (hk : wk [0, 1] r.1 = some k) : CW l t1 t2 D cy ad o Xr yL_best wsL_best ({ frames := 182, cells := 2, slots := 12, locals := 9048 } : Room) [.ref (ad 0), .int x1, .ref o] S f k r.2 (wf f r.1) := by
  refine CW.of (cc := cL_best) (maxL := 4) (ret := (some .int)) (by decide +kernel) rfl (Nat.le_of_ble_eq_true rfl) ?_
  intro p e s m below meth c A ls X hr T hl hX htab hN
  obtain ⟨hx, hb, hml, hown, hts, hlk, hK, hA, hwA⟩ := id X
  have hl : lv_has ls 4 [(0, .ref (ad 0)), (1, .int x1), (2, .ref o)] := hl
  have htab : c.exceptionTable.toList = [⟨0, 9, 12, 13⟩, ⟨0, 9, 15, 21⟩] := htab
  refine lv_aload_n hx hb dL_best_0 rfl (lv_at hl 2 rfl) ?_
  refine lv_iconst (v := 0) hx hb dL_best_1 (by decide) ?_
  refine lv_aload_n hx hb dL_best_2 rfl (lv_at hl 0 rfl) ?_
  refine lv_iload_n hx hb dL_best_3 rfl (lv_at hl 1 rfl) ?_
  obtain ⟨r1, S1⟩ := r
  cases r1 with
  | inl v =>
    obtain rfl : (0 : Int32) = k := Option.some.inj hk
    refine ct_Vi (v := some (.int v)) (q0 := 15) (ci := 3) (As := [.int x1]) (rest := [.int 0, .ref o]) X hX T (kX3_best l hfl t1 t2 D cy ad ((o, .inl (cy 2, 1, .inr (.inl f))) :: Xr) S x1 (.inl v, S1) hf) (cwV 1 hts gL_best_X3_best rfl rfl rfl (by decide +kernel) ⟨(Nat.le_of_ble_eq_true rfl), (Nat.le_of_ble_eq_true rfl)⟩) rfl rfl rfl hl.1 rfl (Nat.le_of_ble_eq_true rfl) dL_best_4 ⟨(Nat.le_of_ble_eq_true rfl), (Nat.le_of_ble_eq_true rfl)⟩ (st2 := [.int v, .int 0, .ref o]) (pc2 := 7) (c2 := 2) (s2 := 12) rfl rfl rfl rfl (fun H locs T => ?_)
    refine lv_i2l hx hb dL_best_7 rfl ?_
    refine va_last hx hb hK.1 T.1 T.2.1 T.2.2 16 2 rfl rfl (show vp_in 0 1 from fun h => absurd h (by decide)) dL_best_8 (fun H locs hP hD hS => ?_)
    have hP : va_P D vwCl (wO cy ad o Xr (vp_updL f 0 v.toInt64) S1) H := hP
    have hD : va_D A (wO cy ad o Xr (vp_updL f 0 v.toInt64) S1) := hD
    refine lv_goto (tgt := 18) hx hb dL_best_9 (by decide) ?_
    refine lv_iconst (v := 0) hx hb dL_best_18 (by decide) ?_
    exact W.iret hx hb hr (fun t ht _ => ⟨rfl, ⟨by rw [ht]; exact hP, hD.weaken (fun _ _ _ _ => trivial)⟩, hS.F ht⟩) hS.2.2 dL_best_19 hlk
  | inr e9 =>
    by_cases h0 : e9 = 0
    · subst h0
      obtain rfl : (1 : Int32) = k := by simpa [wk, wkn] using hk
      refine ct_V (q0 := 15) (ci := 3) (As := [.int x1]) (rest := [.int 0, .ref o]) X hX T (kX3_best l hfl t1 t2 D cy ad ((o, .inl (cy 2, 1, .inr (.inl f))) :: Xr) S x1 (.inr 0, S1) hf) (cwV 1 hts gL_best_X3_best rfl rfl rfl (by decide +kernel) ⟨(Nat.le_of_ble_eq_true rfl), (Nat.le_of_ble_eq_true rfl)⟩) rfl rfl rfl hl.1 rfl (Nat.le_of_ble_eq_true rfl) dL_best_4 ⟨(Nat.le_of_ble_eq_true rfl), (Nat.le_of_ble_eq_true rfl)⟩ (fun v hv => by cases hv) (fun k2 hk2 H locs q ce T q1 q2 q3 => ?_)
      obtain rfl : 0 = k2 := by cases hk2; rfl
      refine vx_catch (name := "java/lang/IllegalArgumentException") hown [] ⟨0, 9, 12, 13⟩ [⟨0, 9, 15, 21⟩] htab (fun _ h => absurd h List.not_mem_nil) (by decide) (by decide) (hts _ (List.mem_of_getElem? (i := 1) rfl)) (va_Nw.use rfl (hK.2 _ (List.mem_of_getElem? (i := 12) rfl))) q1 q2 q3 ?_
      refine lv_astore_n (lv' := [(3, .ref q), (0, .ref (ad 0)), (1, .int x1), (2, .ref o)]) hx hb dL_best_12 rfl hl (by decide) rfl (fun ls hl => ?_)
      refine lv_iconst (v := 1) hx hb dL_best_13 (by decide) ?_
      exact W.iret hx hb hr (fun t ht _ => ⟨rfl, ⟨by rw [ht]; exact T.1, T.2.1.weaken (fun _ _ _ _ => trivial)⟩, T.2.2.F ht⟩) T.2.2.2.2 dL_best_14 hlk
    · skip
      by_cases h1 : e9 = 1
      · subst h1
        obtain rfl : (2 : Int32) = k := by simpa [wk, wkn] using hk
        refine ct_V (q0 := 15) (ci := 3) (As := [.int x1]) (rest := [.int 0, .ref o]) X hX T (kX3_best l hfl t1 t2 D cy ad ((o, .inl (cy 2, 1, .inr (.inl f))) :: Xr) S x1 (.inr 1, S1) hf) (cwV 1 hts gL_best_X3_best rfl rfl rfl (by decide +kernel) ⟨(Nat.le_of_ble_eq_true rfl), (Nat.le_of_ble_eq_true rfl)⟩) rfl rfl rfl hl.1 rfl (Nat.le_of_ble_eq_true rfl) dL_best_4 ⟨(Nat.le_of_ble_eq_true rfl), (Nat.le_of_ble_eq_true rfl)⟩ (fun v hv => by cases hv) (fun k2 hk2 H locs q ce T q1 q2 q3 => ?_)
        obtain rfl : 1 = k2 := by cases hk2; rfl
        refine vx_catch (name := "java/lang/IllegalStateException") hown [⟨0, 9, 12, 13⟩] ⟨0, 9, 15, 21⟩ [] htab (List.forall_mem_cons.mpr ⟨Or.inr ⟨by decide, "java/lang/IllegalArgumentException", (hts _ (List.mem_of_getElem? (i := 1) rfl)), hN _ (List.mem_of_getElem? (i := 2) rfl)⟩, fun _ h => absurd h List.not_mem_nil⟩) (by decide) (by decide) (hts _ (List.mem_of_getElem? (i := 2) rfl)) (va_Nw.use rfl (hK.2 _ (List.mem_of_getElem? (i := 13) rfl))) q1 q2 q3 ?_
        refine lv_astore_n (lv' := [(3, .ref q), (0, .ref (ad 0)), (1, .int x1), (2, .ref o)]) hx hb dL_best_15 rfl hl (by decide) rfl (fun ls hl => ?_)
        refine lv_iconst (v := 2) hx hb dL_best_16 (by decide) ?_
        exact W.iret hx hb hr (fun t ht _ => ⟨rfl, ⟨by rw [ht]; exact T.1, T.2.1.weaken (fun _ _ _ _ => trivial)⟩, T.2.2.F ht⟩) T.2.2.2.2 dL_best_17 hlk
      · skip
        exact absurd hk (by simp [wk, wkn, h0, h1])

set_option maxHeartbeats 4000000 in
set_option maxRecDepth 100000 in
theorem kL_reached (l : Launch) (hfl : l.stackTraces = false) (t1 t2 : Nat) (D : va_G) (cy : Nat → ClassId) (ad : Nat → Nat) (o : Nat) (Xr : va_W) (S : SC) (f : Nat → Int64) (x1 : Int32) (r : Int32 ⊕ Nat) (hf : fX3_reached S x1 = some r) (k : Int32) (hk : wk [2] r = some k) : CW l t1 t2 D cy ad o Xr yL_reached wsL_reached ({ frames := 7, cells := 1, slots := 6, locals := 111 } : Room) [.ref (ad 0), .int x1, .ref o] S f k S (wf f r) := by
  refine CW.of (cc := cL_reached) (maxL := 4) (ret := (some .int)) (by decide +kernel) rfl (Nat.le_of_ble_eq_true rfl) ?_
  intro p e s m below meth c A ls X hr T hl hX htab hN
  obtain ⟨hx, hb, hml, hown, hts, hlk, hK, hA, hwA⟩ := id X
  have hl : lv_has ls 4 [(0, .ref (ad 0)), (1, .int x1), (2, .ref o)] := hl
  have htab : c.exceptionTable.toList = [⟨0, 9, 12, 19⟩] := htab
  refine lv_aload_n hx hb dL_reached_0 rfl (lv_at hl 2 rfl) ?_
  refine lv_iconst (v := 0) hx hb dL_reached_1 (by decide) ?_
  refine lv_aload_n hx hb dL_reached_2 rfl (lv_at hl 0 rfl) ?_
  refine lv_iload_n hx hb dL_reached_3 rfl (lv_at hl 1 rfl) ?_
  obtain ⟨r1, e1⟩ : ∃ r1, r1 = r := ⟨_, rfl⟩
  subst e1
  cases r1 with
  | inl v =>
    obtain rfl : (0 : Int32) = k := Option.some.inj hk
    refine ct_Vi (v := some (.int v)) (q0 := 15) (ci := 3) (As := [.int x1]) (rest := [.int 0, .ref o]) X hX T (kX3_reached l hfl t1 t2 D cy ad ((o, .inl (cy 2, 1, .inr (.inl f))) :: Xr) S x1 (.inl v) hf) (cwV 1 hts gL_reached_X3_reached rfl rfl rfl (by decide +kernel) ⟨(Nat.le_of_ble_eq_true rfl), (Nat.le_of_ble_eq_true rfl)⟩) rfl rfl rfl hl.1 rfl (Nat.le_of_ble_eq_true rfl) dL_reached_4 ⟨(Nat.le_of_ble_eq_true rfl), (Nat.le_of_ble_eq_true rfl)⟩ (st2 := [.int v, .int 0, .ref o]) (pc2 := 7) (c2 := 1) (s2 := 6) rfl rfl rfl rfl (fun H locs T => ?_)
    refine lv_i2l hx hb dL_reached_7 rfl ?_
    refine va_last hx hb hK.1 T.1 T.2.1 T.2.2 16 2 rfl rfl (show vp_in 0 1 from fun h => absurd h (by decide)) dL_reached_8 (fun H locs hP hD hS => ?_)
    have hP : va_P D vwCl (wO cy ad o Xr (vp_updL f 0 v.toInt64) S) H := hP
    have hD : va_D A (wO cy ad o Xr (vp_updL f 0 v.toInt64) S) := hD
    refine lv_goto (tgt := 15) hx hb dL_reached_9 (by decide) ?_
    refine lv_iconst (v := 0) hx hb dL_reached_15 (by decide) ?_
    exact W.iret hx hb hr (fun t ht _ => ⟨rfl, ⟨by rw [ht]; exact hP, hD.weaken (fun _ _ _ _ => trivial)⟩, hS.F ht⟩) hS.2.2 dL_reached_16 hlk
  | inr e9 =>
    by_cases h0 : e9 = 2
    · subst h0
      obtain rfl : (1 : Int32) = k := by simpa [wk, wkn] using hk
      refine ct_V (q0 := 15) (ci := 3) (As := [.int x1]) (rest := [.int 0, .ref o]) X hX T (kX3_reached l hfl t1 t2 D cy ad ((o, .inl (cy 2, 1, .inr (.inl f))) :: Xr) S x1 (.inr 2) hf) (cwV 1 hts gL_reached_X3_reached rfl rfl rfl (by decide +kernel) ⟨(Nat.le_of_ble_eq_true rfl), (Nat.le_of_ble_eq_true rfl)⟩) rfl rfl rfl hl.1 rfl (Nat.le_of_ble_eq_true rfl) dL_reached_4 ⟨(Nat.le_of_ble_eq_true rfl), (Nat.le_of_ble_eq_true rfl)⟩ (fun v hv => by cases hv) (fun k2 hk2 H locs q ce T q1 q2 q3 => ?_)
      obtain rfl : 2 = k2 := by cases hk2; rfl
      refine vx_catch (name := "java/lang/IndexOutOfBoundsException") hown [] ⟨0, 9, 12, 19⟩ [] htab (fun _ h => absurd h List.not_mem_nil) (by decide) (by decide) (hts _ (List.mem_of_getElem? (i := 1) rfl)) (va_Nw.use rfl (hK.2 _ (List.mem_of_getElem? (i := 14) rfl))) q1 q2 q3 ?_
      refine lv_astore_n (lv' := [(3, .ref q), (0, .ref (ad 0)), (1, .int x1), (2, .ref o)]) hx hb dL_reached_12 rfl hl (by decide) rfl (fun ls hl => ?_)
      refine lv_iconst (v := 1) hx hb dL_reached_13 (by decide) ?_
      exact W.iret hx hb hr (fun t ht _ => ⟨rfl, ⟨by rw [ht]; exact T.1, T.2.1.weaken (fun _ _ _ _ => trivial)⟩, T.2.2.F ht⟩) T.2.2.2.2 dL_reached_14 hlk
    · skip
      exact absurd hk (by simp [wk, wkn, h0])
