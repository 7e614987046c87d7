/-! the law's helpers -/
def ncs : List (String × String) := [("java/lang/IllegalArgumentException", "java/lang/IllegalStateException"), ("java/lang/IllegalArgumentException", "java/lang/IndexOutOfBoundsException"), ("java/lang/IllegalStateException", "java/lang/IllegalArgumentException"), ("java/lang/IllegalStateException", "java/lang/IndexOutOfBoundsException"), ("java/lang/IndexOutOfBoundsException", "java/lang/IllegalArgumentException"), ("java/lang/IndexOutOfBoundsException", "java/lang/IllegalStateException")]
def KNc (U : State) : Prop := ∀ q ∈ ncs, va_Nc q.1 q.2 U
def PGw {σ : Type} (t1 t2 : Nat) (D : va_G) (cy : Nat → ClassId) (w : σ → va_W) (sz : Nat) (av : List Value) (S : σ) : Array Value → State → Prop := fun a U => PGs t1 t2 D cy w sz av S a U ∧ KNc U
theorem PGw_blind {σ : Type} {t1 t2 : Nat} {D : va_G} {cy : Nat → ClassId} {w : σ → va_W} {sz : Nat} {av : List Value} {S : σ} : FrameBlind (PGw t1 t2 D cy w sz av S) := by
  intro a U g mk ⟨h1, h2⟩
  exact ⟨PGs_blind a U g mk h1, fun q hq => (h2 q hq).moved (u := U) (U := U.calling g mk a) (Vm.Alike.refl U.vm)⟩
/-- a contract of a helper of the law: it returns, and makes at most what its room has -/
def CL {σ : Type} (l : Launch) (t1 t2 : Nat) (D : va_G) (cy : Nat → ClassId) (w : σ → va_W) (y : MethodName) (wds : List Cond) (rm : Room) (av : List Value) (S : σ) (v : Option Value) (S' : σ) : Prop :=
  ∀ sz : Nat, Met l y wds rm (PGw t1 t2 D cy w sz av S) (QG D w (AW w sz) v S') rm.cells rm.slots (AW w sz)
theorem CL.of {σ : Type} {l : Launch} {t1 t2 : Nat} {D : va_G} {cy : Nat → ClassId} {w : σ → va_W} {y : MethodName} {wds wds' : List Cond} {rm : Room} {av : List Value} {S S' : σ} {v : Option Value} {cc : ByteArray} {maxL : Nat} {ret : Option FieldType}
    (hy : plainName y.cls = true) (hw : wds = Cond.code y cc maxL ret :: wds') (hent : (lg_sl av).length ≤ maxL)
    (body : ∀ (p : Program) (e : Env) (s : State) (m : MethodId) (below : List Frame) (meth : Method) (c : Code) (A : Nat → Prop) (ls : Array Slot), CX p s m av.toArray meth c cc maxL y.cls wds D cy w A → meth.sig.returnType = ret → ST D w A s S s.heap [] → lv_has ls maxL (lv_args 0 av) → SX t1 t2 A s s.heap → KNc s →
      W p l e rm s m av.toArray below meth c s.heap [] 0 0 (MQ below (QG D w A v S') av.toArray s rm.cells rm.slots A) (F0 m 0 ls [])) : CL l t1 t2 D cy w y wds rm av S v S' := by
  intro sz
  refine Met.ofW (cc := cc) (maxL := maxL) (ret := ret) hy hw ?_
  intro p e s m args below meth c s₁ B hml hv
  obtain ⟨⟨rfl, hsz, ⟨hP, hD0⟩, hK, hX⟩, hN⟩ := hv
  subst hsz
  have hwA : ∀ (S : σ) (k : Nat) (q : Nat × va_E), (w S)[k]? = some q → AW w s.heap.size q.1 := fun S k q h => Or.inl ⟨S, k, q.2, h⟩
  rw [lg_entry_eq]
  exact body p e s m below meth c (AW w s.heap.size) _ ⟨B.exec, B.bytes, hml, findClass_of_methodNamed B.named, atoms_spec (ws := wds) B.pre, B.notSynchronized, hK, fun q h => Or.inr h, hwA⟩ B.returns ⟨hP, ⟨hD0.1, fun k q h => hwA S k q h⟩, va_S.rf⟩ (lv_entry av hent) hX hN
theorem CL.ofT {σ : Type} {l : Launch} {t1 t2 : Nat} {D : va_G} {cy : Nat → ClassId} {w : σ → va_W} {y : MethodName} {wds wds' : List Cond} {rm : Room} {av : List Value} {S S' : σ} {v : Option Value} {cc : ByteArray} {maxL : Nat} {ret : Option FieldType} {hh : List (Nat × Nat × Nat × Nat)}
    (hy : plainName y.cls = true) (hw : wds = Cond.codeWith y cc maxL ret hh :: wds') (hent : (lg_sl av).length ≤ maxL)
    (body : ∀ (p : Program) (e : Env) (s : State) (m : MethodId) (below : List Frame) (meth : Method) (c : Code) (A : Nat → Prop) (ls : Array Slot), CX p s m av.toArray meth c cc maxL y.cls wds D cy w A → meth.sig.returnType = ret → ST D w A s S s.heap [] → lv_has ls maxL (lv_args 0 av) → SX t1 t2 A s s.heap → c.exceptionTable.toList = tableOf hh → KNc s →
      W p l e rm s m av.toArray below meth c s.heap [] 0 0 (MQ below (QG D w A v S') av.toArray s rm.cells rm.slots A) (F0 m 0 ls [])) : CL l t1 t2 D cy w y wds rm av S v S' := by
  intro sz
  refine va_MetW (cc := cc) (maxL := maxL) (ret := ret) hy hw ?_
  intro p e s m args below meth c s₁ B hml hv
  obtain ⟨⟨rfl, hsz, ⟨hP, hD0⟩, hK, hX⟩, hN⟩ := hv
  subst hsz
  have hts := atoms_spec (ws := wds) B.pre
  have htab := vx_table (x := y) B (hts _ (by rw [hw]; exact List.mem_cons_self))
  have hwA : ∀ (S : σ) (k : Nat) (q : Nat × va_E), (w S)[k]? = some q → AW w s.heap.size q.1 := fun S k q h => Or.inl ⟨S, k, q.2, h⟩
  rw [lg_entry_eq]
  exact body p e s m below meth c (AW w s.heap.size) _ ⟨B.exec, B.bytes, hml, findClass_of_methodNamed B.named, hts, B.notSynchronized, hK, fun q h => Or.inr h, hwA⟩ B.returns ⟨hP, ⟨hD0.1, fun k q h => hwA S k q h⟩, va_S.rf⟩ (lv_entry av hent) hX htab hN
section GOL
variable {p : Program} {l : Launch} {e : Env} {R : Room} {s : State} {m : MethodId} {args : Array Value} {below : List Frame} {meth : Method} {c : Code} {H : Heap} {locs : List Loc} {cells slots mc ms : Nat} {Q : State → Prop}
variable {D : va_G} {cy : Nat → ClassId} {σ : Type} {w : σ → va_W} {A : Nat → Prop} {pc nL t1 t2 : Nat} {ls : Array Slot} {rest st : List Value} {S S' : σ} {v : Option Value} {a : Array Value} {cc : ByteArray} {own : String} {Ts : List Cond}
theorem cl_go (X : CX p s m args meth c cc nL own Ts D cy w A) (hr : va_Run p l e R s m args below meth c H locs cells slots mc ms (F0 m pc ls st) rest (QG D w (AW w H.size) v S' a) (AW w H.size)) (T : ST D w A s S H locs)
    (kk : ∀ (H1 : Heap) (locs1 : List Loc), ST D w A s S' H1 locs1 → W p l e R s m args below meth c H1 locs1 (cells + mc) (slots + ms) Q (F0 m (pc + 3) ls (v.toList ++ rest))) : W p l e R s m args below meth c H locs cells slots Q (F0 m pc ls st) := by
  intro T0 hT X0
  obtain ⟨v1, st₀, t, T', L, h0, X', hL, e1, e2, ⟨hv, hp, hz, hk⟩, stp⟩ := hr T0 hT X0
  cases hv
  rw [h0] at hz hk
  obtain ⟨t2, a1, b1⟩ := kk T'.heap (locs ++ L) (ST.moved X T hp hz hk hL e1) T' rfl X'
  exact ⟨t2, stp t2 a1, b1⟩
theorem PGw_of {av : List Value} (X : CX p s m args meth c cc nL own Ts D cy w A) (hX : SX t1 t2 A s s.heap) (hN : KNc s) (T : ST D w A s S H locs) (U : State) (hU : U.heap = H) (hW : s.WarmedH U.vm) : PGw t1 t2 D cy w H.size av S av.toArray U :=
  ⟨PGs_of X hX T U hU hW, fun q hq => (hN q hq).moved hW.alike⟩
/-- a call of a helper that catches -/
theorem cl_SW {y : MethodName} {wds : List Cond} {rm : Room} {As : List Value} {index n maxL : Nat} {bytes : ByteArray} {ret : Option FieldType} {hh : List (Nat × Nat × Nat × Nat)}
    (X : CX p s m args meth c cc nL own Ts D cy w A) (hX : SX t1 t2 A s s.heap) (hN : KNc s) (T : ST D w A s S H locs) (hM : CL l t1 t2 D cy w y wds rm As S v S') (cw : vx_CSW R s args own index y bytes maxL ret hh wds rm rm.cells rm.slots n)
    (hn : As.length = n) (hsz : ls.size = nL) (hst : st = As.reverse ++ rest) (hroom : (rest.map fun v => v.category).sum ≤ 8) (hdg : decode cc pc = .ok (.invokestatic index, 3)) (hcs : cells + rm.cells ≤ R.cells ∧ slots + rm.slots ≤ R.slots)
    {st2 : List Value} {pc2 c2 s2 : Nat} (h2 : v.toList ++ rest = st2) (h3 : pc + 3 = pc2) (h4 : cells + rm.cells = c2) (h5 : slots + rm.slots = s2) (kk : ∀ (H1 : Heap) (locs1 : List Loc), ST D w A s S' H1 locs1 → W p l e R s m args below meth c H1 locs1 c2 s2 Q (F0 m pc2 ls st2)) : W p l e R s m args below meth c H locs cells slots Q (F0 m pc ls st) :=
  cl_go X (vx_runSW (As := As) (rest := rest) ⟨X.1, X.2.1, X.2.2.1, X.2.2.2.1, X.2.2.2.2.1⟩ (hM H.size) cw ⟨PGw_blind, PGw_of X hX hN T⟩ rfl hn hsz hst (lv_room hroom) hdg hcs) T (fun H1 locs1 T1 => by rw [h2, h3, h4, h5]; exact kk H1 locs1 T1)
/-- a call of another helper -/
theorem cl_S {y : MethodName} {wds : List Cond} {rm : Room} {As : List Value} {index n maxL : Nat} {bytes : ByteArray} {ret : Option FieldType}
    (X : CX p s m args meth c cc nL own Ts D cy w A) (hX : SX t1 t2 A s s.heap) (hN : KNc s) (T : ST D w A s S H locs) (hM : CL l t1 t2 D cy w y wds rm As S v S') (cw : CallB R s args own index y bytes maxL ret wds rm rm.cells rm.slots n ∧ (Cond.static y).before args s = true)
    (hn : As.length = n) (hsz : ls.size = nL) (hst : st = As.reverse ++ rest) (hroom : (rest.map fun v => v.category).sum ≤ 8) (hdg : decode cc pc = .ok (.invokestatic index, 3)) (hcs : cells + rm.cells ≤ R.cells ∧ slots + rm.slots ≤ R.slots)
    {st2 : List Value} {pc2 c2 s2 : Nat} (h2 : v.toList ++ rest = st2) (h3 : pc + 3 = pc2) (h4 : cells + rm.cells = c2) (h5 : slots + rm.slots = s2) (kk : ∀ (H1 : Heap) (locs1 : List Loc), ST D w A s S' H1 locs1 → W p l e R s m args below meth c H1 locs1 c2 s2 Q (F0 m pc2 ls st2)) : W p l e R s m args below meth c H locs cells slots Q (F0 m pc ls st) :=
  cl_go X (va_runS (As := As) (rest := rest) ⟨X.1, X.2.1, X.2.2.1, X.2.2.2.1, X.2.2.2.2.1⟩ (hM H.size) cw ⟨PGw_blind, PGw_of X hX hN T⟩ rfl hn hsz hst (lv_room hroom) hdg hcs) T (fun H1 locs1 T1 => by rw [h2, h3, h4, h5]; exact kk H1 locs1 T1)
theorem rl_iw {x : Int32} {r : Int32 × σ} (hf : some (x, S) = some r) (X : CX p s m args meth c cc nL own Ts D cy w A) (T : ST D w A s S H locs) (hr : meth.sig.returnType = some .int) (hdg : decode cc pc = .ok (.ireturn, 1)) (hc : cells ≤ mc) (hs : slots ≤ ms) : W p l e R s m args below meth c H locs cells slots (MQ below (QG D w A (some (.int r.1)) r.2) args s mc ms A) (F0 m pc ls [.int x]) := by
  cases hf
  exact W.widen hc hs (W.iret X.1 X.2.1 hr (fun t ht _ => qg_end T ht) T.2.2.2.2 hdg X.2.2.2.2.2.1)
theorem rl_z {x : Int32} (X : CX p s m args meth c cc nL own Ts D cy w A) (T : ST D w A s S H locs) (hr : meth.sig.returnType = some .boolean) (hx : x = 0 ∨ x = 1) (hdg : decode cc pc = .ok (.ireturn, 1)) (hc : cells ≤ mc) (hs : slots ≤ ms) : W p l e R s m args below meth c H locs cells slots (MQ below (QG D w A (some (.int x)) S) args s mc ms A) (F0 m pc ls [.int x]) :=
  W.widen hc hs (W.zret X.1 X.2.1 hr (by rcases hx with h | h <;> (rw [h]; rfl)) (fun t ht _ => qg_end T ht) T.2.2.2.2 hdg X.2.2.2.2.2.1)
theorem rl_zw {x : Int32} {r : Int32 × σ} (hf : some (x, S) = some r) (X : CX p s m args meth c cc nL own Ts D cy w A) (T : ST D w A s S H locs) (hr : meth.sig.returnType = some .boolean) (hx : x = 0 ∨ x = 1) (hdg : decode cc pc = .ok (.ireturn, 1)) (hc : cells ≤ mc) (hs : slots ≤ ms) : W p l e R s m args below meth c H locs cells slots (MQ below (QG D w A (some (.int r.1)) r.2) args s mc ms A) (F0 m pc ls [.int x]) := by
  cases hf
  exact rl_z X T hr hx hdg hc hs
/-- another world of the same cells -/
theorem sub_T {τ : Type} {w' : τ → va_W} {S1 : τ} (T : ST D w A s S H locs) (e : (w S).Perm (w' S1)) : ST D w' A s S1 H locs := ⟨T.1.perm e, T.2.1.perm e, T.2.2⟩
theorem sub_X {τ : Type} {w' : τ → va_W} {S1 : τ} (X : CX p s m args meth c cc nL own Ts D cy w A) (hf : ∀ S S' : τ, (w' S).map (fun z => z.1) = (w' S').map (fun z => z.1)) (T : ST D w' A s S1 H locs) : CX p s m args meth c cc nL own Ts D cy w' A :=
  ⟨X.1, X.2.1, X.2.2.1, X.2.2.2.1, X.2.2.2.2.1, X.2.2.2.2.2.1, X.2.2.2.2.2.2.1, X.2.2.2.2.2.2.2.1, hw_of hf T.2.1⟩
end GOL
/-- two objects -/
def w2 (cy : Nat → ClassId) (ad ap : Nat → Nat) : SC × SC → va_W := fun z => wC cy ad (wC cy ap [] z.2) z.1
theorem w2_fst (cy : Nat → ClassId) (ad ap : Nat → Nat) : ∀ S S' : SC × SC, (w2 cy ad ap S).map (fun z => z.1) = (w2 cy ad ap S').map (fun z => z.1) := fun _ _ => rfl
theorem w2_y (cy : Nat → ClassId) (ad ap : Nat → Nat) (z : SC × SC) : (w2 cy ad ap z).Perm (wC cy ap (wC cy ad [] z.1) z.2) := by
  have h1 : w2 cy ad ap z = wC cy ad [] z.1 ++ wC cy ap [] z.2 := rfl
  have h2 : wC cy ap (wC cy ad [] z.1) z.2 = wC cy ap [] z.2 ++ wC cy ad [] z.1 := rfl
  rw [h1, h2]
  exact List.perm_append_comm
/-- on, where the callee returned -/
def bndn {α β : Type} (x : Option (α ⊕ Nat)) (k : α → Option β) : Option β := match x with | some (.inl y) => k y | _ => none
theorem bndn_inv {α β : Type} {x : Option (α ⊕ Nat)} {k : α → Option β} {r : β} (h : bndn x k = some r) : ∃ y, x = some (.inl y) ∧ k y = some r := by
  match x, h with
  | some (.inl y), h => exact ⟨y, rfl, h⟩
def bndnS {α β σ : Type} (x : Option ((α ⊕ Nat) × σ)) (k : α → σ → Option β) : Option β := match x with | some (.inl y, S) => k y S | _ => none
theorem bndnS_inv {α β σ : Type} {x : Option ((α ⊕ Nat) × σ)} {k : α → σ → Option β} {r : β} (h : bndnS x k = some r) : ∃ y S, x = some (.inl y, S) ∧ k y S = some r := by
  match x, h with
  | some (.inl y, S), h => exact ⟨y, S, rfl, h⟩
/-- what a helper that catches answers -/
def wkv : List (Nat × Int32) → Nat → Option Int32
  | [], _ => none
  | a :: t, e => if e = a.1 then some a.2 else wkv t e
def ctch (es : List (Nat × Int32)) (x : Option ((Int32 ⊕ Nat) × SC)) : Option (Int32 × SC) := match x with | none => none | some (.inl v, S) => some (v, S) | some (.inr e, S) => (wkv es e).map (fun v => (v, S))
theorem ctch_inv {es : List (Nat × Int32)} {x : Option ((Int32 ⊕ Nat) × SC)} {r : Int32 × SC} (h : ctch es x = some r) : ∃ r0, x = some (r0, r.2) ∧ ((r0 = .inl r.1) ∨ ∃ e, r0 = .inr e ∧ wkv es e = some r.1) := by
  match x, h with
  | some (.inl v, S), h => cases h; exact ⟨_, rfl, Or.inl rfl⟩
  | some (.inr e, S), h =>
    simp only [ctch, Option.map_eq_some_iff] at h
    obtain ⟨v, hv, rfl⟩ := h
    exact ⟨_, rfl, Or.inr ⟨e, rfl, hv⟩⟩
noncomputable def fL_begin (S : SC) (x1 : Int32) (x2 : Int32) (x3 : Int32) (x4 : Int32) (x5 : Int32) : Option (Int32 × SC) := ctch [(0, (-99999))] (fX3_begin S x1 x2 x3 x4 x5)
set_option maxHeartbeats 4000000 in
set_option maxRecDepth 100000 in
theorem kL_begin (l : Launch) (hfl : l.stackTraces = false) (t1 t2 : Nat) (D : va_G) (cy : Nat → ClassId) (ad : Nat → Nat) (Xr : va_W) (S : SC) (x1 : Int32) (x2 : Int32) (x3 : Int32) (x4 : Int32) (x5 : Int32) (r : Int32 × SC) (hf : fL_begin S x1 x2 x3 x4 x5 = some r) : CL l t1 t2 D cy (wC cy ad Xr) yL_begin wsL_begin ({ frames := 7, cells := 1, slots := 6, locals := 115 } : Room) [.ref (ad 0), .int x1, .int x2, .int x3, .int x4, .int x5] S (some (.int r.1)) r.2 := by
  refine CL.ofT (cc := cL_begin) (maxL := 7) (ret := (some .int)) (by decide +kernel) rfl (Nat.le_of_ble_eq_true rfl) ?_
  intro p e s m below meth c A ls X hr T hl hX htab hN
  obtain ⟨hx, hb, hml, hown, hts, hlk, hK, hA, hwA⟩ := id X
  have hl : lv_has ls 7 [(0, .ref (ad 0)), (1, .int x1), (2, .int x2), (3, .int x3), (4, .int x4), (5, .int x5)] := hl
  have htab : c.exceptionTable.toList = [⟨0, 11, 12, 14⟩] := htab
  refine lv_aload_n hx hb dL_begin_0 rfl (lv_at hl 0 rfl) ?_
  refine lv_iload_n hx hb dL_begin_1 rfl (lv_at hl 1 rfl) ?_
  refine lv_iload_n hx hb dL_begin_2 rfl (lv_at hl 2 rfl) ?_
  refine lv_iload_n hx hb dL_begin_3 rfl (lv_at hl 3 rfl) ?_
  refine lv_iload hx hb dL_begin_4 (lv_at hl 4 rfl) ?_
  refine lv_iload hx hb dL_begin_6 (lv_at hl 5 rfl) ?_
  obtain ⟨k, S1⟩ := r
  obtain ⟨r0, h0, hk⟩ := ctch_inv hf
  rcases hk with hk | ⟨e9, hk, hw⟩
  · subst hk
    refine ct_Vi (v := some (.int k)) (q0 := 15) (ci := 3) (As := [.int x1, .int x2, .int x3, .int x4, .int x5]) (rest := []) X hX T (kX3_begin l hfl t1 t2 D cy ad Xr S x1 x2 x3 x4 x5 (.inl k, S1) h0) (cwV 5 hts gL_begin_X3_begin rfl rfl rfl (by decide +kernel) ⟨(Nat.le_of_ble_eq_true rfl), (Nat.le_of_ble_eq_true rfl)⟩) rfl rfl rfl hl.1 rfl (Nat.le_of_ble_eq_true rfl) dL_begin_8 ⟨(Nat.le_of_ble_eq_true rfl), (Nat.le_of_ble_eq_true rfl)⟩ (st2 := [.int k]) (pc2 := 11) (c2 := 1) (s2 := 6) rfl rfl rfl rfl (fun H locs T => ?_)
    exact W.iret hx hb hr (fun t ht _ => qg_end T ht) T.2.2.2.2 dL_begin_11 hlk
  · subst hk
    by_cases h1 : e9 = 0
    · subst h1
      obtain rfl : ((-99999) : Int32) = k := by simpa [wkv] using hw
      refine ct_V (q0 := 15) (ci := 3) (As := [.int x1, .int x2, .int x3, .int x4, .int x5]) (rest := []) X hX T (kX3_begin l hfl t1 t2 D cy ad Xr S x1 x2 x3 x4 x5 (.inr 0, S1) h0) (cwV 5 hts gL_begin_X3_begin rfl rfl rfl (by decide +kernel) ⟨(Nat.le_of_ble_eq_true rfl), (Nat.le_of_ble_eq_true rfl)⟩) rfl rfl rfl hl.1 rfl (Nat.le_of_ble_eq_true rfl) dL_begin_8 ⟨(Nat.le_of_ble_eq_true rfl), (Nat.le_of_ble_eq_true rfl)⟩ (fun v hv => by cases hv) (fun k2 hk2 H locs q ce T q1 q2 q3 => ?_)
      obtain rfl : 0 = k2 := by cases hk2; rfl
      refine vx_catch (name := "java/lang/IllegalArgumentException") hown [] ⟨0, 11, 12, 14⟩ [] htab (fun _ h => absurd h List.not_mem_nil) (by decide) (by decide) (hts _ (List.mem_of_getElem? (i := 1) rfl)) (va_Nw.use rfl (hK.2 _ (List.mem_of_getElem? (i := 12) rfl))) q1 q2 q3 ?_
      refine lv_astore (lv' := [(6, .ref q), (0, .ref (ad 0)), (1, .int x1), (2, .int x2), (3, .int x3), (4, .int x4), (5, .int x5)]) hx hb dL_begin_12 hl (by decide) rfl (fun ls hl => ?_)
      refine lv_ldc (v := (-99999)) hx hb hown (hts _ (List.mem_of_getElem? (i := 2) rfl)) dL_begin_14 ?_
      exact W.iret hx hb hr (fun t ht _ => qg_end T ht) T.2.2.2.2 dL_begin_16 hlk
    · skip
      exact absurd hw (by simp [wkv, h1])

noncomputable def fL_place (S : SC) (x1 : Int32) : Option (Int32 × SC) := ctch [(2, (-99999)), (1, (-99999))] (fX3_place S x1)
set_option maxHeartbeats 4000000 in
set_option maxRecDepth 100000 in
theorem kL_place (l : Launch) (hfl : l.stackTraces = false) (t1 t2 : Nat) (D : va_G) (cy : Nat → ClassId) (ad : Nat → Nat) (Xr : va_W) (S : SC) (x1 : Int32) (r : Int32 × SC) (hf : fL_place S x1 = some r) : CL l t1 t2 D cy (wC cy ad Xr) yL_place wsL_place ({ frames := 8, cells := 2, slots := 12, locals := 144 } : Room) [.ref (ad 0), .int x1] S (some (.int r.1)) r.2 := by
  refine CL.ofT (cc := cL_place) (maxL := 3) (ret := (some .int)) (by decide +kernel) rfl (Nat.le_of_ble_eq_true rfl) ?_
  intro p e s m below meth c A ls X hr T hl hX htab hN
  obtain ⟨hx, hb, hml, hown, hts, hlk, hK, hA, hwA⟩ := id X
  have hl : lv_has ls 3 [(0, .ref (ad 0)), (1, .int x1)] := hl
  have htab : c.exceptionTable.toList = [⟨0, 5, 6, 21⟩, ⟨0, 5, 10, 23⟩] := htab
  refine lv_aload_n hx hb dL_place_0 rfl (lv_at hl 0 rfl) ?_
  refine lv_iload_n hx hb dL_place_1 rfl (lv_at hl 1 rfl) ?_
  obtain ⟨k, S1⟩ := r
  obtain ⟨r0, h0, hk⟩ := ctch_inv hf
  rcases hk with hk | ⟨e9, hk, hw⟩
  · subst hk
    refine ct_Vi (v := some (.int k)) (q0 := 15) (ci := 3) (As := [.int x1]) (rest := []) X hX T (kX3_place l hfl t1 t2 D cy ad Xr S x1 (.inl k, S1) h0) (cwV 1 hts gL_place_X3_place rfl rfl rfl (by decide +kernel) ⟨(Nat.le_of_ble_eq_true rfl), (Nat.le_of_ble_eq_true rfl)⟩) rfl rfl rfl hl.1 rfl (Nat.le_of_ble_eq_true rfl) dL_place_2 ⟨(Nat.le_of_ble_eq_true rfl), (Nat.le_of_ble_eq_true rfl)⟩ (st2 := [.int k]) (pc2 := 5) (c2 := 2) (s2 := 12) rfl rfl rfl rfl (fun H locs T => ?_)
    exact W.iret hx hb hr (fun t ht _ => qg_end T ht) T.2.2.2.2 dL_place_5 hlk
  · subst hk
    by_cases h1 : e9 = 2
    · subst h1
      obtain rfl : ((-99999) : Int32) = k := by simpa [wkv] using hw
      refine ct_V (q0 := 15) (ci := 3) (As := [.int x1]) (rest := []) X hX T (kX3_place l hfl t1 t2 D cy ad Xr S x1 (.inr 2, S1) h0) (cwV 1 hts gL_place_X3_place rfl rfl rfl (by decide +kernel) ⟨(Nat.le_of_ble_eq_true rfl), (Nat.le_of_ble_eq_true rfl)⟩) rfl rfl rfl hl.1 rfl (Nat.le_of_ble_eq_true rfl) dL_place_2 ⟨(Nat.le_of_ble_eq_true rfl), (Nat.le_of_ble_eq_true rfl)⟩ (fun v hv => by cases hv) (fun k2 hk2 H locs q ce T q1 q2 q3 => ?_)
      obtain rfl : 2 = k2 := by cases hk2; rfl
      refine vx_catch (name := "java/lang/IndexOutOfBoundsException") hown [] ⟨0, 5, 6, 21⟩ [⟨0, 5, 10, 23⟩] htab (fun _ h => absurd h List.not_mem_nil) (by decide) (by decide) (hts _ (List.mem_of_getElem? (i := 1) rfl)) (va_Nw.use rfl (hK.2 _ (List.mem_of_getElem? (i := 14) rfl))) q1 q2 q3 ?_
      refine lv_astore_n (lv' := [(2, .ref q), (0, .ref (ad 0)), (1, .int x1)]) hx hb dL_place_6 rfl hl (by decide) rfl (fun ls hl => ?_)
      refine lv_ldc (v := (-99999)) hx hb hown (hts _ (List.mem_of_getElem? (i := 3) rfl)) dL_place_7 ?_
      exact W.iret hx hb hr (fun t ht _ => qg_end T ht) T.2.2.2.2 dL_place_9 hlk
    · skip
      by_cases h2 : e9 = 1
      · subst h2
        obtain rfl : ((-99999) : Int32) = k := by simpa [wkv] using hw
        refine ct_V (q0 := 15) (ci := 3) (As := [.int x1]) (rest := []) X hX T (kX3_place l hfl t1 t2 D cy ad Xr S x1 (.inr 1, S1) h0) (cwV 1 hts gL_place_X3_place rfl rfl rfl (by decide +kernel) ⟨(Nat.le_of_ble_eq_true rfl), (Nat.le_of_ble_eq_true rfl)⟩) rfl rfl rfl hl.1 rfl (Nat.le_of_ble_eq_true rfl) dL_place_2 ⟨(Nat.le_of_ble_eq_true rfl), (Nat.le_of_ble_eq_true rfl)⟩ (fun v hv => by cases hv) (fun k2 hk2 H locs q ce T q1 q2 q3 => ?_)
        obtain rfl : 1 = k2 := by cases hk2; rfl
        refine vx_catch (name := "java/lang/IllegalStateException") hown [⟨0, 5, 6, 21⟩] ⟨0, 5, 10, 23⟩ [] htab (List.forall_mem_cons.mpr ⟨Or.inr ⟨by decide, "java/lang/IndexOutOfBoundsException", (hts _ (List.mem_of_getElem? (i := 1) rfl)), hN _ (List.mem_of_getElem? (i := 3) rfl)⟩, fun _ h => absurd h List.not_mem_nil⟩) (by decide) (by decide) (hts _ (List.mem_of_getElem? (i := 2) rfl)) (va_Nw.use rfl (hK.2 _ (List.mem_of_getElem? (i := 13) rfl))) q1 q2 q3 ?_
        refine lv_astore_n (lv' := [(2, .ref q), (0, .ref (ad 0)), (1, .int x1)]) hx hb dL_place_10 rfl hl (by decide) rfl (fun ls hl => ?_)
        refine lv_ldc (v := (-99999)) hx hb hown (hts _ (List.mem_of_getElem? (i := 3) rfl)) dL_place_11 ?_
        exact W.iret hx hb hr (fun t ht _ => qg_end T ht) T.2.2.2.2 dL_place_13 hlk
      · skip
        exact absurd hw (by simp [wkv, h1, h2])

noncomputable def fL_raise (S : SC) (x1 : Int32) (x2 : Int32) : Option (Int32 × SC) := ctch [(2, (-99999)), (0, (-99999)), (1, (-99999))] (fX3_raise S x1 x2)
set_option maxHeartbeats 4000000 in
set_option maxRecDepth 100000 in
theorem kL_raise (l : Launch) (hfl : l.stackTraces = false) (t1 t2 : Nat) (D : va_G) (cy : Nat → ClassId) (ad : Nat → Nat) (Xr : va_W) (S : SC) (x1 : Int32) (x2 : Int32) (r : Int32 × SC) (hf : fL_raise S x1 x2 = some r) : CL l t1 t2 D cy (wC cy ad Xr) yL_raise wsL_raise ({ frames := 8, cells := 2, slots := 12, locals := 134 } : Room) [.ref (ad 0), .int x1, .int x2] S (some (.int r.1)) r.2 := by
  refine CL.ofT (cc := cL_raise) (maxL := 4) (ret := (some .int)) (by decide +kernel) rfl (Nat.le_of_ble_eq_true rfl) ?_
  intro p e s m below meth c A ls X hr T hl hX htab hN
  obtain ⟨hx, hb, hml, hown, hts, hlk, hK, hA, hwA⟩ := id X
  have hl : lv_has ls 4 [(0, .ref (ad 0)), (1, .int x1), (2, .int x2)] := hl
  have htab : c.exceptionTable.toList = [⟨0, 6, 7, 21⟩, ⟨0, 6, 11, 14⟩, ⟨0, 6, 15, 23⟩] := htab
  refine lv_aload_n hx hb dL_raise_0 rfl (lv_at hl 0 rfl) ?_
  refine lv_iload_n hx hb dL_raise_1 rfl (lv_at hl 1 rfl) ?_
  refine lv_iload_n hx hb dL_raise_2 rfl (lv_at hl 2 rfl) ?_
  obtain ⟨k, S1⟩ := r
  obtain ⟨r0, h0, hk⟩ := ctch_inv hf
  rcases hk with hk | ⟨e9, hk, hw⟩
  · subst hk
    refine ct_Vi (v := some (.int k)) (q0 := 15) (ci := 3) (As := [.int x1, .int x2]) (rest := []) X hX T (kX3_raise l hfl t1 t2 D cy ad Xr S x1 x2 (.inl k, S1) h0) (cwV 2 hts gL_raise_X3_raise rfl rfl rfl (by decide +kernel) ⟨(Nat.le_of_ble_eq_true rfl), (Nat.le_of_ble_eq_true rfl)⟩) rfl rfl rfl hl.1 rfl (Nat.le_of_ble_eq_true rfl) dL_raise_3 ⟨(Nat.le_of_ble_eq_true rfl), (Nat.le_of_ble_eq_true rfl)⟩ (st2 := [.int k]) (pc2 := 6) (c2 := 2) (s2 := 12) rfl rfl rfl rfl (fun H locs T => ?_)
    exact W.iret hx hb hr (fun t ht _ => qg_end T ht) T.2.2.2.2 dL_raise_6 hlk
  · subst hk
    by_cases h1 : e9 = 2
    · subst h1
      obtain rfl : ((-99999) : Int32) = k := by simpa [wkv] using hw
      refine ct_V (q0 := 15) (ci := 3) (As := [.int x1, .int x2]) (rest := []) X hX T (kX3_raise l hfl t1 t2 D cy ad Xr S x1 x2 (.inr 2, S1) h0) (cwV 2 hts gL_raise_X3_raise rfl rfl rfl (by decide +kernel) ⟨(Nat.le_of_ble_eq_true rfl), (Nat.le_of_ble_eq_true rfl)⟩) rfl rfl rfl hl.1 rfl (Nat.le_of_ble_eq_true rfl) dL_raise_3 ⟨(Nat.le_of_ble_eq_true rfl), (Nat.le_of_ble_eq_true rfl)⟩ (fun v hv => by cases hv) (fun k2 hk2 H locs q ce T q1 q2 q3 => ?_)
      obtain rfl : 2 = k2 := by cases hk2; rfl
      refine vx_catch (name := "java/lang/IndexOutOfBoundsException") hown [] ⟨0, 6, 7, 21⟩ [⟨0, 6, 11, 14⟩, ⟨0, 6, 15, 23⟩] htab (fun _ h => absurd h List.not_mem_nil) (by decide) (by decide) (hts _ (List.mem_of_getElem? (i := 1) rfl)) (va_Nw.use rfl (hK.2 _ (List.mem_of_getElem? (i := 14) rfl))) q1 q2 q3 ?_
      refine lv_astore_n (lv' := [(3, .ref q), (0, .ref (ad 0)), (1, .int x1), (2, .int x2)]) hx hb dL_raise_7 rfl hl (by decide) rfl (fun ls hl => ?_)
      refine lv_ldc (v := (-99999)) hx hb hown (hts _ (List.mem_of_getElem? (i := 4) rfl)) dL_raise_8 ?_
      exact W.iret hx hb hr (fun t ht _ => qg_end T ht) T.2.2.2.2 dL_raise_10 hlk
    · skip
      by_cases h2 : e9 = 0
      · subst h2
        obtain rfl : ((-99999) : Int32) = k := by simpa [wkv] using hw
        refine ct_V (q0 := 15) (ci := 3) (As := [.int x1, .int x2]) (rest := []) X hX T (kX3_raise l hfl t1 t2 D cy ad Xr S x1 x2 (.inr 0, S1) h0) (cwV 2 hts gL_raise_X3_raise rfl rfl rfl (by decide +kernel) ⟨(Nat.le_of_ble_eq_true rfl), (Nat.le_of_ble_eq_true rfl)⟩) rfl rfl rfl hl.1 rfl (Nat.le_of_ble_eq_true rfl) dL_raise_3 ⟨(Nat.le_of_ble_eq_true rfl), (Nat.le_of_ble_eq_true rfl)⟩ (fun v hv => by cases hv) (fun k2 hk2 H locs q ce T q1 q2 q3 => ?_)
        obtain rfl : 0 = k2 := by cases hk2; rfl
        refine vx_catch (name := "java/lang/IllegalArgumentException") hown [⟨0, 6, 7, 21⟩] ⟨0, 6, 11, 14⟩ [⟨0, 6, 15, 23⟩] htab (List.forall_mem_cons.mpr ⟨Or.inr ⟨by decide, "java/lang/IndexOutOfBoundsException", (hts _ (List.mem_of_getElem? (i := 1) rfl)), hN _ (List.mem_of_getElem? (i := 1) rfl)⟩, fun _ h => absurd h List.not_mem_nil⟩) (by decide) (by decide) (hts _ (List.mem_of_getElem? (i := 2) rfl)) (va_Nw.use rfl (hK.2 _ (List.mem_of_getElem? (i := 12) rfl))) q1 q2 q3 ?_
        refine lv_astore_n (lv' := [(3, .ref q), (0, .ref (ad 0)), (1, .int x1), (2, .int x2)]) hx hb dL_raise_11 rfl hl (by decide) rfl (fun ls hl => ?_)
        refine lv_ldc (v := (-99999)) hx hb hown (hts _ (List.mem_of_getElem? (i := 4) rfl)) dL_raise_12 ?_
        exact W.iret hx hb hr (fun t ht _ => qg_end T ht) T.2.2.2.2 dL_raise_14 hlk
      · skip
        by_cases h3 : e9 = 1
        · subst h3
          obtain rfl : ((-99999) : Int32) = k := by simpa [wkv] using hw
          refine ct_V (q0 := 15) (ci := 3) (As := [.int x1, .int x2]) (rest := []) X hX T (kX3_raise l hfl t1 t2 D cy ad Xr S x1 x2 (.inr 1, S1) h0) (cwV 2 hts gL_raise_X3_raise rfl rfl rfl (by decide +kernel) ⟨(Nat.le_of_ble_eq_true rfl), (Nat.le_of_ble_eq_true rfl)⟩) rfl rfl rfl hl.1 rfl (Nat.le_of_ble_eq_true rfl) dL_raise_3 ⟨(Nat.le_of_ble_eq_true rfl), (Nat.le_of_ble_eq_true rfl)⟩ (fun v hv => by cases hv) (fun k2 hk2 H locs q ce T q1 q2 q3 => ?_)
          obtain rfl : 1 = k2 := by cases hk2; rfl
          refine vx_catch (name := "java/lang/IllegalStateException") hown [⟨0, 6, 7, 21⟩, ⟨0, 6, 11, 14⟩] ⟨0, 6, 15, 23⟩ [] htab (List.forall_mem_cons.mpr ⟨Or.inr ⟨by decide, "java/lang/IndexOutOfBoundsException", (hts _ (List.mem_of_getElem? (i := 1) rfl)), hN _ (List.mem_of_getElem? (i := 3) rfl)⟩, List.forall_mem_cons.mpr ⟨Or.inr ⟨by decide, "java/lang/IllegalArgumentException", (hts _ (List.mem_of_getElem? (i := 2) rfl)), hN _ (List.mem_of_getElem? (i := 2) rfl)⟩, fun _ h => absurd h List.not_mem_nil⟩⟩) (by decide) (by decide) (hts _ (List.mem_of_getElem? (i := 3) rfl)) (va_Nw.use rfl (hK.2 _ (List.mem_of_getElem? (i := 13) rfl))) q1 q2 q3 ?_
          refine lv_astore_n (lv' := [(3, .ref q), (0, .ref (ad 0)), (1, .int x1), (2, .int x2)]) hx hb dL_raise_15 rfl hl (by decide) rfl (fun ls hl => ?_)
          refine lv_ldc (v := (-99999)) hx hb hown (hts _ (List.mem_of_getElem? (i := 4) rfl)) dL_raise_16 ?_
          exact W.iret hx hb hr (fun t ht _ => qg_end T ht) T.2.2.2.2 dL_raise_18 hlk
        · skip
          exact absurd hw (by simp [wkv, h1, h2, h3])

noncomputable def fL_turnCount (S : SC) : Option (Int32 × SC) := ctch [(1, (-1))] (fX3_turnCount S)
set_option maxHeartbeats 4000000 in
set_option maxRecDepth 100000 in
theorem kL_turnCount (l : Launch) (hfl : l.stackTraces = false) (t1 t2 : Nat) (D : va_G) (cy : Nat → ClassId) (ad : Nat → Nat) (Xr : va_W) (S : SC) (r : Int32 × SC) (hf : fL_turnCount S = some r) : CL l t1 t2 D cy (wC cy ad Xr) yL_turnCount wsL_turnCount ({ frames := 8, cells := 1, slots := 6, locals := 150 } : Room) [.ref (ad 0)] S (some (.int r.1)) r.2 := by
  refine CL.ofT (cc := cL_turnCount) (maxL := 2) (ret := (some .int)) (by decide +kernel) rfl (Nat.le_of_ble_eq_true rfl) ?_
  intro p e s m below meth c A ls X hr T hl hX htab hN
  obtain ⟨hx, hb, hml, hown, hts, hlk, hK, hA, hwA⟩ := id X
  have hl : lv_has ls 2 [(0, .ref (ad 0))] := hl
  have htab : c.exceptionTable.toList = [⟨0, 4, 5, 23⟩] := htab
  refine lv_aload_n hx hb dL_turnCount_0 rfl (lv_at hl 0 rfl) ?_
  obtain ⟨k, S1⟩ := r
  obtain ⟨r0, h0, hk⟩ := ctch_inv hf
  rcases hk with hk | ⟨e9, hk, hw⟩
  · subst hk
    refine ct_Vi (v := some (.int k)) (q0 := 15) (ci := 3) (As := []) (rest := []) X hX T (kX3_turnCount l hfl t1 t2 D cy ad Xr S (.inl k, S1) h0) (cwV 0 hts gL_turnCount_X3_turnCount rfl rfl rfl (by decide +kernel) ⟨(Nat.le_of_ble_eq_true rfl), (Nat.le_of_ble_eq_true rfl)⟩) rfl rfl rfl hl.1 rfl (Nat.le_of_ble_eq_true rfl) dL_turnCount_1 ⟨(Nat.le_of_ble_eq_true rfl), (Nat.le_of_ble_eq_true rfl)⟩ (st2 := [.int k]) (pc2 := 4) (c2 := 1) (s2 := 6) rfl rfl rfl rfl (fun H locs T => ?_)
    exact W.iret hx hb hr (fun t ht _ => qg_end T ht) T.2.2.2.2 dL_turnCount_4 hlk
  · subst hk
    by_cases h1 : e9 = 1
    · subst h1
      obtain rfl : ((-1) : Int32) = k := by simpa [wkv] using hw
      refine ct_V (q0 := 15) (ci := 3) (As := []) (rest := []) X hX T (kX3_turnCount l hfl t1 t2 D cy ad Xr S (.inr 1, S1) h0) (cwV 0 hts gL_turnCount_X3_turnCount rfl rfl rfl (by decide +kernel) ⟨(Nat.le_of_ble_eq_true rfl), (Nat.le_of_ble_eq_true rfl)⟩) rfl rfl rfl hl.1 rfl (Nat.le_of_ble_eq_true rfl) dL_turnCount_1 ⟨(Nat.le_of_ble_eq_true rfl), (Nat.le_of_ble_eq_true rfl)⟩ (fun v hv => by cases hv) (fun k2 hk2 H locs q ce T q1 q2 q3 => ?_)
      obtain rfl : 1 = k2 := by cases hk2; rfl
      refine vx_catch (name := "java/lang/IllegalStateException") hown [] ⟨0, 4, 5, 23⟩ [] htab (fun _ h => absurd h List.not_mem_nil) (by decide) (by decide) (hts _ (List.mem_of_getElem? (i := 1) rfl)) (va_Nw.use rfl (hK.2 _ (List.mem_of_getElem? (i := 13) rfl))) q1 q2 q3 ?_
      refine lv_astore_n (lv' := [(1, .ref q), (0, .ref (ad 0))]) hx hb dL_turnCount_5 rfl hl (by decide) rfl (fun ls hl => ?_)
      refine lv_iconst (v := (-1)) hx hb dL_turnCount_6 (by decide) ?_
      exact W.iret hx hb hr (fun t ht _ => qg_end T ht) T.2.2.2.2 dL_turnCount_7 hlk
    · skip
      exact absurd hw (by simp [wkv, h1])

noncomputable def fL_turnAt (S : SC) (x1 : Int32) : Option (Int32 × SC) := ctch [(2, (-1)), (1, (-2))] (fX3_turnAt S x1)
set_option maxHeartbeats 4000000 in
set_option maxRecDepth 100000 in
theorem kL_turnAt (l : Launch) (hfl : l.stackTraces = false) (t1 t2 : Nat) (D : va_G) (cy : Nat → ClassId) (ad : Nat → Nat) (Xr : va_W) (S : SC) (x1 : Int32) (r : Int32 × SC) (hf : fL_turnAt S x1 = some r) : CL l t1 t2 D cy (wC cy ad Xr) yL_turnAt wsL_turnAt ({ frames := 8, cells := 2, slots := 12, locals := 151 } : Room) [.ref (ad 0), .int x1] S (some (.int r.1)) r.2 := by
  refine CL.ofT (cc := cL_turnAt) (maxL := 3) (ret := (some .int)) (by decide +kernel) rfl (Nat.le_of_ble_eq_true rfl) ?_
  intro p e s m below meth c A ls X hr T hl hX htab hN
  obtain ⟨hx, hb, hml, hown, hts, hlk, hK, hA, hwA⟩ := id X
  have hl : lv_has ls 3 [(0, .ref (ad 0)), (1, .int x1)] := hl
  have htab : c.exceptionTable.toList = [⟨0, 5, 6, 21⟩, ⟨0, 5, 9, 23⟩] := htab
  refine lv_aload_n hx hb dL_turnAt_0 rfl (lv_at hl 0 rfl) ?_
  refine lv_iload_n hx hb dL_turnAt_1 rfl (lv_at hl 1 rfl) ?_
  obtain ⟨k, S1⟩ := r
  obtain ⟨r0, h0, hk⟩ := ctch_inv hf
  rcases hk with hk | ⟨e9, hk, hw⟩
  · subst hk
    refine ct_Vi (v := some (.int k)) (q0 := 15) (ci := 3) (As := [.int x1]) (rest := []) X hX T (kX3_turnAt l hfl t1 t2 D cy ad Xr S x1 (.inl k, S1) h0) (cwV 1 hts gL_turnAt_X3_turnAt rfl rfl rfl (by decide +kernel) ⟨(Nat.le_of_ble_eq_true rfl), (Nat.le_of_ble_eq_true rfl)⟩) rfl rfl rfl hl.1 rfl (Nat.le_of_ble_eq_true rfl) dL_turnAt_2 ⟨(Nat.le_of_ble_eq_true rfl), (Nat.le_of_ble_eq_true rfl)⟩ (st2 := [.int k]) (pc2 := 5) (c2 := 2) (s2 := 12) rfl rfl rfl rfl (fun H locs T => ?_)
    exact W.iret hx hb hr (fun t ht _ => qg_end T ht) T.2.2.2.2 dL_turnAt_5 hlk
  · subst hk
    by_cases h1 : e9 = 2
    · subst h1
      obtain rfl : ((-1) : Int32) = k := by simpa [wkv] using hw
      refine ct_V (q0 := 15) (ci := 3) (As := [.int x1]) (rest := []) X hX T (kX3_turnAt l hfl t1 t2 D cy ad Xr S x1 (.inr 2, S1) h0) (cwV 1 hts gL_turnAt_X3_turnAt rfl rfl rfl (by decide +kernel) ⟨(Nat.le_of_ble_eq_true rfl), (Nat.le_of_ble_eq_true rfl)⟩) rfl rfl rfl hl.1 rfl (Nat.le_of_ble_eq_true rfl) dL_turnAt_2 ⟨(Nat.le_of_ble_eq_true rfl), (Nat.le_of_ble_eq_true rfl)⟩ (fun v hv => by cases hv) (fun k2 hk2 H locs q ce T q1 q2 q3 => ?_)
      obtain rfl : 2 = k2 := by cases hk2; rfl
      refine vx_catch (name := "java/lang/IndexOutOfBoundsException") hown [] ⟨0, 5, 6, 21⟩ [⟨0, 5, 9, 23⟩] htab (fun _ h => absurd h List.not_mem_nil) (by decide) (by decide) (hts _ (List.mem_of_getElem? (i := 1) rfl)) (va_Nw.use rfl (hK.2 _ (List.mem_of_getElem? (i := 14) rfl))) q1 q2 q3 ?_
      refine lv_astore_n (lv' := [(2, .ref q), (0, .ref (ad 0)), (1, .int x1)]) hx hb dL_turnAt_6 rfl hl (by decide) rfl (fun ls hl => ?_)
      refine lv_iconst (v := (-1)) hx hb dL_turnAt_7 (by decide) ?_
      exact W.iret hx hb hr (fun t ht _ => qg_end T ht) T.2.2.2.2 dL_turnAt_8 hlk
    · skip
      by_cases h2 : e9 = 1
      · subst h2
        obtain rfl : ((-2) : Int32) = k := by simpa [wkv] using hw
        refine ct_V (q0 := 15) (ci := 3) (As := [.int x1]) (rest := []) X hX T (kX3_turnAt l hfl t1 t2 D cy ad Xr S x1 (.inr 1, S1) h0) (cwV 1 hts gL_turnAt_X3_turnAt rfl rfl rfl (by decide +kernel) ⟨(Nat.le_of_ble_eq_true rfl), (Nat.le_of_ble_eq_true rfl)⟩) rfl rfl rfl hl.1 rfl (Nat.le_of_ble_eq_true rfl) dL_turnAt_2 ⟨(Nat.le_of_ble_eq_true rfl), (Nat.le_of_ble_eq_true rfl)⟩ (fun v hv => by cases hv) (fun k2 hk2 H locs q ce T q1 q2 q3 => ?_)
        obtain rfl : 1 = k2 := by cases hk2; rfl
        refine vx_catch (name := "java/lang/IllegalStateException") hown [⟨0, 5, 6, 21⟩] ⟨0, 5, 9, 23⟩ [] htab (List.forall_mem_cons.mpr ⟨Or.inr ⟨by decide, "java/lang/IndexOutOfBoundsException", (hts _ (List.mem_of_getElem? (i := 1) rfl)), hN _ (List.mem_of_getElem? (i := 3) rfl)⟩, fun _ h => absurd h List.not_mem_nil⟩) (by decide) (by decide) (hts _ (List.mem_of_getElem? (i := 2) rfl)) (va_Nw.use rfl (hK.2 _ (List.mem_of_getElem? (i := 13) rfl))) q1 q2 q3 ?_
        refine lv_astore_n (lv' := [(2, .ref q), (0, .ref (ad 0)), (1, .int x1)]) hx hb dL_turnAt_9 rfl hl (by decide) rfl (fun ls hl => ?_)
        refine lv_bipush (v := (-2)) hx hb dL_turnAt_10 (by decide) ?_
        exact W.iret hx hb hr (fun t ht _ => qg_end T ht) T.2.2.2.2 dL_turnAt_12 hlk
      · skip
        exact absurd hw (by simp [wkv, h1, h2])

noncomputable def fL_play (S : SC) (x1 : Int32) : Option (Int32 × SC) := ctch [(1, (-99999))] (fX3_play S x1)
set_option maxHeartbeats 4000000 in
set_option maxRecDepth 100000 in
theorem kL_play (l : Launch) (hfl : l.stackTraces = false) (t1 t2 : Nat) (D : va_G) (cy : Nat → ClassId) (ad : Nat → Nat) (Xr : va_W) (S : SC) (x1 : Int32) (r : Int32 × SC) (hf : fL_play S x1 = some r) : CL l t1 t2 D cy (wC cy ad Xr) yL_play wsL_play ({ frames := 8, cells := 2, slots := 12, locals := 151 } : Room) [.ref (ad 0), .int x1] S (some (.int r.1)) r.2 := by
  refine CL.ofT (cc := cL_play) (maxL := 3) (ret := (some .int)) (by decide +kernel) rfl (Nat.le_of_ble_eq_true rfl) ?_
  intro p e s m below meth c A ls X hr T hl hX htab hN
  obtain ⟨hx, hb, hml, hown, hts, hlk, hK, hA, hwA⟩ := id X
  have hl : lv_has ls 3 [(0, .ref (ad 0)), (1, .int x1)] := hl
  have htab : c.exceptionTable.toList = [⟨0, 5, 6, 23⟩] := htab
  refine lv_aload_n hx hb dL_play_0 rfl (lv_at hl 0 rfl) ?_
  refine lv_iload_n hx hb dL_play_1 rfl (lv_at hl 1 rfl) ?_
  obtain ⟨k, S1⟩ := r
  obtain ⟨r0, h0, hk⟩ := ctch_inv hf
  rcases hk with hk | ⟨e9, hk, hw⟩
  · subst hk
    refine ct_Vi (v := some (.int k)) (q0 := 15) (ci := 3) (As := [.int x1]) (rest := []) X hX T (kX3_play l hfl t1 t2 D cy ad Xr S x1 (.inl k, S1) h0) (cwV 1 hts gL_play_X3_play rfl rfl rfl (by decide +kernel) ⟨(Nat.le_of_ble_eq_true rfl), (Nat.le_of_ble_eq_true rfl)⟩) rfl rfl rfl hl.1 rfl (Nat.le_of_ble_eq_true rfl) dL_play_2 ⟨(Nat.le_of_ble_eq_true rfl), (Nat.le_of_ble_eq_true rfl)⟩ (st2 := [.int k]) (pc2 := 5) (c2 := 2) (s2 := 12) rfl rfl rfl rfl (fun H locs T => ?_)
    exact W.iret hx hb hr (fun t ht _ => qg_end T ht) T.2.2.2.2 dL_play_5 hlk
  · subst hk
    by_cases h1 : e9 = 1
    · subst h1
      obtain rfl : ((-99999) : Int32) = k := by simpa [wkv] using hw
      refine ct_V (q0 := 15) (ci := 3) (As := [.int x1]) (rest := []) X hX T (kX3_play l hfl t1 t2 D cy ad Xr S x1 (.inr 1, S1) h0) (cwV 1 hts gL_play_X3_play rfl rfl rfl (by decide +kernel) ⟨(Nat.le_of_ble_eq_true rfl), (Nat.le_of_ble_eq_true rfl)⟩) rfl rfl rfl hl.1 rfl (Nat.le_of_ble_eq_true rfl) dL_play_2 ⟨(Nat.le_of_ble_eq_true rfl), (Nat.le_of_ble_eq_true rfl)⟩ (fun v hv => by cases hv) (fun k2 hk2 H locs q ce T q1 q2 q3 => ?_)
      obtain rfl : 1 = k2 := by cases hk2; rfl
      refine vx_catch (name := "java/lang/IllegalStateException") hown [] ⟨0, 5, 6, 23⟩ [] htab (fun _ h => absurd h List.not_mem_nil) (by decide) (by decide) (hts _ (List.mem_of_getElem? (i := 1) rfl)) (va_Nw.use rfl (hK.2 _ (List.mem_of_getElem? (i := 13) rfl))) q1 q2 q3 ?_
      refine lv_astore_n (lv' := [(2, .ref q), (0, .ref (ad 0)), (1, .int x1)]) hx hb dL_play_6 rfl hl (by decide) rfl (fun ls hl => ?_)
      refine lv_ldc (v := (-99999)) hx hb hown (hts _ (List.mem_of_getElem? (i := 2) rfl)) dL_play_7 ?_
      exact W.iret hx hb hr (fun t ht _ => qg_end T ht) T.2.2.2.2 dL_play_9 hlk
    · skip
      exact absurd hw (by simp [wkv, h1])

noncomputable def fL_takeBack (S : SC) : Option (Int32 × SC) := ctch [(1, (-99999))] (fX3_takeBack S)
set_option maxHeartbeats 4000000 in
set_option maxRecDepth 100000 in
theorem kL_takeBack (l : Launch) (hfl : l.stackTraces = false) (t1 t2 : Nat) (D : va_G) (cy : Nat → ClassId) (ad : Nat → Nat) (Xr : va_W) (S : SC) (r : Int32 × SC) (hf : fL_takeBack S = some r) : CL l t1 t2 D cy (wC cy ad Xr) yL_takeBack wsL_takeBack ({ frames := 7, cells := 1, slots := 6, locals := 110 } : Room) [.ref (ad 0)] S (some (.int r.1)) r.2 := by
  refine CL.ofT (cc := cL_takeBack) (maxL := 2) (ret := (some .int)) (by decide +kernel) rfl (Nat.le_of_ble_eq_true rfl) ?_
  intro p e s m below meth c A ls X hr T hl hX htab hN
  obtain ⟨hx, hb, hml, hown, hts, hlk, hK, hA, hwA⟩ := id X
  have hl : lv_has ls 2 [(0, .ref (ad 0))] := hl
  have htab : c.exceptionTable.toList = [⟨0, 4, 5, 23⟩] := htab
  refine lv_aload_n hx hb dL_takeBack_0 rfl (lv_at hl 0 rfl) ?_
  obtain ⟨k, S1⟩ := r
  obtain ⟨r0, h0, hk⟩ := ctch_inv hf
  rcases hk with hk | ⟨e9, hk, hw⟩
  · subst hk
    refine ct_Vi (v := some (.int k)) (q0 := 15) (ci := 3) (As := []) (rest := []) X hX T (kX3_takeBack l hfl t1 t2 D cy ad Xr S (.inl k, S1) h0) (cwV 0 hts gL_takeBack_X3_takeBack rfl rfl rfl (by decide +kernel) ⟨(Nat.le_of_ble_eq_true rfl), (Nat.le_of_ble_eq_true rfl)⟩) rfl rfl rfl hl.1 rfl (Nat.le_of_ble_eq_true rfl) dL_takeBack_1 ⟨(Nat.le_of_ble_eq_true rfl), (Nat.le_of_ble_eq_true rfl)⟩ (st2 := [.int k]) (pc2 := 4) (c2 := 1) (s2 := 6) rfl rfl rfl rfl (fun H locs T => ?_)
    exact W.iret hx hb hr (fun t ht _ => qg_end T ht) T.2.2.2.2 dL_takeBack_4 hlk
  · subst hk
    by_cases h1 : e9 = 1
    · subst h1
      obtain rfl : ((-99999) : Int32) = k := by simpa [wkv] using hw
      refine ct_V (q0 := 15) (ci := 3) (As := []) (rest := []) X hX T (kX3_takeBack l hfl t1 t2 D cy ad Xr S (.inr 1, S1) h0) (cwV 0 hts gL_takeBack_X3_takeBack rfl rfl rfl (by decide +kernel) ⟨(Nat.le_of_ble_eq_true rfl), (Nat.le_of_ble_eq_true rfl)⟩) rfl rfl rfl hl.1 rfl (Nat.le_of_ble_eq_true rfl) dL_takeBack_1 ⟨(Nat.le_of_ble_eq_true rfl), (Nat.le_of_ble_eq_true rfl)⟩ (fun v hv => by cases hv) (fun k2 hk2 H locs q ce T q1 q2 q3 => ?_)
      obtain rfl : 1 = k2 := by cases hk2; rfl
      refine vx_catch (name := "java/lang/IllegalStateException") hown [] ⟨0, 4, 5, 23⟩ [] htab (fun _ h => absurd h List.not_mem_nil) (by decide) (by decide) (hts _ (List.mem_of_getElem? (i := 1) rfl)) (va_Nw.use rfl (hK.2 _ (List.mem_of_getElem? (i := 13) rfl))) q1 q2 q3 ?_
      refine lv_astore_n (lv' := [(1, .ref q), (0, .ref (ad 0))]) hx hb dL_takeBack_5 rfl hl (by decide) rfl (fun ls hl => ?_)
      refine lv_ldc (v := (-99999)) hx hb hown (hts _ (List.mem_of_getElem? (i := 2) rfl)) dL_takeBack_6 ?_
      exact W.iret hx hb hr (fun t ht _ => qg_end T ht) T.2.2.2.2 dL_takeBack_8 hlk
    · skip
      exact absurd hw (by simp [wkv, h1])

noncomputable def fL_worth (S : SC) (x1 : Int32) : Option (Int32 × SC) := ctch [(0, (-99999)), (1, (-99998))] (fX3_worth S x1)
set_option maxHeartbeats 4000000 in
set_option maxRecDepth 100000 in
theorem kL_worth (l : Launch) (hfl : l.stackTraces = false) (t1 t2 : Nat) (D : va_G) (cy : Nat → ClassId) (ad : Nat → Nat) (Xr : va_W) (S : SC) (x1 : Int32) (r : Int32 × SC) (hf : fL_worth S x1 = some r) : CL l t1 t2 D cy (wC cy ad Xr) yL_worth wsL_worth ({ frames := 162, cells := 2, slots := 12, locals := 8047 } : Room) [.ref (ad 0), .int x1] S (some (.int r.1)) r.2 := by
  refine CL.ofT (cc := cL_worth) (maxL := 3) (ret := (some .int)) (by decide +kernel) rfl (Nat.le_of_ble_eq_true rfl) ?_
  intro p e s m below meth c A ls X hr T hl hX htab hN
  obtain ⟨hx, hb, hml, hown, hts, hlk, hK, hA, hwA⟩ := id X
  have hl : lv_has ls 3 [(0, .ref (ad 0)), (1, .int x1)] := hl
  have htab : c.exceptionTable.toList = [⟨0, 5, 6, 14⟩, ⟨0, 5, 10, 23⟩] := htab
  refine lv_aload_n hx hb dL_worth_0 rfl (lv_at hl 0 rfl) ?_
  refine lv_iload_n hx hb dL_worth_1 rfl (lv_at hl 1 rfl) ?_
  obtain ⟨k, S1⟩ := r
  obtain ⟨r0, h0, hk⟩ := ctch_inv hf
  rcases hk with hk | ⟨e9, hk, hw⟩
  · subst hk
    refine ct_Vi (v := some (.int k)) (q0 := 15) (ci := 3) (As := [.int x1]) (rest := []) X hX T (kX3_worth l hfl t1 t2 D cy ad Xr S x1 (.inl k, S1) h0) (cwV 1 hts gL_worth_X3_worth rfl rfl rfl (by decide +kernel) ⟨(Nat.le_of_ble_eq_true rfl), (Nat.le_of_ble_eq_true rfl)⟩) rfl rfl rfl hl.1 rfl (Nat.le_of_ble_eq_true rfl) dL_worth_2 ⟨(Nat.le_of_ble_eq_true rfl), (Nat.le_of_ble_eq_true rfl)⟩ (st2 := [.int k]) (pc2 := 5) (c2 := 2) (s2 := 12) rfl rfl rfl rfl (fun H locs T => ?_)
    exact W.iret hx hb hr (fun t ht _ => qg_end T ht) T.2.2.2.2 dL_worth_5 hlk
  · subst hk
    by_cases h1 : e9 = 0
    · subst h1
      obtain rfl : ((-99999) : Int32) = k := by simpa [wkv] using hw
      refine ct_V (q0 := 15) (ci := 3) (As := [.int x1]) (rest := []) X hX T (kX3_worth l hfl t1 t2 D cy ad Xr S x1 (.inr 0, S1) h0) (cwV 1 hts gL_worth_X3_worth rfl rfl rfl (by decide +kernel) ⟨(Nat.le_of_ble_eq_true rfl), (Nat.le_of_ble_eq_true rfl)⟩) rfl rfl rfl hl.1 rfl (Nat.le_of_ble_eq_true rfl) dL_worth_2 ⟨(Nat.le_of_ble_eq_true rfl), (Nat.le_of_ble_eq_true rfl)⟩ (fun v hv => by cases hv) (fun k2 hk2 H locs q ce T q1 q2 q3 => ?_)
      obtain rfl : 0 = k2 := by cases hk2; rfl
      refine vx_catch (name := "java/lang/IllegalArgumentException") hown [] ⟨0, 5, 6, 14⟩ [⟨0, 5, 10, 23⟩] htab (fun _ h => absurd h List.not_mem_nil) (by decide) (by decide) (hts _ (List.mem_of_getElem? (i := 1) rfl)) (va_Nw.use rfl (hK.2 _ (List.mem_of_getElem? (i := 12) rfl))) q1 q2 q3 ?_
      refine lv_astore_n (lv' := [(2, .ref q), (0, .ref (ad 0)), (1, .int x1)]) hx hb dL_worth_6 rfl hl (by decide) rfl (fun ls hl => ?_)
      refine lv_ldc (v := (-99999)) hx hb hown (hts _ (List.mem_of_getElem? (i := 3) rfl)) dL_worth_7 ?_
      exact W.iret hx hb hr (fun t ht _ => qg_end T ht) T.2.2.2.2 dL_worth_9 hlk
    · skip
      by_cases h2 : e9 = 1
      · subst h2
        obtain rfl : ((-99998) : Int32) = k := by simpa [wkv] using hw
        refine ct_V (q0 := 15) (ci := 3) (As := [.int x1]) (rest := []) X hX T (kX3_worth l hfl t1 t2 D cy ad Xr S x1 (.inr 1, S1) h0) (cwV 1 hts gL_worth_X3_worth rfl rfl rfl (by decide +kernel) ⟨(Nat.le_of_ble_eq_true rfl), (Nat.le_of_ble_eq_true rfl)⟩) rfl rfl rfl hl.1 rfl (Nat.le_of_ble_eq_true rfl) dL_worth_2 ⟨(Nat.le_of_ble_eq_true rfl), (Nat.le_of_ble_eq_true rfl)⟩ (fun v hv => by cases hv) (fun k2 hk2 H locs q ce T q1 q2 q3 => ?_)
        obtain rfl : 1 = k2 := by cases hk2; rfl
        refine vx_catch (name := "java/lang/IllegalStateException") hown [⟨0, 5, 6, 14⟩] ⟨0, 5, 10, 23⟩ [] htab (List.forall_mem_cons.mpr ⟨Or.inr ⟨by decide, "java/lang/IllegalArgumentException", (hts _ (List.mem_of_getElem? (i := 1) rfl)), hN _ (List.mem_of_getElem? (i := 2) rfl)⟩, fun _ h => absurd h List.not_mem_nil⟩) (by decide) (by decide) (hts _ (List.mem_of_getElem? (i := 2) rfl)) (va_Nw.use rfl (hK.2 _ (List.mem_of_getElem? (i := 13) rfl))) q1 q2 q3 ?_
        refine lv_astore_n (lv' := [(2, .ref q), (0, .ref (ad 0)), (1, .int x1)]) hx hb dL_worth_10 rfl hl (by decide) rfl (fun ls hl => ?_)
        refine lv_ldc (v := (-99998)) hx hb hown (hts _ (List.mem_of_getElem? (i := 4) rfl)) dL_worth_11 ?_
        exact W.iret hx hb hr (fun t ht _ => qg_end T ht) T.2.2.2.2 dL_worth_13 hlk
      · skip
        exact absurd hw (by simp [wkv, h1, h2])
