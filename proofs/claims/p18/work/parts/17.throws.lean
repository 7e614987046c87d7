/-! methods that return or throw: IllegalArgumentException 0, IllegalStateException 1, IndexOutOfBoundsException 2 -/
def exn (k : Nat) : String := match k with | 0 => "java/lang/IllegalArgumentException" | 1 => "java/lang/IllegalStateException" | _ => "java/lang/IndexOutOfBoundsException"
def resI (r : Int32 ⊕ Nat) : Option Value ⊕ Nat := match r with | .inl v => .inl (some (.int v)) | .inr k => .inr k
def resU (r : Unit ⊕ Nat) : Option Value ⊕ Nat := match r with | .inl _ => .inl none | .inr k => .inr k
def QN {σ : Type} (D : va_G) (w : σ → va_W) (A : Nat → Prop) (res : Option Value ⊕ Nat) (S' : σ) : Array Value → State → Outcome → State → Prop := fun _ st oc t => (∃ v, res = .inl v ∧ oc = .returned v) ∧ PW D w S' t.heap ∧ va_F A st t
def XN {σ : Type} (D : va_G) (w : σ → va_W) (A : Nat → Prop) (res : Option Value ⊕ Nat) (S' : σ) : String → State → State → Prop := fun E st t => (∃ k, res = .inr k ∧ E = exn k) ∧ PW D w S' t.heap ∧ va_F A st t
def CT {σ : Type} (l : Launch) (t1 t2 : Nat) (D : va_G) (cy : Nat → ClassId) (w : σ → va_W) (y : MethodName) (ws : List Cond) (rm : Room) (av : List Value) (S : σ) (res : Option Value ⊕ Nat) (S' : σ) : Prop :=
  ∀ sz : Nat, vx_Met l y ws rm (PGs t1 t2 D cy w sz av S) (QN D w (AW w sz) res S') (XN D w (AW w sz) res S') rm.cells rm.slots (AW w sz)
theorem CT.of {σ : Type} {l : Launch} {t1 t2 : Nat} {D : va_G} {cy : Nat → ClassId} {w : σ → va_W} {y : MethodName} {ws ws' : List Cond} {rm : Room} {av : List Value} {S S' : σ} {res : Option Value ⊕ Nat} {cc : ByteArray} {maxL : Nat} {ret : Option FieldType}
    (hy : plainName y.cls = true) (hw : ws = Cond.code y cc maxL ret :: ws') (hent : (lg_sl av).length ≤ maxL)
    (body : ∀ (p : Program) (e : Env) (s : State) (m : MethodId) (below : List Frame) (meth : Method) (c : Code) (A : Nat → Prop) (ls : Array Slot), CX p s m av.toArray meth c cc maxL y.cls ws D cy w A → meth.sig.returnType = ret → ST D w A s S s.heap [] → lv_has ls maxL (lv_args 0 av) → SX t1 t2 A s s.heap → (∀ x ∈ c.exceptionTable.toList, False) →
      W p l e rm s m av.toArray below meth c s.heap [] 0 0 (vx_MQ below (QN D w A res S') (XN D w A res S') av.toArray s rm.cells rm.slots A) (F0 m 0 ls [])) : CT l t1 t2 D cy w y ws rm av S res S' := by
  intro sz
  refine vx_ofW (cc := cc) (maxL := maxL) (ret := ret) hy hw ?_
  intro p e s m args below meth c s₁ B hml htab hv
  obtain ⟨rfl, hsz, ⟨hP, hD0⟩, hK, hX⟩ := hv
  subst hsz
  have hwA : ∀ (S : σ) (k : Nat) (q : Nat × va_E), (w S)[k]? = some q → AW w s.heap.size q.1 := fun S k q h => Or.inl ⟨S, k, q.2, h⟩
  rw [lg_entry_eq]
  exact body p e s m below meth c (AW w s.heap.size) _ ⟨B.exec, B.bytes, hml, findClass_of_methodNamed B.named, atoms_spec (ws := ws) B.pre, B.notSynchronized, hK, fun q h => Or.inr h, hwA⟩ B.returns ⟨hP, ⟨hD0.1, fun k q h => hwA S k q h⟩, va_S.rf⟩ (lv_entry av hent) hX htab
section GOT
variable {p : Program} {l : Launch} {e : Env} {R : Room} {s : State} {m : MethodId} {args : Array Value} {below : List Frame} {meth : Method} {c : Code} {H : Heap} {locs : List Loc} {cells slots mc ms : Nat} {Q : State → Prop}
variable {D : va_G} {cy : Nat → ClassId} {σ : Type} {w : σ → va_W} {A : Nat → Prop} {pc nL t1 t2 : Nat} {ls : Array Slot} {rest st : List Value} {S S' : σ} {v : Option Value} {a : Array Value} {cc : ByteArray} {own : String} {Ts : List Cond} {res : Option Value ⊕ Nat}
theorem ST.moved {H1 : Heap} {L : List Loc} {t : State} (X : CX p s m args meth c cc nL own Ts D cy w A) (T : ST D w A s S H locs) (hp : PW D w S' t.heap) (hz : H.size ≤ t.heap.size) (hk : ∀ q : Nat, q < H.size → ¬ AW w H.size q → t.heap[q]? = H[q]?) (hL : ∀ q ∈ L, AW w H.size q.base) (e1 : H1 = t.heap) : ST D w A s S' H1 (locs ++ L) := by
  subst e1
  have hAW := AW_in X T
  exact ST.back X hp ⟨Nat.le_trans T.2.2.1 hz, fun q h1 h2 => by rw [hk q (Nat.lt_of_lt_of_le h1 T.2.2.1) (fun z => h2 (hAW q z))]; exact T.2.2.2.1 q h1 h2, fun q hq => by
      rcases List.mem_append.mp hq with h | h
      · exact T.2.2.2.2 q h
      · exact hAW _ (hL q h)⟩
theorem ct_go (X : CX p s m args meth c cc nL own Ts D cy w A) (hr : vx_Run p l e R s m args below meth c H locs cells slots mc ms (F0 m pc ls st) rest (QN D w (AW w H.size) res S' a) (XN D w (AW w H.size) res S') (AW w H.size)) (T : ST D w A s S H locs)
    (kk : ∀ v, res = .inl v → ∀ (H1 : Heap) (locs1 : List Loc), ST D w A s S' H1 locs1 → W p l e R s m args below meth c H1 locs1 (cells + mc) (slots + ms) Q (F0 m (pc + 3) ls (v.toList ++ rest)))
    (kx : ∀ k, res = .inr k → ∀ (H1 : Heap) (locs1 : List Loc) (q : Nat) (ce : Cell), ST D w A s S' H1 locs1 → H1[q]? = some ce → ce.vm = .none → s.vm.findClass (exn k) = some ce.cls → vx_W p l e R s m args below meth c H1 locs1 (cells + mc) (slots + ms) Q (F0 m pc ls rest) q) :
    W p l e R s m args below meth c H locs cells slots Q (F0 m pc ls st) := by
  intro T0 hT X0
  rcases hr T0 hT X0 with ⟨v, st₀, t, T', L, h0, X', hL, e1, e2, ⟨⟨v', hv, hvr⟩, hp, hz, hk⟩, stp⟩ | ⟨q, st₀, t, T', L, E, ce, h0, X', hL, e1, e2, ⟨⟨k, hv, hE⟩, hp, hz, hk⟩, hce, hcv, hcl, stp⟩
  · cases hvr
    rw [h0] at hz hk
    obtain ⟨t2, a1, b1⟩ := kk _ hv T'.heap (locs ++ L) (ST.moved X T hp hz hk hL e1) T' rfl X'
    exact ⟨t2, stp t2 a1, b1⟩
  · subst hE
    rw [h0] at hz hk
    obtain ⟨t2, a1, b1⟩ := kx k hv T'.heap (locs ++ L) q ce (ST.moved X T hp hz hk hL e1) (by rw [e1]; exact hce) hcv hcl T' rfl X'
    exact ⟨t2, stp.trans a1, b1⟩
theorem ct_V {y : MethodName} {ws : List Cond} {rm : Room} {As : List Value} {C : String} {index n maxL q0 ci b : Nat} {bytes : ByteArray} {ret : Option FieldType} {TT : u_T} {NN : Nat} {fs : List Value}
    (X : CX p s m args meth c cc nL own Ts D cy w A) (hX : SX t1 t2 A s s.heap) (T : ST D w A s S H locs) (hM : CT l t1 t2 D cy w y ws rm (.ref b :: As) S res S') (cw : CallW R s args own C index y bytes maxL ret ws rm rm.cells rm.slots n)
    (he : (w S)[q0]? = some (b, .inr (ci, fs))) (hc : vwCl[ci]? = some (C, TT, NN)) (hn : As.length = n) (hsz : ls.size = nL) (hst : st = As.reverse ++ .ref b :: rest) (hroom : (rest.map fun v => v.category).sum ≤ 8) (hdg : decode cc pc = .ok (.invokevirtual index, 3)) (hcs : cells + rm.cells ≤ R.cells ∧ slots + rm.slots ≤ R.slots)
    (kk : ∀ v, res = .inl v → ∀ (H1 : Heap) (locs1 : List Loc), ST D w A s S' H1 locs1 → W p l e R s m args below meth c H1 locs1 (cells + rm.cells) (slots + rm.slots) Q (F0 m (pc + 3) ls (v.toList ++ rest)))
    (kx : ∀ k, res = .inr k → ∀ (H1 : Heap) (locs1 : List Loc) (q : Nat) (ce : Cell), ST D w A s S' H1 locs1 → H1[q]? = some ce → ce.vm = .none → s.vm.findClass (exn k) = some ce.cls → vx_W p l e R s m args below meth c H1 locs1 (cells + rm.cells) (slots + rm.slots) Q (F0 m pc ls rest) q) :
    W p l e R s m args below meth c H locs cells slots Q (F0 m pc ls st) :=
  ct_go X (vx_runV (As := As) (rest := rest) ⟨X.1, X.2.1, X.2.2.1, X.2.2.2.1, X.2.2.2.2.1⟩ (hM H.size) cw ⟨PGs_blind, va_recv X.2.2.2.2.2.2.1.1 T.1 hc he, PGs_of X hX T⟩ rfl hn hsz hst (lv_room hroom) hdg hcs) T kk kx
/-- the callee returns -/
theorem ct_Vi {y : MethodName} {ws : List Cond} {rm : Room} {As : List Value} {C : String} {index n maxL q0 ci b : Nat} {bytes : ByteArray} {ret : Option FieldType} {TT : u_T} {NN : Nat} {fs : List Value}
    (X : CX p s m args meth c cc nL own Ts D cy w A) (hX : SX t1 t2 A s s.heap) (T : ST D w A s S H locs) (hM : CT l t1 t2 D cy w y ws rm (.ref b :: As) S (.inl v) S') (cw : CallW R s args own C index y bytes maxL ret ws rm rm.cells rm.slots n)
    (he : (w S)[q0]? = some (b, .inr (ci, fs))) (hc : vwCl[ci]? = some (C, TT, NN)) (hn : As.length = n) (hsz : ls.size = nL) (hst : st = As.reverse ++ .ref b :: rest) (hroom : (rest.map fun v => v.category).sum ≤ 8) (hdg : decode cc pc = .ok (.invokevirtual index, 3)) (hcs : cells + rm.cells ≤ R.cells ∧ slots + rm.slots ≤ R.slots)
    {st2 : List Value} {pc2 c2 s2 : Nat} (h2 : v.toList ++ rest = st2) (h3 : pc + 3 = pc2) (h4 : cells + rm.cells = c2) (h5 : slots + rm.slots = s2) (kk : ∀ (H1 : Heap) (locs1 : List Loc), ST D w A s S' H1 locs1 → W p l e R s m args below meth c H1 locs1 c2 s2 Q (F0 m pc2 ls st2)) :
    W p l e R s m args below meth c H locs cells slots Q (F0 m pc ls st) :=
  ct_V X hX T hM cw he hc hn hsz hst hroom hdg hcs (fun v1 hv H1 locs1 T1 => by cases hv; rw [h2, h3, h4, h5]; exact kk H1 locs1 T1) (fun k hk => by cases hk)
/-- the callee throws, and it goes on to the caller -/
theorem ct_Vx {y : MethodName} {ws : List Cond} {rm : Room} {As : List Value} {C : String} {index n maxL q0 ci b k : Nat} {bytes : ByteArray} {ret : Option FieldType} {TT : u_T} {NN : Nat} {fs : List Value}
    (X : CX p s m args meth c cc nL own Ts D cy w A) (hX : SX t1 t2 A s s.heap) (T : ST D w A s S H locs) (hM : CT l t1 t2 D cy w y ws rm (.ref b :: As) S (.inr k) S') (cw : CallW R s args own C index y bytes maxL ret ws rm rm.cells rm.slots n)
    (he : (w S)[q0]? = some (b, .inr (ci, fs))) (hc : vwCl[ci]? = some (C, TT, NN)) (hn : As.length = n) (hsz : ls.size = nL) (hst : st = As.reverse ++ .ref b :: rest) (hroom : (rest.map fun v => v.category).sum ≤ 8) (hdg : decode cc pc = .ok (.invokevirtual index, 3)) (hcs : cells + rm.cells ≤ R.cells ∧ slots + rm.slots ≤ R.slots)
    (htab : ∀ x ∈ c.exceptionTable.toList, False) (hmc : cells + rm.cells ≤ mc) (hms : slots + rm.slots ≤ ms) :
    W p l e R s m args below meth c H locs cells slots (vx_MQ below (QN D w A (.inr k) S') (XN D w A (.inr k) S') args s mc ms A) (F0 m pc ls st) :=
  ct_V X hX T hM cw he hc hn hsz hst hroom hdg hcs (fun v1 hv => by cases hv) (fun k1 hk H1 locs1 q ce T1 h1 h2 h3 => by
    cases hk
    exact vx_out (fun x hx => absurd hx (htab x)) X.2.2.2.2.2.1 h1 h2 h3 (fun t ht _ => ⟨⟨k, rfl, rfl⟩, ⟨by rw [ht]; exact T1.1, T1.2.1.weaken (fun _ _ _ _ => trivial)⟩, T1.2.2.F ht⟩) T1.2.2.2.2 hmc hms)
/-- 'throw new E("text")' -/
theorem thr_S {ik is ic k : Nat} {text cls : String} (X : CX p s m args meth c cc nL RX3 Ts D cy w A) (hX : SX t1 t2 A s s.heap) (T : ST D w A s S H locs) (hfl : l.stackTraces = false) (htab : ∀ x ∈ c.exceptionTable.toList, False) (hcls : cls = exn k)
    (hcf : Bundle.fit cls = true) (hk : (Cond.classLink RX3 ik cls).before args s = true) (hini : (Cond.initialized cls).before args s = true) (htx : (is, text) ∈ texts)
    (h1 : ∀ w ∈ (vx_atS RX3 ic cls ["java/lang/RuntimeException", "java/lang/Exception"]).filter goodWord, w.before args s = true) (h2 : ∀ w ∈ (vx_atS RX3 ic cls ["java/lang/RuntimeException", "java/lang/Exception"]).filter (fun w => !goodWord w), w ∈ nestW)
    (hgood : ∀ w ∈ Cond.classLink RX3 ik cls :: Cond.initialized cls :: vx_atS RX3 ic cls ["java/lang/RuntimeException", "java/lang/Exception"], vx_ot w = true) (hsize : ls.size = nL)
    (d0 : decode cc pc = .ok (.new ik, 3)) (d3 : decode cc (pc + 3) = .ok (.dup, 1)) (d4 : decode cc (pc + 4) = .ok (.ldc is, 2)) (d6 : decode cc (pc + 6) = .ok (.invokespecial ic, 3)) (d9 : decode cc (pc + 9) = .ok (.athrow, 1))
    (hfr : 5 < R.frames) (hlo : (rest.map fun v => v.category).sum + 82 ≤ R.locals) (hc : cells + 1 ≤ R.cells) (hs : slots + 6 ≤ R.slots) (hmc : cells + 1 ≤ mc) (hms : slots + 6 ≤ ms) :
    W p l e R s m args below meth c H locs cells slots (vx_MQ below (QN D w A (.inr k) S) (XN D w A (.inr k) S) args s mc ms A) (F0 m pc ls rest) := by
  obtain ⟨sa, hsa⟩ := hX.2.2.2.2.2.2 _ htx
  refine vx_throwS (names := ["java/lang/RuntimeException", "java/lang/Exception"]) (sa := sa) X.1 X.2.1 hfl X.2.2.2.1 hcf (by decide +kernel) hk hini hsa (vx_hat h1 h2 (fun w hw => va_Nw.use ?_ (X.2.2.2.2.2.2.1.2 w hw))) hgood hX.2.2.2.2.1 hX.2.2.2.2.2.1 T.2.2 (hsize.trans X.2.2.1.symm) d0 d3 d4 d6 d9 (fun x hx => absurd hx (htab x)) hfr hlo hc hs X.2.2.2.2.2.1 ?_ T.2.2.2.2 hmc hms
  · revert w hw
    show ∀ w ∈ nestW, w.onTables = true
    decide +kernel
  · intro t hvm hz hq
    refine ⟨⟨k, rfl, hcls⟩, ⟨T.1.kept (fun i q hi => hq q.1 ((T.1 i q hi).lt)), T.2.1.weaken (fun _ _ _ _ => trivial)⟩, Nat.le_trans T.2.2.1 hz, fun q h3 h4 => ?_⟩
    rw [hq q (Nat.lt_of_lt_of_le h3 T.2.2.1)]
    exact T.2.2.2.1 q h3 h4
theorem tn_end {t : State} (T : ST D w A s S H locs) (ht : t.heap = H) : QN D w A (.inl v) S args s (.returned v) t :=
  ⟨⟨v, rfl, rfl⟩, ⟨by rw [ht]; exact T.1, T.2.1.weaken (fun _ _ _ _ => trivial)⟩, T.2.2.F ht⟩
theorem tr_i {x : Int32} (X : CX p s m args meth c cc nL own Ts D cy w A) (T : ST D w A s S H locs) (hr : meth.sig.returnType = some .int) (hdg : decode cc pc = .ok (.ireturn, 1)) (hc : cells ≤ mc) (hs : slots ≤ ms) : W p l e R s m args below meth c H locs cells slots (vx_MQ below (QN D w A (.inl (some (.int x))) S) (XN D w A (.inl (some (.int x))) S) args s mc ms A) (F0 m pc ls [.int x]) :=
  vx_ret (W.widen hc hs (W.iret X.1 X.2.1 hr (fun t ht _ => tn_end T ht) T.2.2.2.2 hdg X.2.2.2.2.2.1))
theorem tr_v (X : CX p s m args meth c cc nL own Ts D cy w A) (T : ST D w A s S H locs) (hr : meth.sig.returnType = none) (hdg : decode cc pc = .ok (.return_, 1)) (hc : cells ≤ mc) (hs : slots ≤ ms) : W p l e R s m args below meth c H locs cells slots (vx_MQ below (QN D w A (.inl none) S) (XN D w A (.inl none) S) args s mc ms A) (F0 m pc ls []) :=
  vx_ret (W.widen hc hs (W.vret X.1 X.2.1 hr (fun t ht _ => tn_end T ht) T.2.2.2.2 hdg X.2.2.2.2.2.1))
theorem qI {r x : Int32 ⊕ Nat} {g : JFrame} (h : r = x) (k : W p l e R s m args below meth c H locs cells slots (vx_MQ below (QN D w A (resI x) S) (XN D w A (resI x) S) args s mc ms A) g) : W p l e R s m args below meth c H locs cells slots (vx_MQ below (QN D w A (resI r) S) (XN D w A (resI r) S) args s mc ms A) g := by rw [h]; exact k
theorem qU {r x : Unit ⊕ Nat} {g : JFrame} (h : r = x) (k : W p l e R s m args below meth c H locs cells slots (vx_MQ below (QN D w A (resU x) S) (XN D w A (resU x) S) args s mc ms A) g) : W p l e R s m args below meth c H locs cells slots (vx_MQ below (QN D w A (resU r) S) (XN D w A (resU r) S) args s mc ms A) g := by rw [h]; exact k
theorem qIw {r : (Int32 ⊕ Nat) × σ} {x : Int32 ⊕ Nat} {g : JFrame} (h : r = (x, S)) (k : W p l e R s m args below meth c H locs cells slots (vx_MQ below (QN D w A (resI x) S) (XN D w A (resI x) S) args s mc ms A) g) : W p l e R s m args below meth c H locs cells slots (vx_MQ below (QN D w A (resI r.1) r.2) (XN D w A (resI r.1) r.2) args s mc ms A) g := by rw [h]; exact k
theorem tf_i {x : Int32} {r : Int32 ⊕ Nat} (hf : some (Sum.inl x) = some r) (X : CX p s m args meth c cc nL own Ts D cy w A) (T : ST D w A s S H locs) (hr : meth.sig.returnType = some .int) (hdg : decode cc pc = .ok (.ireturn, 1)) (hc : cells ≤ mc) (hs : slots ≤ ms) : W p l e R s m args below meth c H locs cells slots (vx_MQ below (QN D w A (resI r) S) (XN D w A (resI r) S) args s mc ms A) (F0 m pc ls [.int x]) := qI (Option.some.inj hf).symm (tr_i X T hr hdg hc hs)
theorem tf_iw {x : Int32} {r : (Int32 ⊕ Nat) × σ} (hf : some (Sum.inl x, S) = some r) (X : CX p s m args meth c cc nL own Ts D cy w A) (T : ST D w A s S H locs) (hr : meth.sig.returnType = some .int) (hdg : decode cc pc = .ok (.ireturn, 1)) (hc : cells ≤ mc) (hs : slots ≤ ms) : W p l e R s m args below meth c H locs cells slots (vx_MQ below (QN D w A (resI r.1) r.2) (XN D w A (resI r.1) r.2) args s mc ms A) (F0 m pc ls [.int x]) := qIw (Option.some.inj hf).symm (tr_i X T hr hdg hc hs)
theorem tf_v {x : Unit} {r : Unit ⊕ Nat} (hf : some (Sum.inl x) = some r) (X : CX p s m args meth c cc nL own Ts D cy w A) (T : ST D w A s S H locs) (hr : meth.sig.returnType = none) (hdg : decode cc pc = .ok (.return_, 1)) (hc : cells ≤ mc) (hs : slots ≤ ms) : W p l e R s m args below meth c H locs cells slots (vx_MQ below (QN D w A (resU r) S) (XN D w A (resU r) S) args s mc ms A) (F0 m pc ls []) := qU (Option.some.inj hf).symm (tr_v X T hr hdg hc hs)
end GOT
/-- on, if it returned; else out with the same -/
def bndx {α β : Type} (x : Option (α ⊕ Nat)) (k : α → Option (β ⊕ Nat)) : Option (β ⊕ Nat) := match x with | none => none | some (.inl y) => k y | some (.inr e) => some (.inr e)
theorem bndx_inv {α β : Type} {x : Option (α ⊕ Nat)} {k : α → Option (β ⊕ Nat)} {r : β ⊕ Nat} (h : bndx x k = some r) : (∃ y, x = some (.inl y) ∧ k y = some r) ∨ ∃ e, x = some (.inr e) ∧ r = .inr e := by
  match x, h with
  | some (.inl y), h => exact Or.inl ⟨y, rfl, h⟩
  | some (.inr e), h => exact Or.inr ⟨e, rfl, (Option.some.inj h).symm⟩
def bndxS {σ : Type} {α β : Type} (S : σ) (x : Option (α ⊕ Nat)) (k : α → Option ((β ⊕ Nat) × σ)) : Option ((β ⊕ Nat) × σ) := match x with | none => none | some (.inl y) => k y | some (.inr e) => some (.inr e, S)
theorem bndxS_inv {σ : Type} {α β : Type} {S : σ} {x : Option (α ⊕ Nat)} {k : α → Option ((β ⊕ Nat) × σ)} {r : (β ⊕ Nat) × σ} (h : bndxS S x k = some r) : (∃ y, x = some (.inl y) ∧ k y = some r) ∨ ∃ e, x = some (.inr e) ∧ r = (.inr e, S) := by
  match x, h with
  | some (.inl y), h => exact Or.inl ⟨y, rfl, h⟩
  | some (.inr e), h => exact Or.inr ⟨e, rfl, (Option.some.inj h).symm⟩
