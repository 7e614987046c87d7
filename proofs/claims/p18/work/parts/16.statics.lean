/-! the class's tables, the texts of its exceptions, and what the machine's own classes hold: beside a world whose cells lie in A -/
def dnD (j : Nat) : Int32 := ([-1, -1, -1, 0, 0, 1, 1, 1] : List Int32).getD j 0
def dnA (j : Nat) : Int32 := ([-1, 0, 1, -1, 1, -1, 0, 1] : List Int32).getD j 0
def texts : List (Nat × String) := [(40, "rows or columns out of range"), (45, "builders out of range, or they leave no cell free"), (47, "power out of range"), (67, "no builder can be placed there now"), (77, "height out of range"), (83, "the height cannot be set there now"), (110, "no such place"), (119, "no such turn now"), (124, "no turn is left"), (140, "no such player"), (145, "no such cell"), (147, "not all builders are placed"), (149, "turns out of range"), (151, "the game is over"), (153, "the board is too large to look so far ahead")]
def SX (t1 t2 : Nat) (A : Nat → Prop) (U : State) (H : Heap) : Prop :=
  va_Z RX0 "DOWN" "[I" (.ref t1) A U H ∧ va_Z RX0 "ACROSS" "[I" (.ref t2) A U H ∧ va_T .int t1 8 (fun j => .int (dnD j)) A U H ∧ va_T .int t2 8 (fun j => .int (dnA j)) A U H ∧
  vx_Zq Bundle.tN "UNASSIGNED_STACK" Bundle.steD A U H ∧ vx_Zq Bundle.tN "SUPPRESSED_SENTINEL" Bundle.listD A U H ∧ ∀ q ∈ texts, ∃ a, vk_R RX3 q.1 q.2 a U
theorem SX.pass {t1 t2 : Nat} {A B : Nat → Prop} {s U : State} {H : Heap} {locs : List Loc} (h : SX t1 t2 A s s.heap) (hS : va_S A s.heap H locs) (hW : s.WarmedH U.vm) (hB : ∀ q, B q → A q) : SX t1 t2 B U H := by
  obtain ⟨h1, h2, h3, h4, h5, h6, h7⟩ := h
  exact ⟨((h1.moved hW.alike).kept hS.2.1).narrow hB, ((h2.moved hW.alike).kept hS.2.1).narrow hB, ((h3.moved hW.alike).kept hS.2.1).narrow hB, ((h4.moved hW.alike).kept hS.2.1).narrow hB, ((h5.moved hW.alike).kept hS.2.1).narrow hB, ((h6.moved hW.alike).kept hS.2.1).narrow hB, fun q hq => (h7 q hq).imp fun a ha => ha.warm hW⟩
theorem SX.same {t1 t2 : Nat} {A : Nat → Prop} {u U : State} {H : Heap} (hv : U.vm = u.vm) (h : SX t1 t2 A u H) : SX t1 t2 A U H := by
  obtain ⟨h1, h2, h3, h4, h5, h6, h7⟩ := h
  have hA : u.vm.Alike U.vm := by rw [hv]; exact Vm.Alike.refl u.vm
  exact ⟨h1.moved hA, h2.moved hA, h3.moved hA, h4.moved hA, h5.moved hA, h6.moved hA, fun q hq => (h7 q hq).imp fun a ha => ha.same hv⟩
/-- a contract of a method that needs them -/
def PGs {σ : Type} (t1 t2 : Nat) (D : va_G) (cy : Nat → ClassId) (w : σ → va_W) (sz : Nat) (av : List Value) (S : σ) : Array Value → State → Prop := va_Pc av (fun U => U.heap.size = sz ∧ PW D w S U.heap ∧ KX D cy U ∧ SX t1 t2 (AW w sz) U U.heap)
theorem PGs_blind {σ : Type} {t1 t2 : Nat} {D : va_G} {cy : Nat → ClassId} {w : σ → va_W} {sz : Nat} {av : List Value} {S : σ} : FrameBlind (PGs t1 t2 D cy w sz av S) := by
  intro a U g mk ⟨h1, h2, h3, h4, h5⟩
  exact ⟨h1, h2, h3, KX.same (u := U) (U := U.calling g mk a) rfl h4, SX.same (u := U) (U := U.calling g mk a) rfl h5⟩
def CGs {σ : Type} (l : Launch) (t1 t2 : Nat) (D : va_G) (cy : Nat → ClassId) (w : σ → va_W) (y : MethodName) (ws : List Cond) (rm : Room) (av : List Value) (S : σ) (v : Option Value) (S' : σ) : Prop :=
  ∀ sz : Nat, Met l y ws rm (PGs t1 t2 D cy w sz av S) (QG D w (AW w sz) v S') 0 0 (AW w sz)
theorem CGs.of {σ : Type} {l : Launch} {t1 t2 : Nat} {D : va_G} {cy : Nat → ClassId} {w : σ → va_W} {y : MethodName} {ws ws' : List Cond} {rm : Room} {av : List Value} {S S' : σ} {v : Option Value} {cc : ByteArray} {maxL : Nat} {ret : Option FieldType}
    (hy : plainName y.cls = true) (hw : ws = Cond.code y cc maxL ret :: ws') (hent : (lg_sl av).length ≤ maxL)
    (body : ∀ (p : Program) (e : Env) (s : State) (m : MethodId) (below : List Frame) (meth : Method) (c : Code) (A : Nat → Prop) (ls : Array Slot), CX p s m av.toArray meth c cc maxL y.cls ws D cy w A → meth.sig.returnType = ret → ST D w A s S s.heap [] → lv_has ls maxL (lv_args 0 av) → SX t1 t2 A s s.heap →
      W p l e rm s m av.toArray below meth c s.heap [] 0 0 (MQ below (QG D w A v S') av.toArray s 0 0 A) (F0 m 0 ls [])) : CGs l t1 t2 D cy w y ws rm av S v S' := by
  intro sz
  refine Met.ofW (cc := cc) (maxL := maxL) (ret := ret) hy hw ?_
  intro p e s m args below meth c s₁ B hml hv
  obtain ⟨rfl, hsz, ⟨hP, hD0⟩, hK, hX⟩ := hv
  subst hsz
  have hwA : ∀ (S : σ) (k : Nat) (q : Nat × va_E), (w S)[k]? = some q → AW w s.heap.size q.1 := fun S k q h => Or.inl ⟨S, k, q.2, h⟩
  rw [lg_entry_eq]
  exact body p e s m below meth c (AW w s.heap.size) _ ⟨B.exec, B.bytes, hml, findClass_of_methodNamed B.named, atoms_spec (ws := ws) B.pre, B.notSynchronized, hK, fun q h => Or.inr h, hwA⟩ B.returns ⟨hP, ⟨hD0.1, fun k q h => hwA S k q h⟩, va_S.rf⟩ (lv_entry av hent) hX
section GOS
variable {p : Program} {l : Launch} {e : Env} {R : Room} {s : State} {m : MethodId} {args : Array Value} {below : List Frame} {meth : Method} {c : Code} {H : Heap} {locs : List Loc} {cells slots : Nat} {Q : State → Prop}
variable {D : va_G} {cy : Nat → ClassId} {σ : Type} {w : σ → va_W} {A : Nat → Prop} {pc nL t1 t2 : Nat} {ls : Array Slot} {rest st : List Value} {S S' : σ} {v : Option Value} {a : Array Value} {cc : ByteArray} {own : String} {Ts : List Cond}
theorem AW_in (X : CX p s m args meth c cc nL own Ts D cy w A) (T : ST D w A s S H locs) : ∀ q, AW w H.size q → A q := fun q hq => hq.elim (fun ⟨S9, k, e9, h9⟩ => X.2.2.2.2.2.2.2.2 S9 k (q, e9) h9) (fun h9 => X.2.2.2.2.2.2.2.1 q (Nat.le_trans T.2.2.1 h9))
theorem PGs_of {av : List Value} (X : CX p s m args meth c cc nL own Ts D cy w A) (hX : SX t1 t2 A s s.heap) (T : ST D w A s S H locs) (U : State) (hU : U.heap = H) (hW : s.WarmedH U.vm) : PGs t1 t2 D cy w H.size av S av.toArray U :=
  ⟨rfl, by rw [hU], ⟨by rw [hU]; exact T.1, T.2.1.weaken (fun _ _ _ _ => trivial)⟩, KX.warm hW X.2.2.2.2.2.2.1, by rw [hU]; exact hX.pass T.2.2 hW (AW_in X T)⟩
theorem cgs_V {y : MethodName} {ws : List Cond} {rm : Room} {As : List Value} {C : String} {index n maxL q0 ci b : Nat} {bytes : ByteArray} {ret : Option FieldType} {TT : u_T} {NN : Nat} {fs : List Value}
    (X : CX p s m args meth c cc nL own Ts D cy w A) (hX : SX t1 t2 A s s.heap) (T : ST D w A s S H locs) (hM : CGs l t1 t2 D cy w y ws rm (.ref b :: As) S v S') (cw : CallW R s args own C index y bytes maxL ret ws rm 0 0 n)
    (he : (w S)[q0]? = some (b, .inr (ci, fs))) (hc : vwCl[ci]? = some (C, TT, NN)) (hn : As.length = n) (hsz : ls.size = nL) (hst : st = As.reverse ++ .ref b :: rest) (hroom : (rest.map fun v => v.category).sum ≤ 8) (hdg : decode cc pc = .ok (.invokevirtual index, 3)) (hcs : cells ≤ R.cells ∧ slots ≤ R.slots)
    {st2 : List Value} {pc2 : Nat} (h2 : v.toList ++ rest = st2) (h3 : pc + 3 = pc2) (kk : ∀ (H1 : Heap) (locs1 : List Loc), ST D w A s S' H1 locs1 → W p l e R s m args below meth c H1 locs1 cells slots Q (F0 m pc2 ls st2)) : W p l e R s m args below meth c H locs cells slots Q (F0 m pc ls st) :=
  cg_go X (va_runV (As := As) (rest := rest) ⟨X.1, X.2.1, X.2.2.1, X.2.2.2.1, X.2.2.2.2.1⟩ (hM H.size) cw ⟨PGs_blind, va_recv X.2.2.2.2.2.2.1.1 T.1 hc he, PGs_of X hX T⟩ rfl hn hsz hst (lv_room hroom) hdg hcs) T (fun H1 locs1 T1 => by rw [h2, h3]; exact kk H1 locs1 T1)
/-- a call of a private method of another class of the nest -/
theorem cg_VN {y : MethodName} {ws : List Cond} {rm : Room} {As : List Value} {C host : String} {index n maxL q0 ci b : Nat} {bytes : ByteArray} {ret : Option FieldType} {TT : u_T} {NN : Nat} {fs : List Value}
    (X : CX p s m args meth c cc nL own Ts D cy w A) (T : ST D w A s S H locs) (hM : CG l D cy w y ws rm (.ref b :: As) S v S') (cw : va_CN R s args own index y host bytes maxL ret ws rm 0 0 n) (hin : (Cond.instanceMethod y).before args s = true) (hse : (Cond.selects C y y).before args s = true)
    (he : (w S)[q0]? = some (b, .inr (ci, fs))) (hc : vwCl[ci]? = some (C, TT, NN)) (hn : As.length = n) (hsz : ls.size = nL) (hst : st = As.reverse ++ .ref b :: rest) (hroom : (rest.map fun v => v.category).sum ≤ 8) (hdg : decode cc pc = .ok (.invokevirtual index, 3)) (hcs : cells ≤ R.cells ∧ slots ≤ R.slots)
    {st2 : List Value} {pc2 : Nat} (h2 : v.toList ++ rest = st2) (h3 : pc + 3 = pc2) (kk : ∀ (H1 : Heap) (locs1 : List Loc), ST D w A s S' H1 locs1 → W p l e R s m args below meth c H1 locs1 cells slots Q (F0 m pc2 ls st2)) : W p l e R s m args below meth c H locs cells slots Q (F0 m pc ls st) :=
  cg_go X (va_runVN (As := As) (rest := rest) ⟨X.1, X.2.1, X.2.2.1, X.2.2.2.1, X.2.2.2.2.1⟩ (hM H.size) ⟨cw, hin, hse⟩ ⟨PG_blind, va_recv X.2.2.2.2.2.2.1.1 T.1 hc he, PG_of X T⟩ rfl hn hsz hst (lv_room hroom) hdg hcs) T (fun H1 locs1 T1 => by rw [h2, h3]; exact kk H1 locs1 T1)
end GOS
