/-! worlds that one value tells: a state is ints by their number and int rows by theirs -/
abbrev SC : Type := (Nat → Int32) × (Nat → Nat → Int32)
def setS (S : SC) (k : Nat) (v : Int32) : SC := (upd S.1 k v, S.2)
def setA (S : SC) (a : Nat) (i : Int32) (v : Int32) : SC := (S.1, fun j => if j = a then upd (S.2 j) i.toNatClampNeg v else S.2 j)
def tysW (cy : Nat → ClassId) : List (ClassId × FieldType) := [(cy 0, .int)]
/-- links between the classes of the nest -/
def nestW : List Cond := [.fieldLinkNest RX3 105 "Stormroof$TurnList" "size" "I" RX3, .fieldLinkNest RX3 49 "Stormroof$Board" "cells" "I" RX3, .fieldLinkNest RX3 92 "Stormroof$Board" "victor" "I" RX3, .fieldLinkNest RX3 95 "Stormroof$Board" "turnsPlayed" "I" RX3, .fieldLinkNest RX1 34 "Stormroof$TurnList" "size" "I" RX3, .fieldLinkNest RX1 56 "Stormroof$Board" "victor" "I" RX3, .methodLinkNest RX3 11 yX0_init RX3, .methodLinkNest RX3 132 yX1_look RX3, .methodLinkNest RX3 136 yX1_worthOf RX3, .methodLinkNest RX3 18 yX2_init RX3, .methodLinkNest RX3 25 yX1_init RX3, .methodLinkNest RX1 11 yX2_init RX3, .castable "java/lang/IllegalArgumentException" "java/lang/IllegalArgumentException", .castable "java/lang/IllegalStateException" "java/lang/IllegalStateException", .castable "java/lang/IndexOutOfBoundsException" "java/lang/IndexOutOfBoundsException", .declares ⟨"java/lang/RuntimeException", "<init>", "(Ljava/lang/String;)V"⟩, .declares ⟨"java/lang/Exception", "<init>", "(Ljava/lang/String;)V"⟩, .declares ⟨"java/lang/Throwable", "<init>", "(Ljava/lang/String;)V"⟩]
def KN (U : State) : Prop := ∀ w ∈ nestW, va_Nw w U
theorem KN.warm {s U : State} (hW : s.WarmedH U.vm) (h : KN s) : KN U := by
  refine List.forall_mem_cons.mpr ⟨va_Nw.warmF hW (h _ (List.mem_of_getElem? (i := 0) rfl)), List.forall_mem_cons.mpr ⟨va_Nw.warmF hW (h _ (List.mem_of_getElem? (i := 1) rfl)), List.forall_mem_cons.mpr ⟨va_Nw.warmF hW (h _ (List.mem_of_getElem? (i := 2) rfl)), List.forall_mem_cons.mpr ⟨va_Nw.warmF hW (h _ (List.mem_of_getElem? (i := 3) rfl)), List.forall_mem_cons.mpr ⟨va_Nw.warmF hW (h _ (List.mem_of_getElem? (i := 4) rfl)), List.forall_mem_cons.mpr ⟨va_Nw.warmF hW (h _ (List.mem_of_getElem? (i := 5) rfl)), List.forall_mem_cons.mpr ⟨va_Nw.warmM hW (h _ (List.mem_of_getElem? (i := 6) rfl)), List.forall_mem_cons.mpr ⟨va_Nw.warmM hW (h _ (List.mem_of_getElem? (i := 7) rfl)), List.forall_mem_cons.mpr ⟨va_Nw.warmM hW (h _ (List.mem_of_getElem? (i := 8) rfl)), List.forall_mem_cons.mpr ⟨va_Nw.warmM hW (h _ (List.mem_of_getElem? (i := 9) rfl)), List.forall_mem_cons.mpr ⟨va_Nw.warmM hW (h _ (List.mem_of_getElem? (i := 10) rfl)), List.forall_mem_cons.mpr ⟨va_Nw.warmM hW (h _ (List.mem_of_getElem? (i := 11) rfl)), List.forall_mem_cons.mpr ⟨va_Nw.warmC hW (h _ (List.mem_of_getElem? (i := 12) rfl)), List.forall_mem_cons.mpr ⟨va_Nw.warmC hW (h _ (List.mem_of_getElem? (i := 13) rfl)), List.forall_mem_cons.mpr ⟨va_Nw.warmC hW (h _ (List.mem_of_getElem? (i := 14) rfl)), List.forall_mem_cons.mpr ⟨va_Nw.warmD hW (h _ (List.mem_of_getElem? (i := 15) rfl)), List.forall_mem_cons.mpr ⟨va_Nw.warmD hW (h _ (List.mem_of_getElem? (i := 16) rfl)), List.forall_mem_cons.mpr ⟨va_Nw.warmD hW (h _ (List.mem_of_getElem? (i := 17) rfl)), fun _ h9 => absurd h9 List.not_mem_nil⟩⟩⟩⟩⟩⟩⟩⟩⟩⟩⟩⟩⟩⟩⟩⟩⟩⟩
theorem KN.same {u U : State} (hvm : u.vm = U.vm) (h : KN u) : KN U := by
  intro w hw
  refine va_Nw.same ?_ hvm (h w hw)
  revert w hw
  show ∀ w ∈ nestW, w.onTables = true
  decide +kernel
/-- what the tables say, in U -/
def KX (D : va_G) (cy : Nat → ClassId) (U : State) : Prop := va_K D vwCl (tysW cy) U ∧ KN U
theorem KX.warm {D : va_G} {cy : Nat → ClassId} {s U : State} (hW : s.WarmedH U.vm) (h : KX D cy s) : KX D cy U := ⟨va_K.moved hW.alike h.1, KN.warm hW h.2⟩
theorem KX.same {D : va_G} {cy : Nat → ClassId} {u U : State} (hvm : u.vm = U.vm) (h : KX D cy u) : KX D cy U := ⟨va_K.moved (by rw [hvm]; exact Vm.Alike.refl U.vm) h.1, KN.same hvm h.2⟩
/-- the world w S lies in the heap H -/
def PW {σ : Type} (D : va_G) (w : σ → va_W) (S : σ) (H : Heap) : Prop := va_P D vwCl (w S) H ∧ va_D (fun _ => True) (w S)
/-- the cells that a method over the world w may change -/
def AW {σ : Type} (w : σ → va_W) (sz : Nat) : Nat → Prop := fun q => (∃ (S : σ) (k : Nat) (e : va_E), (w S)[k]? = some (q, e)) ∨ sz ≤ q
theorem AW_mono {σ : Type} {w : σ → va_W} {a b : Nat} (h : a ≤ b) : ∀ q, AW w b q → AW w a q := fun q hq => hq.elim Or.inl (fun h1 => Or.inr (Nat.le_trans h h1))
/-- here: the heap H, seen from the method's start s -/
def ST {σ : Type} (D : va_G) (w : σ → va_W) (A : Nat → Prop) (s : State) (S : σ) (H : Heap) (locs : List Loc) : Prop := va_P D vwCl (w S) H ∧ va_D A (w S) ∧ va_S A s.heap H locs
/-- what holds all through a method's body -/
def CX {σ : Type} (p : Program) (s : State) (m : MethodId) (args : Array Value) (meth : Method) (c : Code) (cc : ByteArray) (nL : Nat) (own : String) (Ts : List Cond) (D : va_G) (cy : Nat → ClassId) (w : σ → va_W) (A : Nat → Prop) : Prop :=
  p.tables.exec = Jvm.exec ∧ c.code = cc ∧ c.maxLocals = nL ∧ s.vm.findClass own = some m.cls ∧ (∀ w ∈ Ts, w.before args s = true) ∧ meth.locks = false ∧ KX D cy s ∧ (∀ q, s.heap.size ≤ q → A q) ∧ (∀ (S : σ) (k : Nat) (q : Nat × va_E), (w S)[k]? = some q → A q.1)
/-- a method returns v, and leaves the world at S' -/
def QG {σ : Type} (D : va_G) (w : σ → va_W) (A : Nat → Prop) (v : Option Value) (S' : σ) : Array Value → State → Outcome → State → Prop := fun _ st oc t => oc = .returned v ∧ PW D w S' t.heap ∧ va_F A st t
def PG {σ : Type} (D : va_G) (cy : Nat → ClassId) (w : σ → va_W) (sz : Nat) (av : List Value) (S : σ) : Array Value → State → Prop := va_Pc av (fun U => U.heap.size = sz ∧ PW D w S U.heap ∧ KX D cy U)
def CG {σ : Type} (l : Launch) (D : va_G) (cy : Nat → ClassId) (w : σ → va_W) (y : MethodName) (ws : List Cond) (rm : Room) (av : List Value) (S : σ) (v : Option Value) (S' : σ) : Prop :=
  ∀ sz : Nat, Met l y ws rm (PG D cy w sz av S) (QG D w (AW w sz) v S') 0 0 (AW w sz)
theorem PG_blind {σ : Type} {D : va_G} {cy : Nat → ClassId} {w : σ → va_W} {sz : Nat} {av : List Value} {S : σ} : FrameBlind (PG D cy w sz av S) := by
  intro a U g mk ⟨h1, h2, h3, h4⟩
  exact ⟨h1, h2, h3, KX.same (u := U) (U := U.calling g mk a) rfl h4⟩
section GO
variable {p : Program} {l : Launch} {e : Env} {R : Room} {s : State} {m : MethodId} {args : Array Value} {below : List Frame} {meth : Method} {c : Code} {H : Heap} {locs : List Loc} {cells slots : Nat} {Q : State → Prop}
variable {D : va_G} {cy : Nat → ClassId} {σ : Type} {w : σ → va_W} {A : Nat → Prop} {pc nL : Nat} {ls : Array Slot} {rest st : List Value} {S S' : σ} {v : Option Value} {a : Array Value} {cc : ByteArray} {own : String} {Ts : List Cond}
theorem ST.back {H1 : Heap} (X : CX p s m args meth c cc nL own Ts D cy w A) (h : PW D w S H1) (hS : va_S A s.heap H1 locs) : ST D w A s S H1 locs :=
  ⟨h.1, ⟨h.2.1, fun k q hq => X.2.2.2.2.2.2.2.2 S k q hq⟩, hS⟩
theorem cg_go (X : CX p s m args meth c cc nL own Ts D cy w A) (hr : va_Run p l e R s m args below meth c H locs cells slots 0 0 (F0 m pc ls st) rest (QG D w (AW w H.size) v S' a) (AW w H.size)) (T : ST D w A s S H locs)
    (kk : ∀ (H1 : Heap) (locs1 : List Loc), ST D w A s S' H1 locs1 → W p l e R s m args below meth c H1 locs1 cells slots Q (F0 m (pc + 3) ls (v.toList ++ rest))) : W p l e R s m args below meth c H locs cells slots Q (F0 m pc ls st) := by
  intro T0 hT X0
  obtain ⟨v1, st₀, t, T', L, h0, X', hL, e1, e2, ⟨hv, hp, hz, hk⟩, stp⟩ := hr T0 hT X0
  cases hv
  rw [h0] at hz hk
  have hS := T.2.2
  have hAW : ∀ q, AW w H.size q → A q := fun q hq => hq.elim (fun ⟨S9, k, e9, h9⟩ => X.2.2.2.2.2.2.2.2 S9 k (q, e9) h9) (fun h9 => X.2.2.2.2.2.2.2.1 q (Nat.le_trans hS.1 h9))
  have hS2 : va_S A s.heap t.heap (locs ++ L) := ⟨Nat.le_trans hS.1 hz, fun q h1 h2 => by rw [hk q (Nat.lt_of_lt_of_le h1 hS.1) (fun z => h2 (hAW q z))]; exact hS.2.1 q h1 h2, fun q hq => by
      rcases List.mem_append.mp hq with h | h
      · exact hS.2.2 q h
      · exact hAW _ (hL q h)⟩
  obtain ⟨t2, a1, b1⟩ := kk T'.heap (locs ++ L) (by rw [e1]; exact ST.back X hp hS2) T' rfl X'
  exact ⟨t2, stp t2 a1, b1⟩
theorem PG_of {av : List Value} (X : CX p s m args meth c cc nL own Ts D cy w A) (T : ST D w A s S H locs) (U : State) (hU : U.heap = H) (hW : s.WarmedH U.vm) : PG D cy w H.size av S av.toArray U :=
  ⟨rfl, by rw [hU], ⟨by rw [hU]; exact T.1, T.2.1.weaken (fun _ _ _ _ => trivial)⟩, KX.warm hW X.2.2.2.2.2.2.1⟩
/-- a call of a method of an object of the world -/
theorem cg_V {y : MethodName} {ws : List Cond} {rm : Room} {As : List Value} {C : String} {index n maxL q0 ci b : Nat} {bytes : ByteArray} {ret : Option FieldType} {TT : u_T} {NN : Nat} {fs : List Value}
    (X : CX p s m args meth c cc nL own Ts D cy w A) (T : ST D w A s S H locs) (hM : CG l D cy w y ws rm (.ref b :: As) S v S') (cw : CallW R s args own C index y bytes maxL ret ws rm 0 0 n)
    (he : (w S)[q0]? = some (b, .inr (ci, fs))) (hc : vwCl[ci]? = some (C, TT, NN)) (hn : As.length = n) (hsz : ls.size = nL) (hst : st = As.reverse ++ .ref b :: rest) (hroom : (rest.map fun v => v.category).sum ≤ 8) (hdg : decode cc pc = .ok (.invokevirtual index, 3)) (hcs : cells ≤ R.cells ∧ slots ≤ R.slots)
    {st2 : List Value} {pc2 : Nat} (h2 : v.toList ++ rest = st2) (h3 : pc + 3 = pc2) (kk : ∀ (H1 : Heap) (locs1 : List Loc), ST D w A s S' H1 locs1 → W p l e R s m args below meth c H1 locs1 cells slots Q (F0 m pc2 ls st2)) : W p l e R s m args below meth c H locs cells slots Q (F0 m pc ls st) :=
  cg_go X (va_runV (As := As) (rest := rest) ⟨X.1, X.2.1, X.2.2.1, X.2.2.2.1, X.2.2.2.2.1⟩ (hM H.size) cw ⟨PG_blind, va_recv X.2.2.2.2.2.2.1.1 T.1 hc he, PG_of X T⟩ rfl hn hsz hst (lv_room hroom) hdg hcs) T (fun H1 locs1 T1 => by rw [h2, h3]; exact kk H1 locs1 T1)
/-- a call of a static method -/
theorem cg_S {y : MethodName} {ws : List Cond} {rm : Room} {As : List Value} {index n maxL : Nat} {bytes : ByteArray} {ret : Option FieldType}
    (X : CX p s m args meth c cc nL own Ts D cy w A) (T : ST D w A s S H locs) (hM : CG l D cy w y ws rm As S v S') (cw : CallB R s args own index y bytes maxL ret ws rm 0 0 n ∧ (Cond.static y).before args s = true)
    (hn : As.length = n) (hsz : ls.size = nL) (hst : st = As.reverse ++ rest) (hroom : (rest.map fun v => v.category).sum ≤ 8) (hdg : decode cc pc = .ok (.invokestatic index, 3)) (hcs : cells ≤ R.cells ∧ slots ≤ R.slots)
    {st2 : List Value} {pc2 : Nat} (h2 : v.toList ++ rest = st2) (h3 : pc + 3 = pc2) (kk : ∀ (H1 : Heap) (locs1 : List Loc), ST D w A s S' H1 locs1 → W p l e R s m args below meth c H1 locs1 cells slots Q (F0 m pc2 ls st2)) : W p l e R s m args below meth c H locs cells slots Q (F0 m pc ls st) :=
  cg_go X (va_runS (As := As) (rest := rest) ⟨X.1, X.2.1, X.2.2.1, X.2.2.2.1, X.2.2.2.2.1⟩ (hM H.size) cw ⟨PG_blind, PG_of X T⟩ rfl hn hsz hst (lv_room hroom) hdg hcs) T (fun H1 locs1 T1 => by rw [h2, h3]; exact kk H1 locs1 T1)
theorem qg_end {t : State} (T : ST D w A s S H locs) (ht : t.heap = H) : QG D w A v S args s (.returned v) t :=
  ⟨rfl, ⟨by rw [ht]; exact T.1, T.2.1.weaken (fun _ _ _ _ => trivial)⟩, T.2.2.F ht⟩
theorem rt_i {x : Int32} (X : CX p s m args meth c cc nL own Ts D cy w A) (T : ST D w A s S H locs) (hr : meth.sig.returnType = some .int) (hdg : decode cc pc = .ok (.ireturn, 1)) : W p l e R s m args below meth c H locs 0 0 (MQ below (QG D w A (some (.int x)) S) args s 0 0 A) (F0 m pc ls [.int x]) :=
  W.iret X.1 X.2.1 hr (fun t ht _ => qg_end T ht) T.2.2.2.2 hdg X.2.2.2.2.2.1
theorem rt_z {x : Int32} (X : CX p s m args meth c cc nL own Ts D cy w A) (T : ST D w A s S H locs) (hr : meth.sig.returnType = some .boolean) (hx : x = 0 ∨ x = 1) (hdg : decode cc pc = .ok (.ireturn, 1)) : W p l e R s m args below meth c H locs 0 0 (MQ below (QG D w A (some (.int x)) S) args s 0 0 A) (F0 m pc ls [.int x]) :=
  W.zret X.1 X.2.1 hr (by rcases hx with h | h <;> (rw [h]; rfl)) (fun t ht _ => qg_end T ht) T.2.2.2.2 hdg X.2.2.2.2.2.1
theorem rt_l {x : Int64} (X : CX p s m args meth c cc nL own Ts D cy w A) (T : ST D w A s S H locs) (hr : meth.sig.returnType = some .long) (hdg : decode cc pc = .ok (.lreturn, 1)) : W p l e R s m args below meth c H locs 0 0 (MQ below (QG D w A (some (.long x)) S) args s 0 0 A) (F0 m pc ls [.long x]) :=
  W.lret X.1 X.2.1 hr (fun t ht _ => qg_end T ht) T.2.2.2.2 hdg X.2.2.2.2.2.1
theorem rt_v (X : CX p s m args meth c cc nL own Ts D cy w A) (T : ST D w A s S H locs) (hr : meth.sig.returnType = none) (hdg : decode cc pc = .ok (.return_, 1)) : W p l e R s m args below meth c H locs 0 0 (MQ below (QG D w A none S) args s 0 0 A) (F0 m pc ls []) :=
  W.vret X.1 X.2.1 hr (fun t ht _ => qg_end T ht) T.2.2.2.2 hdg X.2.2.2.2.2.1
theorem rt_a {x : Nat} {ty : FieldType} (X : CX p s m args meth c cc nL own Ts D cy w A) (T : ST D w A s S H locs) (hr : meth.sig.returnType = some ty) (hty : (∃ n, ty = .object n) ∨ ∃ t, ty = .array t) (hdg : decode cc pc = .ok (.areturn, 1)) : W p l e R s m args below meth c H locs 0 0 (MQ below (QG D w A (some (.ref x)) S) args s 0 0 A) (F0 m pc ls [.ref x]) :=
  W.aret X.1 X.2.1 hr hty (Or.inr ⟨x, rfl⟩) (fun t ht _ => qg_end T ht) T.2.2.2.2 hdg X.2.2.2.2.2.1
/-! the same, with what the function says -/
theorem rf_i {x r : Int32} (hf : some x = some r) (X : CX p s m args meth c cc nL own Ts D cy w A) (T : ST D w A s S H locs) (hr : meth.sig.returnType = some .int) (hdg : decode cc pc = .ok (.ireturn, 1)) : W p l e R s m args below meth c H locs 0 0 (MQ below (QG D w A (some (.int r)) S) args s 0 0 A) (F0 m pc ls [.int x]) := by
  cases hf; exact rt_i X T hr hdg
theorem rf_z {x r : Int32} (hf : some x = some r) (X : CX p s m args meth c cc nL own Ts D cy w A) (T : ST D w A s S H locs) (hr : meth.sig.returnType = some .boolean) (hx : x = 0 ∨ x = 1) (hdg : decode cc pc = .ok (.ireturn, 1)) : W p l e R s m args below meth c H locs 0 0 (MQ below (QG D w A (some (.int r)) S) args s 0 0 A) (F0 m pc ls [.int x]) := by
  cases hf; exact rt_z X T hr hx hdg
theorem rf_l {x r : Int64} (hf : some x = some r) (X : CX p s m args meth c cc nL own Ts D cy w A) (T : ST D w A s S H locs) (hr : meth.sig.returnType = some .long) (hdg : decode cc pc = .ok (.lreturn, 1)) : W p l e R s m args below meth c H locs 0 0 (MQ below (QG D w A (some (.long r)) S) args s 0 0 A) (F0 m pc ls [.long x]) := by
  cases hf; exact rt_l X T hr hdg
theorem rf_iw {x : Int32} {r : Int32 × σ} (hf : some (x, S) = some r) (X : CX p s m args meth c cc nL own Ts D cy w A) (T : ST D w A s S H locs) (hr : meth.sig.returnType = some .int) (hdg : decode cc pc = .ok (.ireturn, 1)) : W p l e R s m args below meth c H locs 0 0 (MQ below (QG D w A (some (.int r.1)) r.2) args s 0 0 A) (F0 m pc ls [.int x]) := by
  cases hf; exact rt_i X T hr hdg
theorem rf_zw {x : Int32} {r : Int32 × σ} (hf : some (x, S) = some r) (X : CX p s m args meth c cc nL own Ts D cy w A) (T : ST D w A s S H locs) (hr : meth.sig.returnType = some .boolean) (hx : x = 0 ∨ x = 1) (hdg : decode cc pc = .ok (.ireturn, 1)) : W p l e R s m args below meth c H locs 0 0 (MQ below (QG D w A (some (.int r.1)) r.2) args s 0 0 A) (F0 m pc ls [.int x]) := by
  cases hf; exact rt_z X T hr hx hdg
theorem rf_vw {r : σ} (hf : some S = some r) (X : CX p s m args meth c cc nL own Ts D cy w A) (T : ST D w A s S H locs) (hr : meth.sig.returnType = none) (hdg : decode cc pc = .ok (.return_, 1)) : W p l e R s m args below meth c H locs 0 0 (MQ below (QG D w A none r) args s 0 0 A) (F0 m pc ls []) := by
  cases hf; exact rt_v X T hr hdg
end GO
/-- a contract out of a walk of the body -/
theorem CG.of {σ : Type} {l : Launch} {D : va_G} {cy : Nat → ClassId} {w : σ → va_W} {y : MethodName} {ws ws' : List Cond} {rm : Room} {av : List Value} {S S' : σ} {v : Option Value} {cc : ByteArray} {maxL : Nat} {ret : Option FieldType}
    (hy : plainName y.cls = true) (hw : ws = Cond.code y cc maxL ret :: ws') (hent : (lg_sl av).length ≤ maxL)
    (body : ∀ (p : Program) (e : Env) (s : State) (m : MethodId) (below : List Frame) (meth : Method) (c : Code) (A : Nat → Prop) (ls : Array Slot), CX p s m av.toArray meth c cc maxL y.cls ws D cy w A → meth.sig.returnType = ret → ST D w A s S s.heap [] → lv_has ls maxL (lv_args 0 av) →
      W p l e rm s m av.toArray below meth c s.heap [] 0 0 (MQ below (QG D w A v S') av.toArray s 0 0 A) (F0 m 0 ls [])) : CG l D cy w y ws rm av S v S' := by
  intro sz
  refine Met.ofW (cc := cc) (maxL := maxL) (ret := ret) hy hw ?_
  intro p e s m args below meth c s₁ B hml hv
  obtain ⟨rfl, hsz, ⟨hP, hD0⟩, hK⟩ := hv
  subst hsz
  have hwA : ∀ (S : σ) (k : Nat) (q : Nat × va_E), (w S)[k]? = some q → AW w s.heap.size q.1 := fun S k q h => Or.inl ⟨S, k, q.2, h⟩
  rw [lg_entry_eq]
  exact body p e s m below meth c (AW w s.heap.size) _ ⟨B.exec, B.bytes, hml, findClass_of_methodNamed B.named, atoms_spec (ws := ws) B.pre, B.notSynchronized, hK, fun q h => Or.inr h, hwA⟩ B.returns ⟨hP, ⟨hD0.1, fun k q h => hwA S k q h⟩, va_S.rf⟩ (lv_entry av hent)
/-! what a decompiled method is made of -/
def nm {α β : Type} (x : α) (k : α → Option β) : Option β := k x
theorem nm_inv {α β : Type} {x : α} {k : α → Option β} {r : β} (h : nm x k = some r) : ∃ y, y = x ∧ k y = some r := ⟨x, rfl, h⟩
def bnd {α β : Type} (x : Option α) (k : α → Option β) : Option β := match x with | none => none | some y => k y
theorem bnd_inv {α β : Type} {x : Option α} {k : α → Option β} {r : β} (h : bnd x k = some r) : ∃ y, x = some y ∧ k y = some r := by
  cases x with
  | none => cases h
  | some y => exact ⟨y, rfl, h⟩
/-- an index is looked at -/
def ck {β : Type} (i : Int32) (n : Nat) (k : Option β) : Option β := if 0 ≤ i ∧ i.toNatClampNeg < n then k else none
theorem ck_inv {β : Type} {i : Int32} {n : Nat} {k : Option β} {r : β} (h : ck i n k = some r) : vp_in i n ∧ k = some r := by
  unfold ck at h
  split at h
  next hc =>
    refine ⟨fun q => ?_, h⟩
    rcases q with q | q
    · exact absurd hc.1 (Int32.not_le.mpr q)
    · omega
  next => cases h
/-- a condition that is wanted -/
def cp {β : Type} (P : Prop) [Decidable P] (k : Option β) : Option β := if P then k else none

/-- a loop of a decompiled method: s runs to the next round or out -/
def loop {σ ρ : Type} (b : σ → Option (σ ⊕ ρ)) : Nat → σ → Option ρ
  | 0, _ => none
  | n + 1, s => match b s with
    | none => none
    | some (.inl s') => loop b n s'
    | some (.inr r) => some r
theorem loop_inv {σ ρ : Type} {b : σ → Option (σ ⊕ ρ)} {n : Nat} {s : σ} {r : ρ} (h : loop b (n + 1) s = some r) : ∃ z, b s = some z ∧ (∀ s', z = .inl s' → loop b n s' = some r) ∧ (∀ r0, z = .inr r0 → r0 = r) := by
  unfold loop at h
  split at h
  next => cases h
  next s' e => exact ⟨_, e, fun t ht => (by cases ht; exact h), fun t ht => (by cases ht)⟩
  next r0 e => exact ⟨_, e, fun t ht => (by cases ht), fun t ht => (by cases ht; exact Option.some.inj h)⟩
/-- out of a loop, into what stands behind it -/
def ex {σ ρ : Type} (x : Option ρ) : Option (σ ⊕ ρ) := match x with | none => none | some r => some (.inr r)
theorem ex_inv {σ ρ : Type} {x : Option ρ} {z : σ ⊕ ρ} (h : ex x = some z) : ∃ r, x = some r ∧ z = .inr r := by
  cases x with
  | none => cases h
  | some r => exact ⟨r, rfl, (Option.some.inj h).symm⟩
theorem cp_inv {β : Type} {P : Prop} [Decidable P] {k : Option β} {r : β} (h : cp P k = some r) : P ∧ k = some r := by
  unfold cp at h
  split at h
  next hc => exact ⟨hc, h⟩
  next => cases h
theorem FUEL_ex : ∃ n : Nat, n = 1000000000000000000 := ⟨_, rfl⟩
/-- as many rounds as any loop can want -/
noncomputable def FUEL : Nat := FUEL_ex.choose
theorem FUEL_is : FUEL = 1000000000000000000 := FUEL_ex.choose_spec
