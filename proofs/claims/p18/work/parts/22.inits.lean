/-! constructors: the world grows at its head -/
theorem vd_iff {A : Nat → Prop} {ws : va_W} : va_D A ws ↔ (ws.map (fun q => q.1)).Nodup ∧ ∀ q ∈ ws, A q.1 := by
  constructor
  · intro ⟨h1, h2⟩
    refine ⟨?_, fun q hq => ?_⟩
    · rw [List.Nodup, List.pairwise_iff_getElem]
      intro i j hi hj hij e
      have hi' : i < ws.length := by simpa using hi
      have hj' : j < ws.length := by simpa using hj
      rw [List.getElem_map, List.getElem_map] at e
      have := h1 i j _ _ (List.getElem?_eq_getElem hi') (List.getElem?_eq_getElem hj') e
      omega
    · obtain ⟨k, hk⟩ := List.getElem?_of_mem hq
      exact h2 k q hk
  · intro ⟨h1, h2⟩
    refine ⟨fun i j p q hi hj e => ?_, fun k q hk => h2 q (List.mem_of_getElem? hk)⟩
    rw [List.Nodup, List.pairwise_iff_getElem] at h1
    obtain ⟨hil, hi⟩ := List.getElem?_eq_some_iff.mp hi
    obtain ⟨hjl, hj⟩ := List.getElem?_eq_some_iff.mp hj
    rcases Nat.lt_trichotomy i j with h | h | h
    · exact absurd (by rw [List.getElem_map, List.getElem_map, hi, hj]; exact e) (h1 i j (by simpa using hil) (by simpa using hjl) h)
    · exact h
    · exact absurd (by rw [List.getElem_map, List.getElem_map, hi, hj]; exact e.symm) (h1 j i (by simpa using hjl) (by simpa using hil) h)
theorem va_D.perm {A : Nat → Prop} {ws ws' : va_W} (h : va_D A ws) (e : ws.Perm ws') : va_D A ws' :=
  vd_iff.mpr ⟨(e.map (fun q => q.1)).nodup (vd_iff.mp h).1, fun q hq => (vd_iff.mp h).2 q (e.mem_iff.mpr hq)⟩
theorem va_P.perm {D : va_G} {cl : List vw_C} {ws ws' : va_W} {H : Heap} (h : va_P D cl ws H) (e : ws.Perm ws') : va_P D cl ws' H := by
  intro k q hk
  obtain ⟨i, hi⟩ := List.getElem?_of_mem (e.mem_iff.mpr (List.mem_of_getElem? hk))
  exact h i q hi
theorem rot1 {ws : va_W} {b : Nat × va_E} : (ws ++ [b]).Perm (b :: ws) := List.perm_append_comm
section NWS
variable {p : Program} {l : Launch} {e : Env} {R : Room} {s : State} {m : MethodId} {args : Array Value} {below : List Frame} {meth : Method} {c : Code} {H : Heap} {locs : List Loc} {cells slots : Nat} {Q : State → Prop}
variable {D : va_G} {cy : Nat → ClassId} {A : Nat → Prop} {pc : Nat} {ls : Array Slot} {rest : List Value} {cc : ByteArray} {ws : va_W} {H0 : Heap}
theorem nw_cls {cA : ClassId} {ty : FieldType} {k : Nat} (hK : va_K D vwCl (tysW cy ++ [(cA, ty)]) s) (hk : (tysW cy)[k]? = some (cy k, ty)) (hty : ty = .int) : cA = cy k := by
  have h1 := (hK.2 1 (cA, ty) rfl).2
  have h2 : va_RA s (cy k) ty := by
    have hlt : k < (tysW cy).length := (List.getElem?_eq_some_iff.mp hk).1
    have := hK.2 k (cy k, ty) (by rw [List.getElem?_append_left hlt]; exact hk)
    exact this.2
  subst hty; exact Option.some.inj (h1.symm.trans h2)
theorem nw_I (hexec : p.tables.exec = Jvm.exec) (hb : c.code = cc) (harr : (Cond.arrayClass .int).before args s = true) (hK : va_K D vwCl (tysW cy) s) (hP : va_P D vwCl ws H) (hD : va_D A ws) (hS : va_S A H0 H locs) (hA : ∀ q, H0.size ≤ q → A q)
    {n : Int32} (N' : Nat) (hn : ¬ n < 0) (hN : n.toNatClampNeg = N') (hbytes : N' * 4 ≤ 536870912) (hcells : cells + 1 ≤ R.cells) (hslots : slots + N' ≤ R.slots) (hdg : decode cc pc = .ok (.newarray .int, 2))
    (kk : ∀ (q : Nat) (H1 : Heap), va_P D vwCl ((q, .inl (cy 0, N', .inl (fun _ => 0))) :: ws) H1 → va_D A ((q, .inl (cy 0, N', .inl (fun _ => 0))) :: ws) → va_S A H0 H1 locs → W p l e R s m args below meth c H1 locs (cells + 1) (slots + N') Q (F0 m (pc + 2) ls (.ref q :: rest))) : W p l e R s m args below meth c H locs cells slots Q (F0 m pc ls (.int n :: rest)) := by
  refine va_newa (atype := .int) (ty := .int) (a0 := (N', .inl (fun _ => 0))) hexec hb harr rfl hK hP hD hS hA (fun cA => rfl) hn hN hbytes hcells hslots hdg (fun q cA H1 hK1 hP1 hD1 hS1 => ?_)
  have hc := nw_cls (k := 0) hK1 rfl rfl
  rw [hc] at hP1 hD1
  exact kk q H1 (hP1.perm rot1) (hD1.perm rot1) hS1
end NWS
/-- a constructor: from the world ws (its object ahead) to N q, q the new cells -/
def PI (D : va_G) (cy : Nat → ClassId) (ws : va_W) (sz : Nat) (av : List Value) : Array Value → State → Prop := va_Pc av (fun U => U.heap.size = sz ∧ va_P D vwCl ws U.heap ∧ va_D (fun _ => True) ws ∧ KX D cy U)
def QI (D : va_G) (A : Nat → Prop) (N : (Nat → Nat) → va_W) : Array Value → State → Outcome → State → Prop := fun _ st oc t => oc = .returned none ∧ (∃ q, va_P D vwCl (N q) t.heap ∧ va_D A (N q)) ∧ va_F A st t
theorem PI_blind {D : va_G} {cy : Nat → ClassId} {ws : va_W} {sz : Nat} {av : List Value} : FrameBlind (PI D cy ws sz av) := by
  intro a U g mk ⟨h1, h2, h3, h4, h5⟩
  exact ⟨h1, h2, h3, h4, KX.same (u := U) (U := U.calling g mk a) rfl h5⟩
def CI (l : Launch) (D : va_G) (cy : Nat → ClassId) (y : MethodName) (wds : List Cond) (rm : Room) (av : List Value) (ws : va_W) (N : (Nat → Nat) → va_W) : Prop :=
  ∀ sz : Nat, Met l y wds rm (PI D cy ws sz av) (QI D (va_A ws sz) N) rm.cells rm.slots (va_A ws sz)
theorem CI.of {l : Launch} {D : va_G} {cy : Nat → ClassId} {y : MethodName} {wds wds' : List Cond} {rm : Room} {av : List Value} {ws : va_W} {N : (Nat → Nat) → va_W} {cc : ByteArray} {maxL : Nat} {ret : Option FieldType}
    (hy : plainName y.cls = true) (hw : wds = Cond.code y cc maxL ret :: wds') (hent : (lg_sl av).length ≤ maxL)
    (body : ∀ (p : Program) (e : Env) (s : State) (m : MethodId) (below : List Frame) (meth : Method) (c : Code) (A : Nat → Prop) (ls : Array Slot), p.tables.exec = Jvm.exec → c.code = cc → c.maxLocals = maxL → s.vm.findClass y.cls = some m.cls → (∀ w ∈ wds, w.before av.toArray s = true) → meth.locks = false → KX D cy s → (∀ q, s.heap.size ≤ q → A q) → meth.name = y.name → meth.sig.returnType = ret →
      va_P D vwCl ws s.heap → va_D A ws → va_S A s.heap s.heap [] → lv_has ls maxL (lv_args 0 av) → W p l e rm s m av.toArray below meth c s.heap [] 0 0 (MQ below (QI D A N) av.toArray s rm.cells rm.slots A) (F0 m 0 ls [])) : CI l D cy y wds rm av ws N := by
  intro sz
  refine Met.ofW (cc := cc) (maxL := maxL) (ret := ret) hy hw ?_
  intro p e s m args below meth c s₁ B hml hv
  obtain ⟨rfl, hsz, hP, hD0, hK⟩ := hv
  subst hsz
  rw [lg_entry_eq]
  exact body p e s m below meth c (va_A ws s.heap.size) _ B.exec B.bytes hml (findClass_of_methodNamed B.named) (atoms_spec (ws := wds) B.pre) B.notSynchronized hK (fun q h => Or.inr h) (name_of_methodNamed B.named B.method).1 B.returns hP hD0.self va_S.rf (lv_entry av hent)
section GOI
variable {p : Program} {l : Launch} {e : Env} {R : Room} {s : State} {m : MethodId} {args : Array Value} {below : List Frame} {meth : Method} {c : Code} {H : Heap} {locs : List Loc} {cells slots mc ms : Nat} {Q : State → Prop}
variable {D : va_G} {cy : Nat → ClassId} {A : Nat → Prop} {pc nL : Nat} {ls : Array Slot} {rest st : List Value} {cc : ByteArray} {ws : va_W} {own : String} {Ts : List Cond} {N : (Nat → Nat) → va_W} {a : Array Value}
theorem vaA_in (hD : va_D A ws) (hS : va_S A s.heap H locs) (hA : ∀ q, s.heap.size ≤ q → A q) : ∀ q, va_A ws H.size q → A q := fun q hq => hq.elim (fun ⟨k, e9, h9⟩ => hD.2 k (q, e9) h9) (fun h9 => hA q (Nat.le_trans hS.1 h9))
theorem ci_go (hr : va_Run p l e R s m args below meth c H locs cells slots mc ms (F0 m pc ls st) rest (QI D (va_A ws H.size) N a) (va_A ws H.size)) (hD : va_D A ws) (hS : va_S A s.heap H locs) (hA : ∀ q, s.heap.size ≤ q → A q)
    (kk : ∀ (q : Nat → Nat) (H1 : Heap) (locs1 : List Loc), va_P D vwCl (N q) H1 → va_D A (N q) → va_S A s.heap H1 locs1 → W p l e R s m args below meth c H1 locs1 (cells + mc) (slots + ms) Q (F0 m (pc + 3) ls rest)) : W p l e R s m args below meth c H locs cells slots Q (F0 m pc ls st) := by
  intro T0 hT X0
  obtain ⟨v1, st₀, t, T', L, h0, X', hL, e1, e2, ⟨hv, ⟨q, hp, hd⟩, hz, hk⟩, stp⟩ := hr T0 hT X0
  cases hv
  rw [h0] at hz hk
  have hAW := vaA_in hD hS hA
  have hS2 : va_S A s.heap t.heap (locs ++ L) := ⟨Nat.le_trans hS.1 hz, fun q h1 h2 => by rw [hk q (Nat.lt_of_lt_of_le h1 hS.1) (fun z => h2 (hAW q z))]; exact hS.2.1 q h1 h2, fun q hq => by
      rcases List.mem_append.mp hq with h | h
      · exact hS.2.2 q h
      · exact hAW _ (hL q h)⟩
  obtain ⟨t2, a1, b1⟩ := kk q T'.heap (locs ++ L) (by rw [e1]; exact hp) ⟨hd.1, fun k q hq => hAW _ (hd.2 k q hq)⟩ (by rw [e1]; exact hS2) T' rfl X'
  exact ⟨t2, stp t2 a1, b1⟩
/-- a constructor of another class of the nest, at the object ahead -/
theorem ci_N {y : MethodName} {wds : List Cond} {rm : Room} {host : String} {index b : Nat} {maxL : Nat} {bytes : ByteArray}
    (S0 : CallFix p m c cc nL s args Ts own) (hK : KX D cy s) (hM : CI l D cy y wds rm [.ref b] ws N) (cw : va_CN R s args own index y host bytes maxL none wds rm rm.cells rm.slots 0) (hy1 : y.name = "<init>") (hin : (Cond.instanceMethod y).before args s = true)
    (hP : va_P D vwCl ws H) (hD : va_D A ws) (hS : va_S A s.heap H locs) (hA : ∀ q, s.heap.size ≤ q → A q) (hsz : ls.size = nL) (hst : st = .ref b :: rest) (hroom : (rest.map fun v => v.category).sum ≤ 8) (hdg : decode cc pc = .ok (.invokespecial index, 3)) (hcs : cells + rm.cells ≤ R.cells ∧ slots + rm.slots ≤ R.slots)
    (kk : ∀ (q : Nat → Nat) (H1 : Heap) (locs1 : List Loc), va_P D vwCl (N q) H1 → va_D A (N q) → va_S A s.heap H1 locs1 → W p l e R s m args below meth c H1 locs1 (cells + rm.cells) (slots + rm.slots) Q (F0 m (pc + 3) ls rest)) : W p l e R s m args below meth c H locs cells slots Q (F0 m pc ls st) :=
  ci_go (va_runIN (As := []) (rest := rest) S0 (hM H.size) ⟨cw, hy1, hin⟩ ⟨PI_blind, fun U hU hW => ⟨rfl, by rw [hU], by rw [hU]; exact hP, hD.weaken (fun _ _ _ _ => trivial), KX.warm hW hK⟩⟩ rfl rfl hsz (by exact hst) (lv_room hroom) hdg hcs) hD hS hA kk
theorem nw_O {own C : String} {T : u_T} {N0 ci index : Nat} (hexec : p.tables.exec = Jvm.exec) (hb : c.code = cc) (hts : ∀ w ∈ Ts, w.before args s = true) (hin : ∀ w ∈ u_ws C T N0, w ∈ Ts) (ty : Nat → FieldType) (hty : ∀ k, k < N0 → parseFieldDescriptor (T k).2.2.1 = some (ty k)) (hown : s.vm.findClass own = some m.cls) (hcl : (Cond.classLink own index C).before args s = true) (hinst : (Cond.instantiable C N0).before args s = true) (hini : (Cond.initialized C).before args s = true)
    (hK : KX D cy s) (hP : va_P D vwCl ws H) (hD : va_D A ws) (hS : va_S A s.heap H locs) (hA : ∀ q, s.heap.size ≤ q → A q) (hc : vwCl[ci]? = some (C, T, N0)) (fs : List Value) (hfs : ∀ j, j < N0 → defaultValue (ty j) = vp_V fs j) (hcells : cells + 1 ≤ R.cells) (hslots : slots + N0 ≤ R.slots) (hdg : decode cc pc = .ok (.new index, 3))
    (kk : ∀ (q : Nat) (H1 : Heap), va_P D vwCl ((q, .inr (ci, fs)) :: ws) H1 → va_D A ((q, .inr (ci, fs)) :: ws) → va_S A s.heap H1 locs → W p l e R s m args below meth c H1 locs (cells + 1) (slots + N0) Q (F0 m (pc + 3) ls (.ref q :: rest))) : W p l e R s m args below meth c H locs cells slots Q (F0 m pc ls rest) :=
  va_new hexec hb hts hin ty hty hown hcl hinst hini hK.1 hP hD hS hA hc hfs hcells hslots hdg (fun q H1 hP1 hD1 hS1 => kk q H1 (hP1.perm rot1) (hD1.perm rot1) hS1)
end GOI
def adM (h0 : Nat) (q : Nat → Nat) : Nat → Nat := fun k => match k with | 0 => h0 | j + 1 => q j
set_option maxHeartbeats 4000000 in
set_option maxRecDepth 100000 in
theorem kX2_init (l : Launch) (D : va_G) (cy : Nat → ClassId) (h0 : Nat) (X : va_W) : CI l D cy yX2_init wsX2_init ({ frames := 1, cells := 1, slots := 338, locals := 12 } : Room) [.ref h0] ((h0, .inr (2, [.null, .int 0])) :: X) (fun q => (q 0, .inl (cy 0, 338, .inl (fun _ => 0))) :: (h0, .inr (2, [.ref (q 0), .int 0])) :: X) := by
  refine CI.of (cc := cX2_init) (maxL := 1) (ret := none) (by decide +kernel) rfl (Nat.le_of_ble_eq_true rfl) ?_
  intro p e s m below meth c A ls hx hb hml hown hts hlk hK hA hname hr hP hD hS hl
  have hl : lv_has ls 1 [(0, .ref h0)] := hl
  have hin_X2 : ∀ w ∈ u_ws RX2 TX2 2, w ∈ wsX2_init := fun w h => (List.mem_cons_of_mem _ (List.mem_append_right _ h))
  refine lv_aload_n hx hb dX2_init_0 rfl (lv_at hl 0 rfl) ?_
  refine W.objInit hx hb hown (hts _ (List.mem_of_getElem? (i := 1) rfl)) (hts _ (List.mem_of_getElem? (i := 2) rfl)) (hts _ (List.mem_of_getElem? (i := 3) rfl)) rfl (by rw [hml]; exact hl.1) rfl dX2_init_1 (Nat.le_of_ble_eq_true rfl) (Nat.le_of_ble_eq_true rfl) ?_
  refine W.eq (g2 := F0 m 4 ls []) rfl ?_
  refine lv_aload_n hx hb dX2_init_4 rfl (lv_at hl 0 rfl) ?_
  refine lv_sipush (v := 338) hx hb dX2_init_5 (by decide) ?_
  refine nw_I hx hb (hts _ (List.mem_of_getElem? (i := 4) rfl)) hK.1 hP hD hS hA 338 (by decide) (by decide) (Nat.le_of_ble_eq_true rfl) (Nat.le_of_ble_eq_true rfl) (Nat.le_of_ble_eq_true rfl) dX2_init_8 (fun q0 H hP hD hS => ?_)
  refine va_putF (D := D) (ci := 2) (v := .ref q0) (ty := .array .int) (C := RX2) (T := TX2) (N := 2) hx hb hts hin_X2 tyX2 tyX2_ok nmX2 hown hK.1 hP hD hS 1 rfl rfl 0 (by decide) (hts _ (List.mem_of_getElem? (i := 5) rfl)) (fun _ h9 => h9) rfl hname rfl (by decide +kernel) rfl rfl (Nat.le_of_ble_eq_true rfl) dX2_init_10 (fun H locs hP hD hS => ?_)
  have hP : va_P D vwCl ((q0, .inl (cy 0, 338, .inl (fun _ => 0))) :: (h0, .inr (2, [.ref q0, .int 0])) :: X) H := hP
  have hD : va_D A ((q0, .inl (cy 0, 338, .inl (fun _ => 0))) :: (h0, .inr (2, [.ref q0, .int 0])) :: X) := hD
  refine W.widen (k := 1) (n := 338) (Nat.le_of_ble_eq_true rfl) (Nat.le_of_ble_eq_true rfl) ?_
  exact W.vret hx hb hr (fun t ht _ => ⟨rfl, ⟨(fun _ => q0), by rw [ht]; exact hP, hD⟩, hS.F ht⟩) hS.2.2 dX2_init_13 hlk
set_option maxHeartbeats 4000000 in
set_option maxRecDepth 100000 in
theorem kX0_init (l : Launch) (D : va_G) (cy : Nat → ClassId) (h0 : Nat) (X : va_W) : CI l D cy yX0_init wsX0_init ({ frames := 1, cells := 5, slots := 759, locals := 12 } : Room) [.ref h0] ((h0, .inr (0, [.null, .null, .null, .null, .null, .int 0, .int 0, .int 0, .int 0, .int 0, .int 0, .int 0, .int 0])) :: X) (fun q => (q 4, .inl (cy 0, 505, .inl (fun _ => 0))) :: (q 3, .inl (cy 0, 4, .inl (fun _ => 0))) :: (q 2, .inl (cy 0, 25, .inl (fun _ => 0))) :: (q 1, .inl (cy 0, 25, .inl (fun _ => 0))) :: (q 0, .inl (cy 0, 200, .inl (fun _ => 0))) :: (h0, .inr (0, [.ref (q 0), .ref (q 1), .ref (q 2), .ref (q 3), .ref (q 4), .int 0, .int 0, .int 0, .int 0, .int 0, .int 0, .int 0, .int 0])) :: X) := by
  refine CI.of (cc := cX0_init) (maxL := 1) (ret := none) (by decide +kernel) rfl (Nat.le_of_ble_eq_true rfl) ?_
  intro p e s m below meth c A ls hx hb hml hown hts hlk hK hA hname hr hP hD hS hl
  have hl : lv_has ls 1 [(0, .ref h0)] := hl
  have hin_X0 : ∀ w ∈ u_ws RX0 TX0 13, w ∈ wsX0_init := fun w h => (List.mem_cons_of_mem _ (List.mem_append_right _ h))
  refine lv_aload_n hx hb dX0_init_0 rfl (lv_at hl 0 rfl) ?_
  refine W.objInit hx hb hown (hts _ (List.mem_of_getElem? (i := 1) rfl)) (hts _ (List.mem_of_getElem? (i := 2) rfl)) (hts _ (List.mem_of_getElem? (i := 3) rfl)) rfl (by rw [hml]; exact hl.1) rfl dX0_init_1 (Nat.le_of_ble_eq_true rfl) (Nat.le_of_ble_eq_true rfl) ?_
  refine W.eq (g2 := F0 m 4 ls []) rfl ?_
  refine lv_aload_n hx hb dX0_init_4 rfl (lv_at hl 0 rfl) ?_
  refine lv_sipush (v := 200) hx hb dX0_init_5 (by decide) ?_
  refine nw_I hx hb (hts _ (List.mem_of_getElem? (i := 4) rfl)) hK.1 hP hD hS hA 200 (by decide) (by decide) (Nat.le_of_ble_eq_true rfl) (Nat.le_of_ble_eq_true rfl) (Nat.le_of_ble_eq_true rfl) dX0_init_8 (fun q0 H hP hD hS => ?_)
  refine va_putF (D := D) (ci := 0) (v := .ref q0) (ty := .array .int) (C := RX0) (T := TX0) (N := 13) hx hb hts hin_X0 tyX0 tyX0_ok nmX0 hown hK.1 hP hD hS 1 rfl rfl 0 (by decide) (hts _ (List.mem_of_getElem? (i := 5) rfl)) (fun _ h9 => h9) rfl hname rfl (by decide +kernel) rfl rfl (Nat.le_of_ble_eq_true rfl) dX0_init_10 (fun H locs hP hD hS => ?_)
  have hP : va_P D vwCl ((q0, .inl (cy 0, 200, .inl (fun _ => 0))) :: (h0, .inr (0, [.ref q0, .null, .null, .null, .null, .int 0, .int 0, .int 0, .int 0, .int 0, .int 0, .int 0, .int 0])) :: X) H := hP
  have hD : va_D A ((q0, .inl (cy 0, 200, .inl (fun _ => 0))) :: (h0, .inr (0, [.ref q0, .null, .null, .null, .null, .int 0, .int 0, .int 0, .int 0, .int 0, .int 0, .int 0, .int 0])) :: X) := hD
  refine lv_aload_n hx hb dX0_init_13 rfl (lv_at hl 0 rfl) ?_
  refine lv_bipush (v := 25) hx hb dX0_init_14 (by decide) ?_
  refine nw_I hx hb (hts _ (List.mem_of_getElem? (i := 4) rfl)) hK.1 hP hD hS hA 25 (by decide) (by decide) (Nat.le_of_ble_eq_true rfl) (Nat.le_of_ble_eq_true rfl) (Nat.le_of_ble_eq_true rfl) dX0_init_16 (fun q1 H hP hD hS => ?_)
  refine va_putF (D := D) (ci := 0) (v := .ref q1) (ty := .array .int) (C := RX0) (T := TX0) (N := 13) hx hb hts hin_X0 tyX0 tyX0_ok nmX0 hown hK.1 hP hD hS 2 rfl rfl 1 (by decide) (hts _ (List.mem_of_getElem? (i := 6) rfl)) (fun _ h9 => h9) rfl hname rfl (by decide +kernel) rfl rfl (Nat.le_of_ble_eq_true rfl) dX0_init_18 (fun H locs hP hD hS => ?_)
  have hP : va_P D vwCl ((q1, .inl (cy 0, 25, .inl (fun _ => 0))) :: (q0, .inl (cy 0, 200, .inl (fun _ => 0))) :: (h0, .inr (0, [.ref q0, .ref q1, .null, .null, .null, .int 0, .int 0, .int 0, .int 0, .int 0, .int 0, .int 0, .int 0])) :: X) H := hP
  have hD : va_D A ((q1, .inl (cy 0, 25, .inl (fun _ => 0))) :: (q0, .inl (cy 0, 200, .inl (fun _ => 0))) :: (h0, .inr (0, [.ref q0, .ref q1, .null, .null, .null, .int 0, .int 0, .int 0, .int 0, .int 0, .int 0, .int 0, .int 0])) :: X) := hD
  refine lv_aload_n hx hb dX0_init_21 rfl (lv_at hl 0 rfl) ?_
  refine lv_bipush (v := 25) hx hb dX0_init_22 (by decide) ?_
  refine nw_I hx hb (hts _ (List.mem_of_getElem? (i := 4) rfl)) hK.1 hP hD hS hA 25 (by decide) (by decide) (Nat.le_of_ble_eq_true rfl) (Nat.le_of_ble_eq_true rfl) (Nat.le_of_ble_eq_true rfl) dX0_init_24 (fun q2 H hP hD hS => ?_)
  refine va_putF (D := D) (ci := 0) (v := .ref q2) (ty := .array .int) (C := RX0) (T := TX0) (N := 13) hx hb hts hin_X0 tyX0 tyX0_ok nmX0 hown hK.1 hP hD hS 3 rfl rfl 2 (by decide) (hts _ (List.mem_of_getElem? (i := 7) rfl)) (fun _ h9 => h9) rfl hname rfl (by decide +kernel) rfl rfl (Nat.le_of_ble_eq_true rfl) dX0_init_26 (fun H locs hP hD hS => ?_)
  have hP : va_P D vwCl ((q2, .inl (cy 0, 25, .inl (fun _ => 0))) :: (q1, .inl (cy 0, 25, .inl (fun _ => 0))) :: (q0, .inl (cy 0, 200, .inl (fun _ => 0))) :: (h0, .inr (0, [.ref q0, .ref q1, .ref q2, .null, .null, .int 0, .int 0, .int 0, .int 0, .int 0, .int 0, .int 0, .int 0])) :: X) H := hP
  have hD : va_D A ((q2, .inl (cy 0, 25, .inl (fun _ => 0))) :: (q1, .inl (cy 0, 25, .inl (fun _ => 0))) :: (q0, .inl (cy 0, 200, .inl (fun _ => 0))) :: (h0, .inr (0, [.ref q0, .ref q1, .ref q2, .null, .null, .int 0, .int 0, .int 0, .int 0, .int 0, .int 0, .int 0, .int 0])) :: X) := hD
  refine lv_aload_n hx hb dX0_init_29 rfl (lv_at hl 0 rfl) ?_
  refine lv_iconst (v := 4) hx hb dX0_init_30 (by decide) ?_
  refine nw_I hx hb (hts _ (List.mem_of_getElem? (i := 4) rfl)) hK.1 hP hD hS hA 4 (by decide) (by decide) (Nat.le_of_ble_eq_true rfl) (Nat.le_of_ble_eq_true rfl) (Nat.le_of_ble_eq_true rfl) dX0_init_31 (fun q3 H hP hD hS => ?_)
  refine va_putF (D := D) (ci := 0) (v := .ref q3) (ty := .array .int) (C := RX0) (T := TX0) (N := 13) hx hb hts hin_X0 tyX0 tyX0_ok nmX0 hown hK.1 hP hD hS 4 rfl rfl 3 (by decide) (hts _ (List.mem_of_getElem? (i := 8) rfl)) (fun _ h9 => h9) rfl hname rfl (by decide +kernel) rfl rfl (Nat.le_of_ble_eq_true rfl) dX0_init_33 (fun H locs hP hD hS => ?_)
  have hP : va_P D vwCl ((q3, .inl (cy 0, 4, .inl (fun _ => 0))) :: (q2, .inl (cy 0, 25, .inl (fun _ => 0))) :: (q1, .inl (cy 0, 25, .inl (fun _ => 0))) :: (q0, .inl (cy 0, 200, .inl (fun _ => 0))) :: (h0, .inr (0, [.ref q0, .ref q1, .ref q2, .ref q3, .null, .int 0, .int 0, .int 0, .int 0, .int 0, .int 0, .int 0, .int 0])) :: X) H := hP
  have hD : va_D A ((q3, .inl (cy 0, 4, .inl (fun _ => 0))) :: (q2, .inl (cy 0, 25, .inl (fun _ => 0))) :: (q1, .inl (cy 0, 25, .inl (fun _ => 0))) :: (q0, .inl (cy 0, 200, .inl (fun _ => 0))) :: (h0, .inr (0, [.ref q0, .ref q1, .ref q2, .ref q3, .null, .int 0, .int 0, .int 0, .int 0, .int 0, .int 0, .int 0, .int 0])) :: X) := hD
  refine lv_aload_n hx hb dX0_init_36 rfl (lv_at hl 0 rfl) ?_
  refine lv_sipush (v := 505) hx hb dX0_init_37 (by decide) ?_
  refine nw_I hx hb (hts _ (List.mem_of_getElem? (i := 4) rfl)) hK.1 hP hD hS hA 505 (by decide) (by decide) (Nat.le_of_ble_eq_true rfl) (Nat.le_of_ble_eq_true rfl) (Nat.le_of_ble_eq_true rfl) dX0_init_40 (fun q4 H hP hD hS => ?_)
  refine va_putF (D := D) (ci := 0) (v := .ref q4) (ty := .array .int) (C := RX0) (T := TX0) (N := 13) hx hb hts hin_X0 tyX0 tyX0_ok nmX0 hown hK.1 hP hD hS 5 rfl rfl 4 (by decide) (hts _ (List.mem_of_getElem? (i := 9) rfl)) (fun _ h9 => h9) rfl hname rfl (by decide +kernel) rfl rfl (Nat.le_of_ble_eq_true rfl) dX0_init_42 (fun H locs hP hD hS => ?_)
  have hP : va_P D vwCl ((q4, .inl (cy 0, 505, .inl (fun _ => 0))) :: (q3, .inl (cy 0, 4, .inl (fun _ => 0))) :: (q2, .inl (cy 0, 25, .inl (fun _ => 0))) :: (q1, .inl (cy 0, 25, .inl (fun _ => 0))) :: (q0, .inl (cy 0, 200, .inl (fun _ => 0))) :: (h0, .inr (0, [.ref q0, .ref q1, .ref q2, .ref q3, .ref q4, .int 0, .int 0, .int 0, .int 0, .int 0, .int 0, .int 0, .int 0])) :: X) H := hP
  have hD : va_D A ((q4, .inl (cy 0, 505, .inl (fun _ => 0))) :: (q3, .inl (cy 0, 4, .inl (fun _ => 0))) :: (q2, .inl (cy 0, 25, .inl (fun _ => 0))) :: (q1, .inl (cy 0, 25, .inl (fun _ => 0))) :: (q0, .inl (cy 0, 200, .inl (fun _ => 0))) :: (h0, .inr (0, [.ref q0, .ref q1, .ref q2, .ref q3, .ref q4, .int 0, .int 0, .int 0, .int 0, .int 0, .int 0, .int 0, .int 0])) :: X) := hD
  refine W.widen (k := 5) (n := 759) (Nat.le_of_ble_eq_true rfl) (Nat.le_of_ble_eq_true rfl) ?_
  exact W.vret hx hb hr (fun t ht _ => ⟨rfl, ⟨(fun k => match k with | 0 => q0 | 1 => q1 | 2 => q2 | 3 => q3 | _ => q4), by rw [ht]; exact hP, hD⟩, hS.F ht⟩) hS.2.2 dX0_init_45 hlk
set_option maxHeartbeats 4000000 in
set_option maxRecDepth 100000 in
theorem kX1_init (l : Launch) (D : va_G) (cy : Nat → ClassId) (h0 : Nat) (X : va_W) : CI l D cy yX1_init wsX1_init ({ frames := 2, cells := 6, slots := 1020, locals := 32 } : Room) [.ref h0] ((h0, .inr (1, [.null, .null, .null])) :: X) (fun q => (q 5, .inl (cy 0, 338, .inl (fun _ => 0))) :: (q 4, .inr (2, [.ref (q 5), .int 0])) :: (q 3, .inl (cy 0, 338, .inl (fun _ => 0))) :: (q 2, .inr (2, [.ref (q 3), .int 0])) :: (q 1, .inl (cy 0, 338, .inl (fun _ => 0))) :: (q 0, .inr (2, [.ref (q 1), .int 0])) :: (h0, .inr (1, [.ref (q 0), .ref (q 2), .ref (q 4)])) :: X) := by
  refine CI.of (cc := cX1_init) (maxL := 1) (ret := none) (by decide +kernel) rfl (Nat.le_of_ble_eq_true rfl) ?_
  intro p e s m below meth c A ls hx hb hml hown hts hlk hK hA hname hr hP hD hS hl
  have hl : lv_has ls 1 [(0, .ref h0)] := hl
  have hin_X1 : ∀ w ∈ u_ws RX1 TX1 3, w ∈ wsX1_init := fun w h => (List.mem_cons_of_mem _ (List.mem_append_right _ h))
  have hin_X2 : ∀ w ∈ u_ws RX2 TX2 2, w ∈ wsX1_init := fun w h => (List.mem_cons_of_mem _ (List.mem_append_left _ (List.mem_append_right _ h)))
  refine lv_aload_n hx hb dX1_init_0 rfl (lv_at hl 0 rfl) ?_
  refine W.objInit hx hb hown (hts _ (List.mem_of_getElem? (i := 1) rfl)) (hts _ (List.mem_of_getElem? (i := 2) rfl)) (hts _ (List.mem_of_getElem? (i := 3) rfl)) rfl (by rw [hml]; exact hl.1) rfl dX1_init_1 (Nat.le_of_ble_eq_true rfl) (Nat.le_of_ble_eq_true rfl) ?_
  refine W.eq (g2 := F0 m 4 ls []) rfl ?_
  refine lv_aload_n hx hb dX1_init_4 rfl (lv_at hl 0 rfl) ?_
  refine nw_O (C := RX2) (T := TX2) (N0 := 2) (ci := 2) hx hb hts hin_X2 tyX2 tyX2_ok hown (hts _ (List.mem_of_getElem? (i := 4) rfl)) (hts _ (List.mem_of_getElem? (i := 5) rfl)) (hts _ (List.mem_of_getElem? (i := 6) rfl)) hK hP hD hS hA rfl [.null, .int 0] (fun j hj => by rcases (show j = 0 ∨ j = 1 by omega) with rfl | rfl <;> rfl) (Nat.le_of_ble_eq_true rfl) (Nat.le_of_ble_eq_true rfl) dX1_init_5 (fun q0 H hP hD hS => ?_)
  refine lv_dup hx hb dX1_init_8 rfl ?_
  refine ci_N (rest := [.ref q0, .ref h0]) ⟨hx, hb, hml, hown, hts⟩ hK (kX2_init l D cy q0 ((h0, .inr (1, [.null, .null, .null])) :: X)) (va_cnB 0 hts gX1_init_X2_init_n11 rfl rfl rfl (hK.2 _ (List.mem_of_getElem? (i := 11) rfl)) (hts _ (List.mem_of_getElem? (i := 6) rfl)) (by decide +kernel) ⟨(Nat.le_of_ble_eq_true rfl), (Nat.le_of_ble_eq_true rfl)⟩) rfl (hts _ (List.mem_of_getElem? (i := 10) rfl)) hP hD hS hA hl.1 rfl (Nat.le_of_ble_eq_true rfl) dX1_init_9 ⟨(Nat.le_of_ble_eq_true rfl), (Nat.le_of_ble_eq_true rfl)⟩ (fun qq1 H locs hP hD hS => ?_)
  have hP : va_P D vwCl ((qq1 0, .inl (cy 0, 338, .inl (fun _ => 0))) :: (q0, .inr (2, [.ref (qq1 0), .int 0])) :: (h0, .inr (1, [.null, .null, .null])) :: X) H := hP
  have hD : va_D A ((qq1 0, .inl (cy 0, 338, .inl (fun _ => 0))) :: (q0, .inr (2, [.ref (qq1 0), .int 0])) :: (h0, .inr (1, [.null, .null, .null])) :: X) := hD
  refine va_putF (D := D) (ci := 1) (v := .ref q0) (ty := .object "Stormroof$TurnList") (C := RX1) (T := TX1) (N := 3) hx hb hts hin_X1 tyX1 tyX1_ok nmX1 hown hK.1 hP hD hS 2 rfl rfl 0 (by decide) (hts _ (List.mem_of_getElem? (i := 7) rfl)) (fun _ h9 => h9) rfl hname rfl (by decide +kernel) rfl rfl (Nat.le_of_ble_eq_true rfl) dX1_init_12 (fun H locs hP hD hS => ?_)
  have hP : va_P D vwCl ((qq1 0, .inl (cy 0, 338, .inl (fun _ => 0))) :: (q0, .inr (2, [.ref (qq1 0), .int 0])) :: (h0, .inr (1, [.ref q0, .null, .null])) :: X) H := hP
  have hD : va_D A ((qq1 0, .inl (cy 0, 338, .inl (fun _ => 0))) :: (q0, .inr (2, [.ref (qq1 0), .int 0])) :: (h0, .inr (1, [.ref q0, .null, .null])) :: X) := hD
  refine lv_aload_n hx hb dX1_init_15 rfl (lv_at hl 0 rfl) ?_
  refine nw_O (C := RX2) (T := TX2) (N0 := 2) (ci := 2) hx hb hts hin_X2 tyX2 tyX2_ok hown (hts _ (List.mem_of_getElem? (i := 4) rfl)) (hts _ (List.mem_of_getElem? (i := 5) rfl)) (hts _ (List.mem_of_getElem? (i := 6) rfl)) hK hP hD hS hA rfl [.null, .int 0] (fun j hj => by rcases (show j = 0 ∨ j = 1 by omega) with rfl | rfl <;> rfl) (Nat.le_of_ble_eq_true rfl) (Nat.le_of_ble_eq_true rfl) dX1_init_16 (fun q2 H hP hD hS => ?_)
  refine lv_dup hx hb dX1_init_19 rfl ?_
  refine ci_N (rest := [.ref q2, .ref h0]) ⟨hx, hb, hml, hown, hts⟩ hK (kX2_init l D cy q2 ((qq1 0, .inl (cy 0, 338, .inl (fun _ => 0))) :: (q0, .inr (2, [.ref (qq1 0), .int 0])) :: (h0, .inr (1, [.ref q0, .null, .null])) :: X)) (va_cnB 0 hts gX1_init_X2_init_n11 rfl rfl rfl (hK.2 _ (List.mem_of_getElem? (i := 11) rfl)) (hts _ (List.mem_of_getElem? (i := 6) rfl)) (by decide +kernel) ⟨(Nat.le_of_ble_eq_true rfl), (Nat.le_of_ble_eq_true rfl)⟩) rfl (hts _ (List.mem_of_getElem? (i := 10) rfl)) hP hD hS hA hl.1 rfl (Nat.le_of_ble_eq_true rfl) dX1_init_20 ⟨(Nat.le_of_ble_eq_true rfl), (Nat.le_of_ble_eq_true rfl)⟩ (fun qq3 H locs hP hD hS => ?_)
  have hP : va_P D vwCl ((qq3 0, .inl (cy 0, 338, .inl (fun _ => 0))) :: (q2, .inr (2, [.ref (qq3 0), .int 0])) :: (qq1 0, .inl (cy 0, 338, .inl (fun _ => 0))) :: (q0, .inr (2, [.ref (qq1 0), .int 0])) :: (h0, .inr (1, [.ref q0, .null, .null])) :: X) H := hP
  have hD : va_D A ((qq3 0, .inl (cy 0, 338, .inl (fun _ => 0))) :: (q2, .inr (2, [.ref (qq3 0), .int 0])) :: (qq1 0, .inl (cy 0, 338, .inl (fun _ => 0))) :: (q0, .inr (2, [.ref (qq1 0), .int 0])) :: (h0, .inr (1, [.ref q0, .null, .null])) :: X) := hD
  refine va_putF (D := D) (ci := 1) (v := .ref q2) (ty := .object "Stormroof$TurnList") (C := RX1) (T := TX1) (N := 3) hx hb hts hin_X1 tyX1 tyX1_ok nmX1 hown hK.1 hP hD hS 4 rfl rfl 1 (by decide) (hts _ (List.mem_of_getElem? (i := 8) rfl)) (fun _ h9 => h9) rfl hname rfl (by decide +kernel) rfl rfl (Nat.le_of_ble_eq_true rfl) dX1_init_23 (fun H locs hP hD hS => ?_)
  have hP : va_P D vwCl ((qq3 0, .inl (cy 0, 338, .inl (fun _ => 0))) :: (q2, .inr (2, [.ref (qq3 0), .int 0])) :: (qq1 0, .inl (cy 0, 338, .inl (fun _ => 0))) :: (q0, .inr (2, [.ref (qq1 0), .int 0])) :: (h0, .inr (1, [.ref q0, .ref q2, .null])) :: X) H := hP
  have hD : va_D A ((qq3 0, .inl (cy 0, 338, .inl (fun _ => 0))) :: (q2, .inr (2, [.ref (qq3 0), .int 0])) :: (qq1 0, .inl (cy 0, 338, .inl (fun _ => 0))) :: (q0, .inr (2, [.ref (qq1 0), .int 0])) :: (h0, .inr (1, [.ref q0, .ref q2, .null])) :: X) := hD
  refine lv_aload_n hx hb dX1_init_26 rfl (lv_at hl 0 rfl) ?_
  refine nw_O (C := RX2) (T := TX2) (N0 := 2) (ci := 2) hx hb hts hin_X2 tyX2 tyX2_ok hown (hts _ (List.mem_of_getElem? (i := 4) rfl)) (hts _ (List.mem_of_getElem? (i := 5) rfl)) (hts _ (List.mem_of_getElem? (i := 6) rfl)) hK hP hD hS hA rfl [.null, .int 0] (fun j hj => by rcases (show j = 0 ∨ j = 1 by omega) with rfl | rfl <;> rfl) (Nat.le_of_ble_eq_true rfl) (Nat.le_of_ble_eq_true rfl) dX1_init_27 (fun q4 H hP hD hS => ?_)
  refine lv_dup hx hb dX1_init_30 rfl ?_
  refine ci_N (rest := [.ref q4, .ref h0]) ⟨hx, hb, hml, hown, hts⟩ hK (kX2_init l D cy q4 ((qq3 0, .inl (cy 0, 338, .inl (fun _ => 0))) :: (q2, .inr (2, [.ref (qq3 0), .int 0])) :: (qq1 0, .inl (cy 0, 338, .inl (fun _ => 0))) :: (q0, .inr (2, [.ref (qq1 0), .int 0])) :: (h0, .inr (1, [.ref q0, .ref q2, .null])) :: X)) (va_cnB 0 hts gX1_init_X2_init_n11 rfl rfl rfl (hK.2 _ (List.mem_of_getElem? (i := 11) rfl)) (hts _ (List.mem_of_getElem? (i := 6) rfl)) (by decide +kernel) ⟨(Nat.le_of_ble_eq_true rfl), (Nat.le_of_ble_eq_true rfl)⟩) rfl (hts _ (List.mem_of_getElem? (i := 10) rfl)) hP hD hS hA hl.1 rfl (Nat.le_of_ble_eq_true rfl) dX1_init_31 ⟨(Nat.le_of_ble_eq_true rfl), (Nat.le_of_ble_eq_true rfl)⟩ (fun qq5 H locs hP hD hS => ?_)
  have hP : va_P D vwCl ((qq5 0, .inl (cy 0, 338, .inl (fun _ => 0))) :: (q4, .inr (2, [.ref (qq5 0), .int 0])) :: (qq3 0, .inl (cy 0, 338, .inl (fun _ => 0))) :: (q2, .inr (2, [.ref (qq3 0), .int 0])) :: (qq1 0, .inl (cy 0, 338, .inl (fun _ => 0))) :: (q0, .inr (2, [.ref (qq1 0), .int 0])) :: (h0, .inr (1, [.ref q0, .ref q2, .null])) :: X) H := hP
  have hD : va_D A ((qq5 0, .inl (cy 0, 338, .inl (fun _ => 0))) :: (q4, .inr (2, [.ref (qq5 0), .int 0])) :: (qq3 0, .inl (cy 0, 338, .inl (fun _ => 0))) :: (q2, .inr (2, [.ref (qq3 0), .int 0])) :: (qq1 0, .inl (cy 0, 338, .inl (fun _ => 0))) :: (q0, .inr (2, [.ref (qq1 0), .int 0])) :: (h0, .inr (1, [.ref q0, .ref q2, .null])) :: X) := hD
  refine va_putF (D := D) (ci := 1) (v := .ref q4) (ty := .object "Stormroof$TurnList") (C := RX1) (T := TX1) (N := 3) hx hb hts hin_X1 tyX1 tyX1_ok nmX1 hown hK.1 hP hD hS 6 rfl rfl 2 (by decide) (hts _ (List.mem_of_getElem? (i := 9) rfl)) (fun _ h9 => h9) rfl hname rfl (by decide +kernel) rfl rfl (Nat.le_of_ble_eq_true rfl) dX1_init_34 (fun H locs hP hD hS => ?_)
  have hP : va_P D vwCl ((qq5 0, .inl (cy 0, 338, .inl (fun _ => 0))) :: (q4, .inr (2, [.ref (qq5 0), .int 0])) :: (qq3 0, .inl (cy 0, 338, .inl (fun _ => 0))) :: (q2, .inr (2, [.ref (qq3 0), .int 0])) :: (qq1 0, .inl (cy 0, 338, .inl (fun _ => 0))) :: (q0, .inr (2, [.ref (qq1 0), .int 0])) :: (h0, .inr (1, [.ref q0, .ref q2, .ref q4])) :: X) H := hP
  have hD : va_D A ((qq5 0, .inl (cy 0, 338, .inl (fun _ => 0))) :: (q4, .inr (2, [.ref (qq5 0), .int 0])) :: (qq3 0, .inl (cy 0, 338, .inl (fun _ => 0))) :: (q2, .inr (2, [.ref (qq3 0), .int 0])) :: (qq1 0, .inl (cy 0, 338, .inl (fun _ => 0))) :: (q0, .inr (2, [.ref (qq1 0), .int 0])) :: (h0, .inr (1, [.ref q0, .ref q2, .ref q4])) :: X) := hD
  refine W.widen (k := 6) (n := 1020) (Nat.le_of_ble_eq_true rfl) (Nat.le_of_ble_eq_true rfl) ?_
  exact W.vret hx hb hr (fun t ht _ => ⟨rfl, ⟨(fun k => match k with | 0 => q0 | 1 => (qq1 0) | 2 => q2 | 3 => (qq3 0) | 4 => q4 | _ => (qq5 0)), by rw [ht]; exact hP, hD⟩, hS.F ht⟩) hS.2.2 dX1_init_37 hlk
theorem hw_of {σ : Type} {w : σ → va_W} {A : Nat → Prop} {S0 : σ} (hf : ∀ S S' : σ, (w S).map (fun z => z.1) = (w S').map (fun z => z.1)) (hD : va_D A (w S0)) : ∀ (S : σ) (k : Nat) (q : Nat × va_E), (w S)[k]? = some q → A q.1 := by
  intro S k q hq
  have h1 : ((w S).map (fun z => z.1))[k]? = some q.1 := by rw [List.getElem?_map, hq]; rfl
  rw [hf S S0, List.getElem?_map] at h1
  cases h2 : (w S0)[k]? with
  | none => rw [h2] at h1; cases h1
  | some z =>
    rw [h2] at h1
    rw [← Option.some.inj h1]
    exact hD.2 k z h2
theorem wC_fst (cy : Nat → ClassId) (ad : Nat → Nat) (Xr : va_W) : ∀ S S' : SC, (wC cy ad Xr S).map (fun z => z.1) = (wC cy ad Xr S').map (fun z => z.1) := fun _ _ => rfl
def PIs (t1 t2 : Nat) (D : va_G) (cy : Nat → ClassId) (ws : va_W) (sz : Nat) (av : List Value) : Array Value → State → Prop := va_Pc av (fun U => U.heap.size = sz ∧ va_P D vwCl ws U.heap ∧ va_D (fun _ => True) ws ∧ KX D cy U ∧ SX t1 t2 (va_A ws sz) U U.heap)
theorem PIs_blind {t1 t2 : Nat} {D : va_G} {cy : Nat → ClassId} {ws : va_W} {sz : Nat} {av : List Value} : FrameBlind (PIs t1 t2 D cy ws sz av) := by
  intro a U g mk ⟨h1, h2, h3, h4, h5, h6⟩
  exact ⟨h1, h2, h3, h4, KX.same (u := U) (U := U.calling g mk a) rfl h5, SX.same (u := U) (U := U.calling g mk a) rfl h6⟩
def CIs (l : Launch) (t1 t2 : Nat) (D : va_G) (cy : Nat → ClassId) (y : MethodName) (wds : List Cond) (rm : Room) (av : List Value) (ws : va_W) (N : (Nat → Nat) → va_W) : Prop :=
  ∀ sz : Nat, Met l y wds rm (PIs t1 t2 D cy ws sz av) (QI D (va_A ws sz) N) rm.cells rm.slots (va_A ws sz)
theorem CIs.of {l : Launch} {t1 t2 : Nat} {D : va_G} {cy : Nat → ClassId} {y : MethodName} {wds wds' : List Cond} {rm : Room} {av : List Value} {ws : va_W} {N : (Nat → Nat) → va_W} {cc : ByteArray} {maxL : Nat} {ret : Option FieldType}
    (hy : plainName y.cls = true) (hw : wds = Cond.code y cc maxL ret :: wds') (hent : (lg_sl av).length ≤ maxL)
    (body : ∀ (p : Program) (e : Env) (s : State) (m : MethodId) (below : List Frame) (meth : Method) (c : Code) (A : Nat → Prop) (ls : Array Slot), p.tables.exec = Jvm.exec → c.code = cc → c.maxLocals = maxL → s.vm.findClass y.cls = some m.cls → (∀ w ∈ wds, w.before av.toArray s = true) → meth.locks = false → KX D cy s → (∀ q, s.heap.size ≤ q → A q) → meth.name = y.name → meth.sig.returnType = ret →
      va_P D vwCl ws s.heap → va_D A ws → va_S A s.heap s.heap [] → lv_has ls maxL (lv_args 0 av) → SX t1 t2 A s s.heap → W p l e rm s m av.toArray below meth c s.heap [] 0 0 (MQ below (QI D A N) av.toArray s rm.cells rm.slots A) (F0 m 0 ls [])) : CIs l t1 t2 D cy y wds rm av ws N := by
  intro sz
  refine Met.ofW (cc := cc) (maxL := maxL) (ret := ret) hy hw ?_
  intro p e s m args below meth c s₁ B hml hv
  obtain ⟨rfl, hsz, hP, hD0, hK, hX⟩ := hv
  subst hsz
  rw [lg_entry_eq]
  exact body p e s m below meth c (va_A ws s.heap.size) _ B.exec B.bytes hml (findClass_of_methodNamed B.named) (atoms_spec (ws := wds) B.pre) B.notSynchronized hK (fun q h => Or.inr h) (name_of_methodNamed B.named B.method).1 B.returns hP hD0.self va_S.rf (lv_entry av hent) hX
def S0C : SC := (fun _ => 0, fun _ _ => 0)
set_option maxHeartbeats 4000000 in
set_option maxRecDepth 100000 in
theorem kX3_init (l : Launch) (t1 t2 : Nat) (D : va_G) (cy : Nat → ClassId) (h0 : Nat) (X : va_W) (r : SC) (hf : fX0_start S0C 5 5 2 0 0 = some r) : CIs l t1 t2 D cy yX3_init wsX3_init ({ frames := 3, cells := 15, slots := 2135, locals := 56 } : Room) [.ref h0] ((h0, .inr (3, [.null, .null, .null])) :: X) (fun q => wC cy (adM h0 q) X r) := by
  refine CIs.of (cc := cX3_init) (maxL := 1) (ret := none) (by decide +kernel) rfl (Nat.le_of_ble_eq_true rfl) ?_
  intro p e s m below meth c A ls hx hb hml hown hts hlk hK hA hname hr hP hD hS hl hX
  have hl : lv_has ls 1 [(0, .ref h0)] := hl
  have hin_X0 : ∀ w ∈ u_ws RX0 TX0 13, w ∈ wsX3_init := fun w h => (List.mem_cons_of_mem _ (List.mem_append_left _ (List.mem_append_left _ (List.mem_append_left _ (List.mem_append_right _ h)))))
  have hin_X1 : ∀ w ∈ u_ws RX1 TX1 3, w ∈ wsX3_init := fun w h => (List.mem_cons_of_mem _ (List.mem_append_right _ h))
  have hin_X2 : ∀ w ∈ u_ws RX2 TX2 2, w ∈ wsX3_init := fun w h => (List.mem_cons_of_mem _ (List.mem_append_left _ (List.mem_append_right _ h)))
  have hin_X3 : ∀ w ∈ u_ws RX3 TX3 3, w ∈ wsX3_init := fun w h => (List.mem_cons_of_mem _ (List.mem_append_left _ (List.mem_append_left _ (List.mem_append_right _ h))))
  refine lv_aload_n hx hb dX3_init_0 rfl (lv_at hl 0 rfl) ?_
  refine W.objInit hx hb hown (hts _ (List.mem_of_getElem? (i := 1) rfl)) (hts _ (List.mem_of_getElem? (i := 2) rfl)) (hts _ (List.mem_of_getElem? (i := 3) rfl)) rfl (by rw [hml]; exact hl.1) rfl dX3_init_1 (Nat.le_of_ble_eq_true rfl) (Nat.le_of_ble_eq_true rfl) ?_
  refine W.eq (g2 := F0 m 4 ls []) rfl ?_
  refine lv_aload_n hx hb dX3_init_4 rfl (lv_at hl 0 rfl) ?_
  refine nw_O (C := RX0) (T := TX0) (N0 := 13) (ci := 0) hx hb hts hin_X0 tyX0 tyX0_ok hown (hts _ (List.mem_of_getElem? (i := 4) rfl)) (hts _ (List.mem_of_getElem? (i := 5) rfl)) (hts _ (List.mem_of_getElem? (i := 6) rfl)) hK hP hD hS hA rfl [.null, .null, .null, .null, .null, .int 0, .int 0, .int 0, .int 0, .int 0, .int 0, .int 0, .int 0] (fun j hj => by rcases (show j = 0 ∨ j = 1 ∨ j = 2 ∨ j = 3 ∨ j = 4 ∨ j = 5 ∨ j = 6 ∨ j = 7 ∨ j = 8 ∨ j = 9 ∨ j = 10 ∨ j = 11 ∨ j = 12 by omega) with rfl | rfl | rfl | rfl | rfl | rfl | rfl | rfl | rfl | rfl | rfl | rfl | rfl <;> rfl) (Nat.le_of_ble_eq_true rfl) (Nat.le_of_ble_eq_true rfl) dX3_init_5 (fun q0 H hP hD hS => ?_)
  refine lv_dup hx hb dX3_init_8 rfl ?_
  refine ci_N (rest := [.ref q0, .ref h0]) ⟨hx, hb, hml, hown, hts⟩ hK (kX0_init l D cy q0 ((h0, .inr (3, [.null, .null, .null])) :: X)) (va_cnB 0 hts gX3_init_X0_init_n11 rfl rfl rfl (hK.2 _ (List.mem_of_getElem? (i := 6) rfl)) (hts _ (List.mem_of_getElem? (i := 6) rfl)) (by decide +kernel) ⟨(Nat.le_of_ble_eq_true rfl), (Nat.le_of_ble_eq_true rfl)⟩) rfl (hts _ (List.mem_of_getElem? (i := 16) rfl)) hP hD hS hA hl.1 rfl (Nat.le_of_ble_eq_true rfl) dX3_init_9 ⟨(Nat.le_of_ble_eq_true rfl), (Nat.le_of_ble_eq_true rfl)⟩ (fun qq1 H locs hP hD hS => ?_)
  have hP : va_P D vwCl ((qq1 4, .inl (cy 0, 505, .inl (fun _ => 0))) :: (qq1 3, .inl (cy 0, 4, .inl (fun _ => 0))) :: (qq1 2, .inl (cy 0, 25, .inl (fun _ => 0))) :: (qq1 1, .inl (cy 0, 25, .inl (fun _ => 0))) :: (qq1 0, .inl (cy 0, 200, .inl (fun _ => 0))) :: (q0, .inr (0, [.ref (qq1 0), .ref (qq1 1), .ref (qq1 2), .ref (qq1 3), .ref (qq1 4), .int 0, .int 0, .int 0, .int 0, .int 0, .int 0, .int 0, .int 0])) :: (h0, .inr (3, [.null, .null, .null])) :: X) H := hP
  have hD : va_D A ((qq1 4, .inl (cy 0, 505, .inl (fun _ => 0))) :: (qq1 3, .inl (cy 0, 4, .inl (fun _ => 0))) :: (qq1 2, .inl (cy 0, 25, .inl (fun _ => 0))) :: (qq1 1, .inl (cy 0, 25, .inl (fun _ => 0))) :: (qq1 0, .inl (cy 0, 200, .inl (fun _ => 0))) :: (q0, .inr (0, [.ref (qq1 0), .ref (qq1 1), .ref (qq1 2), .ref (qq1 3), .ref (qq1 4), .int 0, .int 0, .int 0, .int 0, .int 0, .int 0, .int 0, .int 0])) :: (h0, .inr (3, [.null, .null, .null])) :: X) := hD
  refine va_putF (D := D) (ci := 3) (v := .ref q0) (ty := .object "Stormroof$Board") (C := RX3) (T := TX3) (N := 3) hx hb hts hin_X3 tyX3 tyX3_ok nmX3 hown hK.1 hP hD hS 6 rfl rfl 0 (by decide) (hts _ (List.mem_of_getElem? (i := 7) rfl)) (fun _ h9 => h9) rfl hname rfl (by decide +kernel) rfl rfl (Nat.le_of_ble_eq_true rfl) dX3_init_12 (fun H locs hP hD hS => ?_)
  have hP : va_P D vwCl ((qq1 4, .inl (cy 0, 505, .inl (fun _ => 0))) :: (qq1 3, .inl (cy 0, 4, .inl (fun _ => 0))) :: (qq1 2, .inl (cy 0, 25, .inl (fun _ => 0))) :: (qq1 1, .inl (cy 0, 25, .inl (fun _ => 0))) :: (qq1 0, .inl (cy 0, 200, .inl (fun _ => 0))) :: (q0, .inr (0, [.ref (qq1 0), .ref (qq1 1), .ref (qq1 2), .ref (qq1 3), .ref (qq1 4), .int 0, .int 0, .int 0, .int 0, .int 0, .int 0, .int 0, .int 0])) :: (h0, .inr (3, [.ref q0, .null, .null])) :: X) H := hP
  have hD : va_D A ((qq1 4, .inl (cy 0, 505, .inl (fun _ => 0))) :: (qq1 3, .inl (cy 0, 4, .inl (fun _ => 0))) :: (qq1 2, .inl (cy 0, 25, .inl (fun _ => 0))) :: (qq1 1, .inl (cy 0, 25, .inl (fun _ => 0))) :: (qq1 0, .inl (cy 0, 200, .inl (fun _ => 0))) :: (q0, .inr (0, [.ref (qq1 0), .ref (qq1 1), .ref (qq1 2), .ref (qq1 3), .ref (qq1 4), .int 0, .int 0, .int 0, .int 0, .int 0, .int 0, .int 0, .int 0])) :: (h0, .inr (3, [.ref q0, .null, .null])) :: X) := hD
  refine lv_aload_n hx hb dX3_init_15 rfl (lv_at hl 0 rfl) ?_
  refine nw_O (C := RX2) (T := TX2) (N0 := 2) (ci := 2) hx hb hts hin_X2 tyX2 tyX2_ok hown (hts _ (List.mem_of_getElem? (i := 8) rfl)) (hts _ (List.mem_of_getElem? (i := 9) rfl)) (hts _ (List.mem_of_getElem? (i := 10) rfl)) hK hP hD hS hA rfl [.null, .int 0] (fun j hj => by rcases (show j = 0 ∨ j = 1 by omega) with rfl | rfl <;> rfl) (Nat.le_of_ble_eq_true rfl) (Nat.le_of_ble_eq_true rfl) dX3_init_16 (fun q6 H hP hD hS => ?_)
  refine lv_dup hx hb dX3_init_19 rfl ?_
  refine ci_N (rest := [.ref q6, .ref h0]) ⟨hx, hb, hml, hown, hts⟩ hK (kX2_init l D cy q6 ((qq1 4, .inl (cy 0, 505, .inl (fun _ => 0))) :: (qq1 3, .inl (cy 0, 4, .inl (fun _ => 0))) :: (qq1 2, .inl (cy 0, 25, .inl (fun _ => 0))) :: (qq1 1, .inl (cy 0, 25, .inl (fun _ => 0))) :: (qq1 0, .inl (cy 0, 200, .inl (fun _ => 0))) :: (q0, .inr (0, [.ref (qq1 0), .ref (qq1 1), .ref (qq1 2), .ref (qq1 3), .ref (qq1 4), .int 0, .int 0, .int 0, .int 0, .int 0, .int 0, .int 0, .int 0])) :: (h0, .inr (3, [.ref q0, .null, .null])) :: X)) (va_cnB 0 hts gX3_init_X2_init_n18 rfl rfl rfl (hK.2 _ (List.mem_of_getElem? (i := 9) rfl)) (hts _ (List.mem_of_getElem? (i := 10) rfl)) (by decide +kernel) ⟨(Nat.le_of_ble_eq_true rfl), (Nat.le_of_ble_eq_true rfl)⟩) rfl (hts _ (List.mem_of_getElem? (i := 25) rfl)) hP hD hS hA hl.1 rfl (Nat.le_of_ble_eq_true rfl) dX3_init_20 ⟨(Nat.le_of_ble_eq_true rfl), (Nat.le_of_ble_eq_true rfl)⟩ (fun qq7 H locs hP hD hS => ?_)
  have hP : va_P D vwCl ((qq7 0, .inl (cy 0, 338, .inl (fun _ => 0))) :: (q6, .inr (2, [.ref (qq7 0), .int 0])) :: (qq1 4, .inl (cy 0, 505, .inl (fun _ => 0))) :: (qq1 3, .inl (cy 0, 4, .inl (fun _ => 0))) :: (qq1 2, .inl (cy 0, 25, .inl (fun _ => 0))) :: (qq1 1, .inl (cy 0, 25, .inl (fun _ => 0))) :: (qq1 0, .inl (cy 0, 200, .inl (fun _ => 0))) :: (q0, .inr (0, [.ref (qq1 0), .ref (qq1 1), .ref (qq1 2), .ref (qq1 3), .ref (qq1 4), .int 0, .int 0, .int 0, .int 0, .int 0, .int 0, .int 0, .int 0])) :: (h0, .inr (3, [.ref q0, .null, .null])) :: X) H := hP
  have hD : va_D A ((qq7 0, .inl (cy 0, 338, .inl (fun _ => 0))) :: (q6, .inr (2, [.ref (qq7 0), .int 0])) :: (qq1 4, .inl (cy 0, 505, .inl (fun _ => 0))) :: (qq1 3, .inl (cy 0, 4, .inl (fun _ => 0))) :: (qq1 2, .inl (cy 0, 25, .inl (fun _ => 0))) :: (qq1 1, .inl (cy 0, 25, .inl (fun _ => 0))) :: (qq1 0, .inl (cy 0, 200, .inl (fun _ => 0))) :: (q0, .inr (0, [.ref (qq1 0), .ref (qq1 1), .ref (qq1 2), .ref (qq1 3), .ref (qq1 4), .int 0, .int 0, .int 0, .int 0, .int 0, .int 0, .int 0, .int 0])) :: (h0, .inr (3, [.ref q0, .null, .null])) :: X) := hD
  refine va_putF (D := D) (ci := 3) (v := .ref q6) (ty := .object "Stormroof$TurnList") (C := RX3) (T := TX3) (N := 3) hx hb hts hin_X3 tyX3 tyX3_ok nmX3 hown hK.1 hP hD hS 8 rfl rfl 1 (by decide) (hts _ (List.mem_of_getElem? (i := 11) rfl)) (fun _ h9 => h9) rfl hname rfl (by decide +kernel) rfl rfl (Nat.le_of_ble_eq_true rfl) dX3_init_23 (fun H locs hP hD hS => ?_)
  have hP : va_P D vwCl ((qq7 0, .inl (cy 0, 338, .inl (fun _ => 0))) :: (q6, .inr (2, [.ref (qq7 0), .int 0])) :: (qq1 4, .inl (cy 0, 505, .inl (fun _ => 0))) :: (qq1 3, .inl (cy 0, 4, .inl (fun _ => 0))) :: (qq1 2, .inl (cy 0, 25, .inl (fun _ => 0))) :: (qq1 1, .inl (cy 0, 25, .inl (fun _ => 0))) :: (qq1 0, .inl (cy 0, 200, .inl (fun _ => 0))) :: (q0, .inr (0, [.ref (qq1 0), .ref (qq1 1), .ref (qq1 2), .ref (qq1 3), .ref (qq1 4), .int 0, .int 0, .int 0, .int 0, .int 0, .int 0, .int 0, .int 0])) :: (h0, .inr (3, [.ref q0, .ref q6, .null])) :: X) H := hP
  have hD : va_D A ((qq7 0, .inl (cy 0, 338, .inl (fun _ => 0))) :: (q6, .inr (2, [.ref (qq7 0), .int 0])) :: (qq1 4, .inl (cy 0, 505, .inl (fun _ => 0))) :: (qq1 3, .inl (cy 0, 4, .inl (fun _ => 0))) :: (qq1 2, .inl (cy 0, 25, .inl (fun _ => 0))) :: (qq1 1, .inl (cy 0, 25, .inl (fun _ => 0))) :: (qq1 0, .inl (cy 0, 200, .inl (fun _ => 0))) :: (q0, .inr (0, [.ref (qq1 0), .ref (qq1 1), .ref (qq1 2), .ref (qq1 3), .ref (qq1 4), .int 0, .int 0, .int 0, .int 0, .int 0, .int 0, .int 0, .int 0])) :: (h0, .inr (3, [.ref q0, .ref q6, .null])) :: X) := hD
  refine lv_aload_n hx hb dX3_init_26 rfl (lv_at hl 0 rfl) ?_
  refine nw_O (C := RX1) (T := TX1) (N0 := 3) (ci := 1) hx hb hts hin_X1 tyX1 tyX1_ok hown (hts _ (List.mem_of_getElem? (i := 12) rfl)) (hts _ (List.mem_of_getElem? (i := 13) rfl)) (hts _ (List.mem_of_getElem? (i := 14) rfl)) hK hP hD hS hA rfl [.null, .null, .null] (fun j hj => by rcases (show j = 0 ∨ j = 1 ∨ j = 2 by omega) with rfl | rfl | rfl <;> rfl) (Nat.le_of_ble_eq_true rfl) (Nat.le_of_ble_eq_true rfl) dX3_init_27 (fun q8 H hP hD hS => ?_)
  refine lv_dup hx hb dX3_init_30 rfl ?_
  refine ci_N (rest := [.ref q8, .ref h0]) ⟨hx, hb, hml, hown, hts⟩ hK (kX1_init l D cy q8 ((qq7 0, .inl (cy 0, 338, .inl (fun _ => 0))) :: (q6, .inr (2, [.ref (qq7 0), .int 0])) :: (qq1 4, .inl (cy 0, 505, .inl (fun _ => 0))) :: (qq1 3, .inl (cy 0, 4, .inl (fun _ => 0))) :: (qq1 2, .inl (cy 0, 25, .inl (fun _ => 0))) :: (qq1 1, .inl (cy 0, 25, .inl (fun _ => 0))) :: (qq1 0, .inl (cy 0, 200, .inl (fun _ => 0))) :: (q0, .inr (0, [.ref (qq1 0), .ref (qq1 1), .ref (qq1 2), .ref (qq1 3), .ref (qq1 4), .int 0, .int 0, .int 0, .int 0, .int 0, .int 0, .int 0, .int 0])) :: (h0, .inr (3, [.ref q0, .ref q6, .null])) :: X)) (va_cnB 0 hts gX3_init_X1_init_n25 rfl rfl rfl (hK.2 _ (List.mem_of_getElem? (i := 10) rfl)) (hts _ (List.mem_of_getElem? (i := 14) rfl)) (by decide +kernel) ⟨(Nat.le_of_ble_eq_true rfl), (Nat.le_of_ble_eq_true rfl)⟩) rfl (hts _ (List.mem_of_getElem? (i := 29) rfl)) hP hD hS hA hl.1 rfl (Nat.le_of_ble_eq_true rfl) dX3_init_31 ⟨(Nat.le_of_ble_eq_true rfl), (Nat.le_of_ble_eq_true rfl)⟩ (fun qq9 H locs hP hD hS => ?_)
  have hP : va_P D vwCl ((qq9 5, .inl (cy 0, 338, .inl (fun _ => 0))) :: (qq9 4, .inr (2, [.ref (qq9 5), .int 0])) :: (qq9 3, .inl (cy 0, 338, .inl (fun _ => 0))) :: (qq9 2, .inr (2, [.ref (qq9 3), .int 0])) :: (qq9 1, .inl (cy 0, 338, .inl (fun _ => 0))) :: (qq9 0, .inr (2, [.ref (qq9 1), .int 0])) :: (q8, .inr (1, [.ref (qq9 0), .ref (qq9 2), .ref (qq9 4)])) :: (qq7 0, .inl (cy 0, 338, .inl (fun _ => 0))) :: (q6, .inr (2, [.ref (qq7 0), .int 0])) :: (qq1 4, .inl (cy 0, 505, .inl (fun _ => 0))) :: (qq1 3, .inl (cy 0, 4, .inl (fun _ => 0))) :: (qq1 2, .inl (cy 0, 25, .inl (fun _ => 0))) :: (qq1 1, .inl (cy 0, 25, .inl (fun _ => 0))) :: (qq1 0, .inl (cy 0, 200, .inl (fun _ => 0))) :: (q0, .inr (0, [.ref (qq1 0), .ref (qq1 1), .ref (qq1 2), .ref (qq1 3), .ref (qq1 4), .int 0, .int 0, .int 0, .int 0, .int 0, .int 0, .int 0, .int 0])) :: (h0, .inr (3, [.ref q0, .ref q6, .null])) :: X) H := hP
  have hD : va_D A ((qq9 5, .inl (cy 0, 338, .inl (fun _ => 0))) :: (qq9 4, .inr (2, [.ref (qq9 5), .int 0])) :: (qq9 3, .inl (cy 0, 338, .inl (fun _ => 0))) :: (qq9 2, .inr (2, [.ref (qq9 3), .int 0])) :: (qq9 1, .inl (cy 0, 338, .inl (fun _ => 0))) :: (qq9 0, .inr (2, [.ref (qq9 1), .int 0])) :: (q8, .inr (1, [.ref (qq9 0), .ref (qq9 2), .ref (qq9 4)])) :: (qq7 0, .inl (cy 0, 338, .inl (fun _ => 0))) :: (q6, .inr (2, [.ref (qq7 0), .int 0])) :: (qq1 4, .inl (cy 0, 505, .inl (fun _ => 0))) :: (qq1 3, .inl (cy 0, 4, .inl (fun _ => 0))) :: (qq1 2, .inl (cy 0, 25, .inl (fun _ => 0))) :: (qq1 1, .inl (cy 0, 25, .inl (fun _ => 0))) :: (qq1 0, .inl (cy 0, 200, .inl (fun _ => 0))) :: (q0, .inr (0, [.ref (qq1 0), .ref (qq1 1), .ref (qq1 2), .ref (qq1 3), .ref (qq1 4), .int 0, .int 0, .int 0, .int 0, .int 0, .int 0, .int 0, .int 0])) :: (h0, .inr (3, [.ref q0, .ref q6, .null])) :: X) := hD
  refine va_putF (D := D) (ci := 3) (v := .ref q8) (ty := .object "Stormroof$Outlook") (C := RX3) (T := TX3) (N := 3) hx hb hts hin_X3 tyX3 tyX3_ok nmX3 hown hK.1 hP hD hS 15 rfl rfl 2 (by decide) (hts _ (List.mem_of_getElem? (i := 15) rfl)) (fun _ h9 => h9) rfl hname rfl (by decide +kernel) rfl rfl (Nat.le_of_ble_eq_true rfl) dX3_init_34 (fun H locs hP hD hS => ?_)
  have hP : va_P D vwCl ((qq9 5, .inl (cy 0, 338, .inl (fun _ => 0))) :: (qq9 4, .inr (2, [.ref (qq9 5), .int 0])) :: (qq9 3, .inl (cy 0, 338, .inl (fun _ => 0))) :: (qq9 2, .inr (2, [.ref (qq9 3), .int 0])) :: (qq9 1, .inl (cy 0, 338, .inl (fun _ => 0))) :: (qq9 0, .inr (2, [.ref (qq9 1), .int 0])) :: (q8, .inr (1, [.ref (qq9 0), .ref (qq9 2), .ref (qq9 4)])) :: (qq7 0, .inl (cy 0, 338, .inl (fun _ => 0))) :: (q6, .inr (2, [.ref (qq7 0), .int 0])) :: (qq1 4, .inl (cy 0, 505, .inl (fun _ => 0))) :: (qq1 3, .inl (cy 0, 4, .inl (fun _ => 0))) :: (qq1 2, .inl (cy 0, 25, .inl (fun _ => 0))) :: (qq1 1, .inl (cy 0, 25, .inl (fun _ => 0))) :: (qq1 0, .inl (cy 0, 200, .inl (fun _ => 0))) :: (q0, .inr (0, [.ref (qq1 0), .ref (qq1 1), .ref (qq1 2), .ref (qq1 3), .ref (qq1 4), .int 0, .int 0, .int 0, .int 0, .int 0, .int 0, .int 0, .int 0])) :: (h0, .inr (3, [.ref q0, .ref q6, .ref q8])) :: X) H := hP
  have hD : va_D A ((qq9 5, .inl (cy 0, 338, .inl (fun _ => 0))) :: (qq9 4, .inr (2, [.ref (qq9 5), .int 0])) :: (qq9 3, .inl (cy 0, 338, .inl (fun _ => 0))) :: (qq9 2, .inr (2, [.ref (qq9 3), .int 0])) :: (qq9 1, .inl (cy 0, 338, .inl (fun _ => 0))) :: (qq9 0, .inr (2, [.ref (qq9 1), .int 0])) :: (q8, .inr (1, [.ref (qq9 0), .ref (qq9 2), .ref (qq9 4)])) :: (qq7 0, .inl (cy 0, 338, .inl (fun _ => 0))) :: (q6, .inr (2, [.ref (qq7 0), .int 0])) :: (qq1 4, .inl (cy 0, 505, .inl (fun _ => 0))) :: (qq1 3, .inl (cy 0, 4, .inl (fun _ => 0))) :: (qq1 2, .inl (cy 0, 25, .inl (fun _ => 0))) :: (qq1 1, .inl (cy 0, 25, .inl (fun _ => 0))) :: (qq1 0, .inl (cy 0, 200, .inl (fun _ => 0))) :: (q0, .inr (0, [.ref (qq1 0), .ref (qq1 1), .ref (qq1 2), .ref (qq1 3), .ref (qq1 4), .int 0, .int 0, .int 0, .int 0, .int 0, .int 0, .int 0, .int 0])) :: (h0, .inr (3, [.ref q0, .ref q6, .ref q8])) :: X) := hD
  refine lv_aload_n hx hb dX3_init_37 rfl (lv_at hl 0 rfl) ?_
  obtain ⟨q, eq⟩ : ∃ q : Nat → Nat, q = (fun k => match k with | 0 => q0 | 1 => (qq1 0) | 2 => (qq1 1) | 3 => (qq1 2) | 4 => (qq1 3) | 5 => (qq1 4) | 6 => q6 | 7 => (qq7 0) | 8 => (qq9 0) | 9 => (qq9 1) | 10 => (qq9 2) | 11 => (qq9 3) | 12 => (qq9 4) | 13 => (qq9 5) | _ => q8) := ⟨_, rfl⟩
  have hP : va_P D vwCl (wC cy (adM h0 q) X S0C) H := by rw [eq]; exact hP
  have hD : va_D A (wC cy (adM h0 q) X S0C) := by rw [eq]; exact hD
  refine va_get (D := D) (ci := 3) (v := .ref (adM h0 q 1)) (C := RX3) (T := TX3) (N := 3) hx hb hts hin_X3 hown hK.1 hP 15 rfl rfl 0 (by decide) (hts _ (List.mem_of_getElem? (i := 7) rfl)) (fun _ h9 => h9) rfl dX3_init_38 ?_
  refine lv_iconst (v := 5) hx hb dX3_init_41 (by decide) ?_
  refine lv_iconst (v := 5) hx hb dX3_init_42 (by decide) ?_
  refine lv_iconst (v := 2) hx hb dX3_init_43 (by decide) ?_
  refine lv_iconst (v := 0) hx hb dX3_init_44 (by decide) ?_
  refine lv_iconst (v := 0) hx hb dX3_init_45 (by decide) ?_
  have XX : CX p s m [.ref h0].toArray meth c cX3_init 1 RX3 wsX3_init D cy (wC cy (adM h0 q) X) A := ⟨hx, hb, hml, hown, hts, hlk, hK, hA, hw_of (wC_fst cy (adM h0 q) X) hD⟩
  refine cgs_V (q0 := 14) (ci := 0) (As := [.int 5, .int 5, .int 2, .int 0, .int 0]) (rest := []) XX hX ⟨hP, hD, hS⟩ (kX0_start l t1 t2 D cy (adM h0 q) X S0C 5 5 2 0 0 r hf) (cwV 5 hts gX3_init_X0_start rfl rfl rfl (by decide +kernel) ⟨(Nat.le_of_ble_eq_true rfl), (Nat.le_of_ble_eq_true rfl)⟩) rfl rfl rfl hl.1 rfl (Nat.le_of_ble_eq_true rfl) dX3_init_46 ⟨(Nat.le_of_ble_eq_true rfl), (Nat.le_of_ble_eq_true rfl)⟩ (st2 := []) (pc2 := 49) rfl rfl (fun H locs T => ?_)
  refine W.widen (k := 15) (n := 2135) (Nat.le_of_ble_eq_true rfl) (Nat.le_of_ble_eq_true rfl) ?_
  exact W.vret hx hb hr (fun t ht _ => ⟨rfl, ⟨q, by rw [ht]; exact T.1, T.2.1⟩, T.2.2.F ht⟩) T.2.2.2.2 dX3_init_49 hlk
