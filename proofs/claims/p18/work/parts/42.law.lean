/-! the law's walk, from pure facts about the methods' functions -/
/-- the script's cell j, or what stands for one beyond its end -/
def xc (L : Nat) (xs : Nat → Int32) (j : Nat) : Int32 := if Int32.ofNat L ≤ nI j then ((7919 : Int32) * (nI j + 587)) * (nI j + 1279) else xs j
def PGx {σ : Type} (D : va_G) (cy : Nat → ClassId) (w : σ → va_W) (b L : Nat) (xs : Nat → Int32) (sz : Nat) (av : List Value) (S : σ) : Array Value → State → Prop := fun v U => PG D cy w sz av S v U ∧ va_X b L xs U U.heap ∧ b < U.heap.size ∧ ¬ AW w sz b
theorem PGx_blind {σ : Type} {D : va_G} {cy : Nat → ClassId} {w : σ → va_W} {b L : Nat} {xs : Nat → Int32} {sz : Nat} {av : List Value} {S : σ} : FrameBlind (PGx D cy w b L xs sz av S) := by
  intro v U g mk ⟨h1, h2, h3, h4⟩
  exact ⟨PG_blind v U g mk h1, h2.moved (u := U) (U := U.calling g mk v) (Vm.Alike.refl U.vm), h3, h4⟩
set_option maxHeartbeats 8000000 in
set_option maxRecDepth 100000 in
theorem kL_cell {σ : Type} (l : Launch) (D : va_G) (cy : Nat → ClassId) (w : σ → va_W) (b L : Nat) (xs : Nat → Int32) (hL : L ≤ 260) (S : σ) (j : Nat) (hj : j ≤ 100) (sz : Nat) : Met l yL_cell wsL_cell ({ frames := 0, cells := 0, slots := 0, locals := 0 } : Room) (PGx D cy w b L xs sz [.ref b, .int (nI j)] S) (QG D w (AW w sz) (some (.int (xc L xs j))) S) 0 0 (AW w sz) := by
  refine Met.ofW (cc := cL_cell) (maxL := 2) (ret := (some .int)) (by decide +kernel) rfl ?_
  intro p e s m args below meth c s₁ B hml hv
  obtain ⟨⟨rfl, hsz, ⟨hP, hD0⟩, hK⟩, hXs, hbl, hbA⟩ := hv
  subst hsz
  have hx := B.exec
  have hb := B.bytes
  have hr := B.returns
  have hlk := B.notSynchronized
  have hS : va_S (AW w s.heap.size) s.heap s.heap [] := va_S.rf
  rw [lg_entry_eq]
  have hl := lv_entry ([.ref b, .int (nI j)]) (n := 2) (Nat.le_of_ble_eq_true rfl)
  generalize (lg_sl ([.ref b, .int (nI j)]) ++ List.replicate (2 - (lg_sl ([.ref b, .int (nI j)])).length) Slot.unset).toArray = ls at hl ⊢
  have hl : lv_has ls 2 [(0, .ref b), (1, .int (nI j))] := hl
  refine lv_iload_n hx hb dL_cell_0 rfl (lv_at hl 1 rfl) ?_
  refine lv_aload_n hx hb dL_cell_1 rfl (lv_at hl 0 rfl) ?_
  refine va_slen hx hb hXs hbl hbA hS dL_cell_2 ?_
  refine lv_icmp_ge (tgt := 12) hx hb dL_cell_3 (by decide) (fun hc => ?_) (fun hc => ?_)
  · refine lv_sipush (v := 7919) hx hb dL_cell_12 (by decide) ?_
    refine lv_iload_n hx hb dL_cell_15 rfl (lv_at hl 1 rfl) ?_
    refine lv_sipush (v := 587) hx hb dL_cell_16 (by decide) ?_
    refine lv_iadd hx hb dL_cell_19 ?_
    refine lv_imul hx hb dL_cell_20 ?_
    refine lv_iload_n hx hb dL_cell_21 rfl (lv_at hl 1 rfl) ?_
    refine lv_sipush (v := 1279) hx hb dL_cell_22 (by decide) ?_
    refine lv_iadd hx hb dL_cell_25 ?_
    refine lv_imul hx hb dL_cell_26 ?_
    have ev : xc L xs j = ((7919 : Int32) * (nI j + 587)) * (nI j + 1279) := if_pos hc
    rw [ev]
    exact W.iret hx hb hr (fun t ht _ => ⟨rfl, ⟨by rw [ht]; exact hP, hD0⟩, hS.F ht⟩) hS.2.2 dL_cell_27 hlk
  · have hlt : j < L := Nat.not_le.mp fun q => hc (nI_le q (by omega))
    refine lv_aload_n hx hb dL_cell_6 rfl (lv_at hl 0 rfl) ?_
    refine lv_iload_n hx hb dL_cell_7 rfl (lv_at hl 1 rfl) ?_
    refine va_sld hx hb hXs hbl hbA hS (vp_in_nI hlt (by omega)) dL_cell_8 ?_
    refine lv_goto (tgt := 27) hx hb dL_cell_9 (by decide) ?_
    have ev : xc L xs j = xs (nI j).toNatClampNeg := by rw [nI_clamp (by omega)]; exact if_neg hc
    rw [ev]
    exact W.iret hx hb hr (fun t ht _ => ⟨rfl, ⟨by rw [ht]; exact hP, hD0⟩, hS.F ht⟩) hS.2.2 dL_cell_27 hlk
/-- what holds all through the law's body -/
def LX (p : Program) (s : State) (m : MethodId) (args : Array Value) (meth : Method) (c : Code) (t1 t2 : Nat) (D : va_G) (cy : Nat → ClassId) : Prop :=
  p.tables.exec = Jvm.exec ∧ c.code = code ∧ c.maxLocals = 10 ∧ s.vm.findClass RL = some m.cls ∧ (∀ w ∈ wsL_law, w.before args s = true) ∧ meth.locks = false ∧ KX D cy s ∧ SX t1 t2 (fun q => s.heap.size ≤ q) s s.heap ∧ KNc s
/-- the two objects, at the states S and P -/
def L2 (D : va_G) (cy : Nat → ClassId) (ad ap : Nat → Nat) (s : State) (S P : SC) (H : Heap) (locs : List Loc) : Prop := ST D (w2 cy ad ap) (fun q => s.heap.size ≤ q) s (S, P) H locs
theorem LX.cx {σ : Type} {p : Program} {s : State} {m : MethodId} {args : Array Value} {meth : Method} {c : Code} {t1 t2 : Nat} {D : va_G} {cy : Nat → ClassId} {w : σ → va_W} {S0 : σ} (C : LX p s m args meth c t1 t2 D cy) (hf : ∀ S S' : σ, (w S).map (fun z => z.1) = (w S').map (fun z => z.1)) (hD : va_D (fun q => s.heap.size ≤ q) (w S0)) : CX p s m args meth c code 10 RL wsL_law D cy w (fun q => s.heap.size ≤ q) :=
  ⟨C.1, C.2.1, C.2.2.1, C.2.2.2.1, C.2.2.2.2.1, C.2.2.2.2.2.1, C.2.2.2.2.2.2.1, fun _ h => h, hw_of hf hD⟩
section LAWS
variable {p : Program} {l : Launch} {e : Env} {R : Room} {s : State} {m : MethodId} {args : Array Value} {below : List Frame} {meth : Method} {c : Code} {H : Heap} {locs : List Loc} {cells slots : Nat} {Q : State → Prop}
variable {D : va_G} {cy : Nat → ClassId} {ad ap : Nat → Nat} {t1 t2 pc : Nat} {ls : Array Slot} {rest st : List Value} {S S' P P' : SC} {v : Option Value}
theorem L2.toFst (T : L2 D cy ad ap s S P H locs) : ST D (wC cy ad (wC cy ap [] P)) (fun q => s.heap.size ≤ q) s S H locs := T
theorem L2.ofFst (T : ST D (wC cy ad (wC cy ap [] P)) (fun q => s.heap.size ≤ q) s S H locs) : L2 D cy ad ap s S P H locs := T
theorem L2.toSnd (T : L2 D cy ad ap s S P H locs) : ST D (wC cy ap (wC cy ad [] S)) (fun q => s.heap.size ≤ q) s P H locs := sub_T (w' := wC cy ap (wC cy ad [] S)) (S1 := P) T (w2_y cy ad ap (S, P))
theorem L2.ofSnd (T : ST D (wC cy ap (wC cy ad [] S)) (fun q => s.heap.size ≤ q) s P H locs) : L2 D cy ad ap s S P H locs := sub_T (w' := w2 cy ad ap) (S1 := (S, P)) T (w2_y cy ad ap (S, P)).symm

/-- a call of 'cell' -/
theorem law_X {b L : Nat} {xs : Nat → Int32} (hL : L ≤ 260) (hXs : va_X b L xs s s.heap) (hbl : b < s.heap.size) (C : LX p s m args meth c t1 t2 D cy) (T : L2 D cy ad ap s S P H locs) {j index n maxL : Nat} {bytes : ByteArray} {ret : Option FieldType} (hj : j ≤ 100)
    (cw : CallB R s args RL index yL_cell bytes maxL ret wsL_cell ({ frames := 0, cells := 0, slots := 0, locals := 0 } : Room) 0 0 n ∧ (Cond.static yL_cell).before args s = true) (hn : 2 = n) (hsz : ls.size = 10) (hst : st = .int (nI j) :: .ref b :: rest) (hroom : (rest.map fun v => v.category).sum ≤ 8) (hdg : decode code pc = .ok (.invokestatic index, 3)) (hcs : cells ≤ R.cells ∧ slots ≤ R.slots) {pc2 : Nat} (h3 : pc + 3 = pc2)
    (kk : ∀ (H1 : Heap) (locs1 : List Loc), L2 D cy ad ap s S P H1 locs1 → W p l e R s m args below meth c H1 locs1 cells slots Q (F0 m pc2 ls (.int (xc L xs j) :: rest))) : W p l e R s m args below meth c H locs cells slots Q (F0 m pc ls st) := by
  have X : CX p s m args meth c code 10 RL wsL_law D cy (w2 cy ad ap) (fun q => s.heap.size ≤ q) := C.cx (w2_fst cy ad ap) T.2.1
  have hbA : ¬ (fun q : Nat => s.heap.size ≤ q) b := Nat.not_le.mpr hbl
  have hX2 : ∀ U : State, U.heap = H → s.WarmedH U.vm → va_X b L xs U U.heap := fun U hU hW => by
    rw [hU]
    exact (va_X.moved hW.alike hXs).kept (T.2.2.2.1 b hbl hbA)
  refine cl_go (w := w2 cy ad ap) (S := (S, P)) X (va_runS (As := [.ref b, .int (nI j)]) (rest := rest) ⟨X.1, X.2.1, X.2.2.1, X.2.2.2.1, X.2.2.2.2.1⟩ (kL_cell l D cy (w2 cy ad ap) b L xs hL (S, P) j hj H.size) cw ⟨PGx_blind, fun U hU hW => ⟨PG_of (w := w2 cy ad ap) (S := (S, P)) X T U hU hW, hX2 U hU hW, by rw [hU]; exact Nat.lt_of_lt_of_le hbl T.2.2.1, fun h => hbA (AW_in (w := w2 cy ad ap) (S := (S, P)) X T b h)⟩⟩ rfl hn hsz hst (lv_room hroom) hdg hcs) T (fun H1 locs1 T1 => by rw [h3]; exact kk H1 locs1 T1)
/-- a call of 'low' -/
theorem law_L {x n0 r : Int32} {index n maxL : Nat} {bytes : ByteArray} {ret : Option FieldType} {rm : Room} (C : LX p s m args meth c t1 t2 D cy) (T : L2 D cy ad ap s S P H locs) (hM : CG l D cy (wC cy ad (wC cy ap [] P)) yL_low wsL_low rm [.int x, .int n0] S (some (.int r)) S)
    (cw : CallB R s args RL index yL_low bytes maxL ret wsL_low rm 0 0 n ∧ (Cond.static yL_low).before args s = true) (hn : 2 = n) (hsz : ls.size = 10) (hst : st = .int n0 :: .int x :: rest) (hroom : (rest.map fun v => v.category).sum ≤ 8) (hdg : decode code pc = .ok (.invokestatic index, 3)) (hcs : cells ≤ R.cells ∧ slots ≤ R.slots) {pc2 : Nat} (h3 : pc + 3 = pc2)
    (kk : ∀ (H1 : Heap) (locs1 : List Loc), L2 D cy ad ap s S P H1 locs1 → W p l e R s m args below meth c H1 locs1 cells slots Q (F0 m pc2 ls (.int r :: rest))) : W p l e R s m args below meth c H locs cells slots Q (F0 m pc ls st) :=
  cg_S (As := [.int x, .int n0]) (rest := rest) (C.cx (wC_fst cy ad (wC cy ap [] P)) (L2.toFst T).2.1) (L2.toFst T) hM cw hn hsz hst hroom hdg hcs rfl h3 (fun H1 locs1 T1 => kk H1 locs1 (L2.ofFst T1))
/-- a call of a helper over the first object -/
theorem law_O {y : MethodName} {wds : List Cond} {rm : Room} {As : List Value} {index n maxL : Nat} {bytes : ByteArray} {ret : Option FieldType} {k : Int32} (C : LX p s m args meth c t1 t2 D cy) (T : L2 D cy ad ap s S P H locs) (hM : CL l t1 t2 D cy (wC cy ad (wC cy ap [] P)) y wds rm As S (some (.int k)) S')
    (cw : CallB R s args RL index y bytes maxL ret wds rm rm.cells rm.slots n ∧ (Cond.static y).before args s = true) (hn : As.length = n) (hsz : ls.size = 10) (hst : st = As.reverse ++ rest) (hroom : (rest.map fun v => v.category).sum ≤ 8) (hdg : decode code pc = .ok (.invokestatic index, 3)) (hcs : cells + rm.cells ≤ R.cells ∧ slots + rm.slots ≤ R.slots) {pc2 c2 s2 : Nat} (h3 : pc + 3 = pc2) (h4 : cells + rm.cells = c2) (h5 : slots + rm.slots = s2)
    (kk : ∀ (H1 : Heap) (locs1 : List Loc), L2 D cy ad ap s S' P H1 locs1 → W p l e R s m args below meth c H1 locs1 c2 s2 Q (F0 m pc2 ls (.int k :: rest))) : W p l e R s m args below meth c H locs cells slots Q (F0 m pc ls st) :=
  cl_S (C.cx (wC_fst cy ad (wC cy ap [] P)) (L2.toFst T).2.1) C.2.2.2.2.2.2.2.1 C.2.2.2.2.2.2.2.2 (L2.toFst T) hM cw hn hsz hst hroom hdg hcs rfl h3 h4 h5 (fun H1 locs1 T1 => kk H1 locs1 (L2.ofFst T1))
/-- the same, of one that catches -/
theorem law_OW {y : MethodName} {wds : List Cond} {rm : Room} {As : List Value} {index n maxL : Nat} {bytes : ByteArray} {ret : Option FieldType} {hh : List (Nat × Nat × Nat × Nat)} {k : Int32} (C : LX p s m args meth c t1 t2 D cy) (T : L2 D cy ad ap s S P H locs) (hM : CL l t1 t2 D cy (wC cy ad (wC cy ap [] P)) y wds rm As S (some (.int k)) S')
    (cw : vx_CSW R s args RL index y bytes maxL ret hh wds rm rm.cells rm.slots n) (hn : As.length = n) (hsz : ls.size = 10) (hst : st = As.reverse ++ rest) (hroom : (rest.map fun v => v.category).sum ≤ 8) (hdg : decode code pc = .ok (.invokestatic index, 3)) (hcs : cells + rm.cells ≤ R.cells ∧ slots + rm.slots ≤ R.slots) {pc2 c2 s2 : Nat} (h3 : pc + 3 = pc2) (h4 : cells + rm.cells = c2) (h5 : slots + rm.slots = s2)
    (kk : ∀ (H1 : Heap) (locs1 : List Loc), L2 D cy ad ap s S' P H1 locs1 → W p l e R s m args below meth c H1 locs1 c2 s2 Q (F0 m pc2 ls (.int k :: rest))) : W p l e R s m args below meth c H locs cells slots Q (F0 m pc ls st) :=
  cl_SW (C.cx (wC_fst cy ad (wC cy ap [] P)) (L2.toFst T).2.1) C.2.2.2.2.2.2.2.1 C.2.2.2.2.2.2.2.2 (L2.toFst T) hM cw hn hsz hst hroom hdg hcs rfl h3 h4 h5 (fun H1 locs1 T1 => kk H1 locs1 (L2.ofFst T1))
/-- a call of a helper over the second object -/
theorem law_P {y : MethodName} {wds : List Cond} {rm : Room} {As : List Value} {index n maxL : Nat} {bytes : ByteArray} {ret : Option FieldType} {k : Int32} (C : LX p s m args meth c t1 t2 D cy) (T : L2 D cy ad ap s S P H locs) (hM : CL l t1 t2 D cy (wC cy ap (wC cy ad [] S)) y wds rm As P (some (.int k)) P')
    (cw : CallB R s args RL index y bytes maxL ret wds rm rm.cells rm.slots n ∧ (Cond.static y).before args s = true) (hn : As.length = n) (hsz : ls.size = 10) (hst : st = As.reverse ++ rest) (hroom : (rest.map fun v => v.category).sum ≤ 8) (hdg : decode code pc = .ok (.invokestatic index, 3)) (hcs : cells + rm.cells ≤ R.cells ∧ slots + rm.slots ≤ R.slots) {pc2 c2 s2 : Nat} (h3 : pc + 3 = pc2) (h4 : cells + rm.cells = c2) (h5 : slots + rm.slots = s2)
    (kk : ∀ (H1 : Heap) (locs1 : List Loc), L2 D cy ad ap s S P' H1 locs1 → W p l e R s m args below meth c H1 locs1 c2 s2 Q (F0 m pc2 ls (.int k :: rest))) : W p l e R s m args below meth c H locs cells slots Q (F0 m pc ls st) :=
  cl_S (C.cx (wC_fst cy ap (wC cy ad [] S)) (L2.toSnd T).2.1) C.2.2.2.2.2.2.2.1 C.2.2.2.2.2.2.2.2 (L2.toSnd T) hM cw hn hsz hst hroom hdg hcs rfl h3 h4 h5 (fun H1 locs1 T1 => kk H1 locs1 (L2.ofSnd T1))
/-- the second object's own method -/
theorem law_PV {y : MethodName} {wds : List Cond} {rm : Room} {As : List Value} {index n maxL : Nat} {bytes : ByteArray} {ret : Option FieldType} {k : Int32} (C : LX p s m args meth c t1 t2 D cy) (T : L2 D cy ad ap s S P H locs) (hM : CGs l t1 t2 D cy (wC cy ap (wC cy ad [] S)) y wds rm (.ref (ap 0) :: As) P (some (.int k)) P')
    (cw : CallW R s args RL RX3 index y bytes maxL ret wds rm 0 0 n) (hn : As.length = n) (hsz : ls.size = 10) (hst : st = As.reverse ++ .ref (ap 0) :: rest) (hroom : (rest.map fun v => v.category).sum ≤ 8) (hdg : decode code pc = .ok (.invokevirtual index, 3)) (hcs : cells ≤ R.cells ∧ slots ≤ R.slots) {pc2 : Nat} (h3 : pc + 3 = pc2)
    (kk : ∀ (H1 : Heap) (locs1 : List Loc), L2 D cy ad ap s S P' H1 locs1 → W p l e R s m args below meth c H1 locs1 cells slots Q (F0 m pc2 ls (.int k :: rest))) : W p l e R s m args below meth c H locs cells slots Q (F0 m pc ls st) :=
  cgs_V (q0 := 15) (ci := 3) (C.cx (wC_fst cy ap (wC cy ad [] S)) (L2.toSnd T).2.1) C.2.2.2.2.2.2.2.1 (L2.toSnd T) hM cw rfl rfl hn hsz hst hroom hdg hcs rfl h3 (fun H1 locs1 T1 => kk H1 locs1 (L2.ofSnd T1))
/-- a call of areAlike -/
theorem law_A {rm : Room} {index n maxL : Nat} {bytes : ByteArray} {ret : Option FieldType} {x k : Int32} (C : LX p s m args meth c t1 t2 D cy) (T : L2 D cy ad ap s S P H locs) (hM : CL l t1 t2 D cy (w2 cy ad ap) yL_areAlike wsL_areAlike rm [.ref (ad 0), .ref (ap 0), .int x] (S, P) (some (.int k)) (S', P'))
    (cw : CallB R s args RL index yL_areAlike bytes maxL ret wsL_areAlike rm rm.cells rm.slots n ∧ (Cond.static yL_areAlike).before args s = true) (hn : 3 = n) (hsz : ls.size = 10) (hst : st = .int x :: .ref (ap 0) :: .ref (ad 0) :: rest) (hroom : (rest.map fun v => v.category).sum ≤ 8) (hdg : decode code pc = .ok (.invokestatic index, 3)) (hcs : cells + rm.cells ≤ R.cells ∧ slots + rm.slots ≤ R.slots) {pc2 c2 s2 : Nat} (h3 : pc + 3 = pc2) (h4 : cells + rm.cells = c2) (h5 : slots + rm.slots = s2)
    (kk : ∀ (H1 : Heap) (locs1 : List Loc), L2 D cy ad ap s S' P' H1 locs1 → W p l e R s m args below meth c H1 locs1 c2 s2 Q (F0 m pc2 ls (.int k :: rest))) : W p l e R s m args below meth c H locs cells slots Q (F0 m pc ls st) :=
  cl_S (As := [.ref (ad 0), .ref (ap 0), .int x]) (rest := rest) (C.cx (w2_fst cy ad ap) T.2.1) C.2.2.2.2.2.2.2.1 C.2.2.2.2.2.2.2.2 T hM cw hn hsz hst hroom hdg hcs rfl h3 h4 h5 (fun H1 locs1 T1 => kk H1 locs1 T1)
end LAWS
/-- the pure facts: I binds the two states and the number of cells -/
def LawOK (I : SC → SC → Int32 → Prop) : Prop := ∀ (S P : SC) (c : Int32), I S P c →
  (∀ x : Int32, ∃ (t : Int32) (S' : SC), fL_act S x = some (t, S') ∧ ((t = -99999 ∧ I S' P c) ∨ (¬ t = -99999 ∧ ∃ (P' : SC) (k : Int32), fL_act P x = some (t, P') ∧ (∀ U : SC, fL_low U x 24 = some k) ∧ I S' P' (if k = 0 then t else c)))) ∧
  (∃ S' P' : SC, fL_areAlike (S, P) c = some (1, (S', P')) ∧ I S' P' c) ∧
  (∃ S' : SC, fL_isBoardSo S c = some (1, S') ∧ I S' P c) ∧
  (∀ x : Int32, ∃ S' : SC, fL_areTurnsSo S c x = some (1, S') ∧ I S' P c) ∧
  (∃ S' : SC, fL_isWorthSo S = some (1, S') ∧ I S' P c)
/-- its start, from two new objects -/
def LawStart (I : SC → SC → Int32 → Prop) (S0 : SC) : Prop := ∀ x : Int32, ∃ (l1 l2 l3 l4 l5 : Int32) (S1 P1 : SC),
  (∀ U : SC, fL_low U x 3 = some l1) ∧ (∀ U : SC, fL_low U (x >>> ((3 : Int32) &&& 31)) 2 = some l2) ∧ (∀ U : SC, fL_low U (x >>> ((5 : Int32) &&& 31)) 2 = some l3) ∧ (∀ U : SC, fL_low U (x >>> ((7 : Int32) &&& 31)) 7 = some l4) ∧ (∀ U : SC, fL_low U (x >>> ((11 : Int32) &&& 31)) 7 = some l5) ∧
  fL_begin S0 ((2 : Int32) + l1) ((3 : Int32) + l2) ((1 : Int32) + l3) l4 l5 = some (((2 : Int32) + l1) * ((3 : Int32) + l2), S1) ∧ fX3_begin S0 ((2 : Int32) + l1) ((3 : Int32) + l2) ((1 : Int32) + l3) l4 l5 = some (.inl (((2 : Int32) + l1) * ((3 : Int32) + l2)), P1) ∧ I S1 P1 (((2 : Int32) + l1) * ((3 : Int32) + l2))

set_option maxHeartbeats 8000000 in
set_option maxRecDepth 100000 in
theorem law_269 {p : Program} {l : Launch} {e : Env} {s : State} {m : MethodId} {below : List Frame} {meth : Method} {c : Code} {t1 t2 : Nat} {D : va_G} {cy : Nat → ClassId} {ad ap : Nat → Nat} {b L : Nat} {xs : Nat → Int32} (hfl : l.stackTraces = false) (hL : L ≤ 260) (hXs : va_X b L xs s s.heap) (hbl : b < s.heap.size) (C : LX p s m #[Value.ref b] meth c t1 t2 D cy) {I : SC → SC → Int32 → Prop} (hok : LawOK I) (c0 s0 : Nat) (hc0 : c0 ≤ 100000) (hs0 : s0 ≤ 1000000) (j : Nat) (hj : j ≤ 60) (hend : ∀ (S P : SC) (n : Int32), I S P n → ∀ (H : Heap) (locs : List Loc), L2 D cy ad ap s S P H locs → ∀ (ls : Array Slot), lv_has ls 10 [(0, .ref b), (1, .ref (ad 0)), (2, .ref (ap 0)), (5, .int n), (7, .int (nI j))] → W p l e room_1 s m #[Value.ref b] below meth c H locs (c0 + 24) (s0 + 144) (lw_Z below #[Value.ref b] s) (F0 m 288 ls [])) {S P : SC} {n x : Int32} (hI : I S P n) {H : Heap} {locs : List Loc} (T : L2 D cy ad ap s S P H locs) {ls : Array Slot} (hl : lv_has ls 10 [(0, .ref b), (1, .ref (ad 0)), (2, .ref (ap 0)), (5, .int n), (7, .int (nI j)), (8, .int x)]) : W p l e room_1 s m #[Value.ref b] below meth c H locs (c0 + 19) (s0 + 114) (lw_Z below #[Value.ref b] s) (F0 m 269 ls []) := by
  obtain ⟨hx, hb, hml, hown, hts, hlk, -, -, -⟩ := id C
  refine lv_iload hx hb dL_law_269 (lv_at hl 4 rfl) ?_
  refine lv_bipush (v := 15) hx hb dL_law_271 (by decide) ?_
  refine lv_irem hx hb dL_law_273 (by decide) ?_
  refine lv_bipush (v := 14) hx hb dL_law_274 (by decide) ?_
  refine lv_icmp_ne (tgt := 288) hx hb dL_law_276 (by decide) (fun _ => ?_) (fun _ => ?_)
  · refine W.widen (k := c0 + 24) (n := s0 + 144) (by omega) (by omega) ?_
    exact hend S P n hI H locs T ls (lv_sub hl [0, 1, 2, 3, 4] rfl)
  · obtain ⟨S1, e1, hI1⟩ := (hok S P n hI).2.2.2.2
    refine lv_aload_n hx hb dL_law_279 rfl (lv_at hl 1 rfl) ?_
    refine law_O (As := [.ref (ad 0)]) (rest := []) (k := 1) (S' := S1) C T (kL_isWorthSo l hfl t1 t2 D cy ad (wC cy ap [] P) S (1, S1) e1) (va_cwS 1 hts gL_law_L_isWorthSo rfl rfl rfl (by decide +kernel) ⟨(Nat.le_of_ble_eq_true rfl), (Nat.le_of_ble_eq_true rfl)⟩) rfl hl.1 rfl (Nat.le_of_ble_eq_true rfl) dL_law_280 ⟨by dsimp only [room_1]; omega, by dsimp only [room_1]; omega⟩ (pc2 := 283) (c2 := (c0 + 24)) (s2 := (s0 + 144)) rfl rfl rfl (fun H locs T => ?_)
    refine lv_if_ne (tgt := 288) hx hb dL_law_283 (by decide) (fun _ => ?_) (fun hc => absurd hc (by decide))
    exact hend S1 P n hI1 H locs T ls (lv_sub hl [0, 1, 2, 3, 4] rfl)
set_option maxHeartbeats 8000000 in
set_option maxRecDepth 100000 in
theorem law_216 {p : Program} {l : Launch} {e : Env} {s : State} {m : MethodId} {below : List Frame} {meth : Method} {c : Code} {t1 t2 : Nat} {D : va_G} {cy : Nat → ClassId} {ad ap : Nat → Nat} {b L : Nat} {xs : Nat → Int32} (hfl : l.stackTraces = false) (hL : L ≤ 260) (hXs : va_X b L xs s s.heap) (hbl : b < s.heap.size) (C : LX p s m #[Value.ref b] meth c t1 t2 D cy) {I : SC → SC → Int32 → Prop} (hok : LawOK I) (c0 s0 : Nat) (hc0 : c0 ≤ 100000) (hs0 : s0 ≤ 1000000) (j : Nat) (hj : j ≤ 60) (hend : ∀ (S P : SC) (n : Int32), I S P n → ∀ (H : Heap) (locs : List Loc), L2 D cy ad ap s S P H locs → ∀ (ls : Array Slot), lv_has ls 10 [(0, .ref b), (1, .ref (ad 0)), (2, .ref (ap 0)), (5, .int n), (7, .int (nI j))] → W p l e room_1 s m #[Value.ref b] below meth c H locs (c0 + 24) (s0 + 144) (lw_Z below #[Value.ref b] s) (F0 m 288 ls [])) {S P : SC} {n x : Int32} (hI : I S P n) {H : Heap} {locs : List Loc} (T : L2 D cy ad ap s S P H locs) {ls : Array Slot} (hl : lv_has ls 10 [(0, .ref b), (1, .ref (ad 0)), (2, .ref (ap 0)), (7, .int (nI j)), (8, .int x)]) : W p l e room_1 s m #[Value.ref b] below meth c H locs (c0 + 10) (s0 + 60) (lw_Z below #[Value.ref b] s) (F0 m 216 ls [.int n]) := by
  obtain ⟨hx, hb, hml, hown, hts, hlk, -, -, -⟩ := id C
  obtain ⟨S1, P1, e1, hI1⟩ := (hok S P n hI).2.1
  obtain ⟨S2, e2, hI2⟩ := (hok S1 P1 n hI1).2.2.1
  refine lv_istore (lv' := [(5, .int n), (0, .ref b), (1, .ref (ad 0)), (2, .ref (ap 0)), (7, .int (nI j)), (8, .int x)]) hx hb dL_law_216 hl (by decide) rfl (fun ls hl => ?_)
  refine lv_aload_n hx hb dL_law_218 rfl (lv_at hl 2 rfl) ?_
  refine lv_aload_n hx hb dL_law_219 rfl (lv_at hl 3 rfl) ?_
  refine lv_iload hx hb dL_law_220 (lv_at hl 0 rfl) ?_
  refine law_A (rest := []) (k := 1) (S' := S1) (P' := P1) C T (kL_areAlike l hfl t1 t2 D cy ad ap (S, P) n (1, (S1, P1)) e1) (va_cwS 3 hts gL_law_L_areAlike rfl rfl rfl (by decide +kernel) ⟨(Nat.le_of_ble_eq_true rfl), (Nat.le_of_ble_eq_true rfl)⟩) rfl hl.1 rfl (Nat.le_of_ble_eq_true rfl) dL_law_222 ⟨by dsimp only [room_1]; omega, by dsimp only [room_1]; omega⟩ (pc2 := 225) (c2 := (c0 + 12)) (s2 := (s0 + 72)) rfl rfl rfl (fun H locs T => ?_)
  refine lv_if_eq (tgt := 286) hx hb dL_law_225 (by decide) (fun hc => absurd hc (by decide)) (fun _ => ?_)
  refine lv_aload_n hx hb dL_law_228 rfl (lv_at hl 2 rfl) ?_
  refine lv_iload hx hb dL_law_229 (lv_at hl 0 rfl) ?_
  refine law_O (As := [.ref (ad 0), .int n]) (rest := []) (k := 1) (S' := S2) C T (kL_isBoardSo l hfl t1 t2 D cy ad (wC cy ap [] P1) S1 n (1, S2) e2) (va_cwS 2 hts gL_law_L_isBoardSo rfl rfl rfl (by decide +kernel) ⟨(Nat.le_of_ble_eq_true rfl), (Nat.le_of_ble_eq_true rfl)⟩) rfl hl.1 rfl (Nat.le_of_ble_eq_true rfl) dL_law_231 ⟨by dsimp only [room_1]; omega, by dsimp only [room_1]; omega⟩ (pc2 := 234) (c2 := (c0 + 13)) (s2 := (s0 + 78)) rfl rfl rfl (fun H locs T => ?_)
  refine lv_if_eq (tgt := 286) hx hb dL_law_234 (by decide) (fun hc => absurd hc (by decide)) (fun _ => ?_)
  refine lv_iload hx hb dL_law_237 (lv_at hl 4 rfl) ?_
  refine lv_bipush (v := 6) hx hb dL_law_239 (by decide) ?_
  refine lv_irem hx hb dL_law_241 (by decide) ?_
  refine lv_iconst (v := 5) hx hb dL_law_242 (by decide) ?_
  refine lv_icmp_ne (tgt := 269) hx hb dL_law_243 (by decide) (fun _ => ?_) (fun _ => ?_)
  · refine W.widen (k := c0 + 19) (n := s0 + 114) (by omega) (by omega) ?_
    exact law_269 hfl hL hXs hbl C hok c0 s0 hc0 hs0 j hj hend hI2 T (lv_sub hl [1, 2, 3, 0, 4, 5] rfl)
  · obtain ⟨S3, e3, hI3⟩ := (hok S2 P1 n hI2).2.2.2.1 (x >>> ((5 : Int32) &&& 31))
    obtain ⟨S4, P4, e4, hI4⟩ := (hok S3 P1 n hI3).2.1
    refine lv_aload_n hx hb dL_law_246 rfl (lv_at hl 2 rfl) ?_
    refine lv_iload hx hb dL_law_247 (lv_at hl 0 rfl) ?_
    refine lv_iload hx hb dL_law_249 (lv_at hl 5 rfl) ?_
    refine lv_iconst (v := 5) hx hb dL_law_251 (by decide) ?_
    refine lv_ishr hx hb dL_law_252 ?_
    refine law_O (As := [.ref (ad 0), .int n, .int (x >>> ((5 : Int32) &&& 31))]) (rest := []) (k := 1) (S' := S3) C T (kL_areTurnsSo l hfl t1 t2 D cy ad (wC cy ap [] P1) S2 n (x >>> ((5 : Int32) &&& 31)) (1, S3) e3) (va_cwS 3 hts gL_law_L_areTurnsSo rfl rfl rfl (by decide +kernel) ⟨(Nat.le_of_ble_eq_true rfl), (Nat.le_of_ble_eq_true rfl)⟩) rfl hl.1 rfl (Nat.le_of_ble_eq_true rfl) dL_law_253 ⟨by dsimp only [room_1]; omega, by dsimp only [room_1]; omega⟩ (pc2 := 256) (c2 := (c0 + 17)) (s2 := (s0 + 102)) rfl rfl rfl (fun H locs T => ?_)
    refine lv_if_eq (tgt := 286) hx hb dL_law_256 (by decide) (fun hc => absurd hc (by decide)) (fun _ => ?_)
    refine lv_aload_n hx hb dL_law_259 rfl (lv_at hl 2 rfl) ?_
    refine lv_aload_n hx hb dL_law_260 rfl (lv_at hl 3 rfl) ?_
    refine lv_iload hx hb dL_law_261 (lv_at hl 0 rfl) ?_
    refine law_A (rest := []) (k := 1) (S' := S4) (P' := P4) C T (kL_areAlike l hfl t1 t2 D cy ad ap (S3, P1) n (1, (S4, P4)) e4) (va_cwS 3 hts gL_law_L_areAlike rfl rfl rfl (by decide +kernel) ⟨(Nat.le_of_ble_eq_true rfl), (Nat.le_of_ble_eq_true rfl)⟩) rfl hl.1 rfl (Nat.le_of_ble_eq_true rfl) dL_law_263 ⟨by dsimp only [room_1]; omega, by dsimp only [room_1]; omega⟩ (pc2 := 266) (c2 := (c0 + 19)) (s2 := (s0 + 114)) rfl rfl rfl (fun H locs T => ?_)
    refine lv_if_eq (tgt := 286) hx hb dL_law_266 (by decide) (fun hc => absurd hc (by decide)) (fun _ => ?_)
    exact law_269 hfl hL hXs hbl C hok c0 s0 hc0 hs0 j hj hend hI4 T (lv_sub hl [1, 2, 3, 0, 4, 5] rfl)
set_option maxHeartbeats 8000000 in
set_option maxRecDepth 100000 in
theorem law_round {p : Program} {l : Launch} {e : Env} {s : State} {m : MethodId} {below : List Frame} {meth : Method} {c : Code} {t1 t2 : Nat} {D : va_G} {cy : Nat → ClassId} {ad ap : Nat → Nat} {b L : Nat} {xs : Nat → Int32} (hfl : l.stackTraces = false) (hL : L ≤ 260) (hXs : va_X b L xs s s.heap) (hbl : b < s.heap.size) (C : LX p s m #[Value.ref b] meth c t1 t2 D cy) {I : SC → SC → Int32 → Prop} (hok : LawOK I) (c0 s0 : Nat) (hc0 : c0 ≤ 100000) (hs0 : s0 ≤ 1000000) (j : Nat) (hj : j ≤ 60) (hend : ∀ (S P : SC) (n : Int32), I S P n → ∀ (H : Heap) (locs : List Loc), L2 D cy ad ap s S P H locs → ∀ (ls : Array Slot), lv_has ls 10 [(0, .ref b), (1, .ref (ad 0)), (2, .ref (ap 0)), (5, .int n), (7, .int (nI j))] → W p l e room_1 s m #[Value.ref b] below meth c H locs (c0 + 24) (s0 + 144) (lw_Z below #[Value.ref b] s) (F0 m 288 ls [])) {S P : SC} {n : Int32} (hI : I S P n) {H : Heap} {locs : List Loc} (T : L2 D cy ad ap s S P H locs) {ls : Array Slot} (hl : lv_has ls 10 [(0, .ref b), (1, .ref (ad 0)), (2, .ref (ap 0)), (5, .int n), (7, .int (nI j))]) : W p l e room_1 s m #[Value.ref b] below meth c H locs (c0 + 0) (s0 + 0) (lw_Z below #[Value.ref b] s) (F0 m 156 ls []) := by
  obtain ⟨hx, hb, hml, hown, hts, hlk, -, -, -⟩ := id C
  obtain ⟨t, S1, e1, hcase⟩ := (hok S P n hI).1 (xc L xs j)
  refine lv_aload_n hx hb dL_law_156 rfl (lv_at hl 0 rfl) ?_
  refine lv_iload hx hb dL_law_157 (lv_at hl 4 rfl) ?_
  refine law_X hL hXs hbl C T (j := j) (rest := []) (by omega) (va_cwS 2 hts gL_law_L_cell rfl rfl rfl (by decide +kernel) ⟨(Nat.le_of_ble_eq_true rfl), (Nat.le_of_ble_eq_true rfl)⟩) rfl hl.1 rfl (Nat.le_of_ble_eq_true rfl) dL_law_159 ⟨by dsimp only [room_1]; omega, by dsimp only [room_1]; omega⟩ (pc2 := 162) rfl (fun H locs T => ?_)
  refine lv_istore (lv' := [(8, .int (xc L xs j)), (0, .ref b), (1, .ref (ad 0)), (2, .ref (ap 0)), (5, .int n), (7, .int (nI j))]) hx hb dL_law_162 hl (by decide) rfl (fun ls hl => ?_)
  refine lv_aload_n hx hb dL_law_164 rfl (lv_at hl 2 rfl) ?_
  refine lv_iload hx hb dL_law_165 (lv_at hl 0 rfl) ?_
  refine law_O (As := [.ref (ad 0), .int (xc L xs j)]) (rest := []) (k := t) (S' := S1) C T (kL_act l hfl t1 t2 D cy ad (wC cy ap [] P) S (xc L xs j) (t, S1) e1) (va_cwS 2 hts gL_law_L_act rfl rfl rfl (by decide +kernel) ⟨(Nat.le_of_ble_eq_true rfl), (Nat.le_of_ble_eq_true rfl)⟩) rfl hl.1 rfl (Nat.le_of_ble_eq_true rfl) dL_law_167 ⟨by dsimp only [room_1]; omega, by dsimp only [room_1]; omega⟩ (pc2 := 170) (c2 := (c0 + 5)) (s2 := (s0 + 30)) rfl rfl rfl (fun H locs T => ?_)
  refine lv_istore (lv' := [(9, .int t), (8, .int (xc L xs j)), (0, .ref b), (1, .ref (ad 0)), (2, .ref (ap 0)), (5, .int n), (7, .int (nI j))]) hx hb dL_law_170 hl (by decide) rfl (fun ls hl => ?_)
  refine lv_iload hx hb dL_law_172 (lv_at hl 0 rfl) ?_
  refine lv_ldc (v := (-99999)) hx hb hown (hts _ (List.mem_of_getElem? (i := 3) rfl)) dL_law_174 ?_
  rcases hcase with ⟨ht, hI1⟩ | ⟨ht, P1, k, e2, e3, hI1⟩
  · refine lv_icmp_eq (tgt := 192) hx hb dL_law_176 (by decide) (fun _ => ?_) (fun hc => absurd ht hc)
    refine lv_iload hx hb dL_law_192 (lv_at hl 0 rfl) ?_
    refine lv_ldc (v := (-99999)) hx hb hown (hts _ (List.mem_of_getElem? (i := 3) rfl)) dL_law_194 ?_
    refine lv_icmp_eq (tgt := 214) hx hb dL_law_196 (by decide) (fun _ => ?_) (fun hc => absurd ht hc)
    refine lv_iload hx hb dL_law_214 (lv_at hl 5 rfl) ?_
    refine W.widen (k := c0 + 10) (n := s0 + 60) (by omega) (by omega) ?_
    exact law_216 hfl hL hXs hbl C hok c0 s0 hc0 hs0 j hj hend hI1 T (lv_sub hl [2, 3, 4, 6, 1] rfl)
  · refine lv_icmp_eq (tgt := 192) hx hb dL_law_176 (by decide) (fun hc => absurd hc ht) (fun _ => ?_)
    refine lv_aload_n hx hb dL_law_179 rfl (lv_at hl 4 rfl) ?_
    refine lv_iload hx hb dL_law_180 (lv_at hl 1 rfl) ?_
    refine law_P (As := [.ref (ap 0), .int (xc L xs j)]) (rest := []) (k := t) (P' := P1) C T (kL_act l hfl t1 t2 D cy ap (wC cy ad [] S1) P (xc L xs j) (t, P1) e2) (va_cwS 2 hts gL_law_L_act rfl rfl rfl (by decide +kernel) ⟨(Nat.le_of_ble_eq_true rfl), (Nat.le_of_ble_eq_true rfl)⟩) rfl hl.1 rfl (Nat.le_of_ble_eq_true rfl) dL_law_182 ⟨by dsimp only [room_1]; omega, by dsimp only [room_1]; omega⟩ (pc2 := 185) (c2 := (c0 + 10)) (s2 := (s0 + 60)) rfl rfl rfl (fun H locs T => ?_)
    refine lv_iload hx hb dL_law_185 (lv_at hl 0 rfl) ?_
    refine lv_icmp_eq (tgt := 192) hx hb dL_law_187 (by decide) (fun _ => ?_) (fun hc => absurd rfl hc)
    refine lv_iload hx hb dL_law_192 (lv_at hl 0 rfl) ?_
    refine lv_ldc (v := (-99999)) hx hb hown (hts _ (List.mem_of_getElem? (i := 3) rfl)) dL_law_194 ?_
    refine lv_icmp_eq (tgt := 214) hx hb dL_law_196 (by decide) (fun hc => absurd hc ht) (fun _ => ?_)
    refine lv_iload hx hb dL_law_199 (lv_at hl 1 rfl) ?_
    refine lv_bipush (v := 24) hx hb dL_law_201 (by decide) ?_
    refine law_L (rest := []) C T (kL_low l D cy ad (wC cy ap [] P1) S1 (xc L xs j) 24 k (e3 S1)) (va_cwS 2 hts gL_law_L_low rfl rfl rfl (by decide +kernel) ⟨(Nat.le_of_ble_eq_true rfl), (Nat.le_of_ble_eq_true rfl)⟩) rfl hl.1 rfl (Nat.le_of_ble_eq_true rfl) dL_law_203 ⟨by dsimp only [room_1]; omega, by dsimp only [room_1]; omega⟩ (pc2 := 206) rfl (fun H locs T => ?_)
    refine lv_if_ne (tgt := 214) hx hb dL_law_206 (by decide) (fun hk => ?_) (fun hk => ?_)
    · refine lv_iload hx hb dL_law_214 (lv_at hl 5 rfl) ?_
      rw [if_neg hk] at hI1
      exact law_216 hfl hL hXs hbl C hok c0 s0 hc0 hs0 j hj hend hI1 T (lv_sub hl [2, 3, 4, 6, 1] rfl)
    · refine lv_iload hx hb dL_law_209 (lv_at hl 0 rfl) ?_
      refine lv_goto (tgt := 216) hx hb dL_law_211 (by decide) ?_
      rw [if_pos hk] at hI1
      exact law_216 hfl hL hXs hbl C hok c0 s0 hc0 hs0 j hj hend hI1 T (lv_sub hl [2, 3, 4, 6, 1] rfl)
set_option maxHeartbeats 8000000 in
set_option maxRecDepth 100000 in
/-- the law's loop, from its head -/
theorem law_loop {p : Program} {l : Launch} {e : Env} {s : State} {m : MethodId} {below : List Frame} {meth : Method} {c : Code} {t1 t2 : Nat} {D : va_G} {cy : Nat → ClassId} {ad ap : Nat → Nat} {b L : Nat} {xs : Nat → Int32} (hfl : l.stackTraces = false) (hL : L ≤ 260) (hXs : va_X b L xs s s.heap) (hbl : b < s.heap.size) (C : LX p s m #[Value.ref b] meth c t1 t2 D cy) {I : SC → SC → Int32 → Prop} (hok : LawOK I) (c0 s0 : Nat) (hc0 : c0 ≤ 1000) (hs0 : s0 ≤ 100000) (hr : meth.sig.returnType = ret) :
    ∀ (n0 j : Nat), j + n0 = 60 → ∀ (S P : SC) (n : Int32), I S P n → ∀ (H : Heap) (locs : List Loc), L2 D cy ad ap s S P H locs → ∀ (ls : Array Slot), lv_has ls 10 [(0, .ref b), (1, .ref (ad 0)), (2, .ref (ap 0)), (5, .int n), (7, .int (nI j))] → W p l e room_1 s m #[Value.ref b] below meth c H locs (24 * j + c0) (144 * j + s0) (lw_Z below #[Value.ref b] s) (F0 m 149 ls []) := by
  obtain ⟨hx, hb, hml, hown, hts, hlk, -, -, -⟩ := id C
  intro n0
  induction n0 with
  | zero =>
    intro j hj S P n hI H locs T ls hl
    obtain rfl : j = 60 := by omega
    obtain ⟨S1, P1, e1, hI1⟩ := (hok S P n hI).2.1
    refine lv_iload hx hb dL_law_149 (lv_at hl 4 rfl) ?_
    refine lv_bipush (v := 60) hx hb dL_law_151 (by decide) ?_
    refine lv_icmp_ge (tgt := 294) hx hb dL_law_153 (by decide) (fun _ => ?_) (fun hc => absurd (Int32.le_refl _) hc)
    refine lv_aload_n hx hb dL_law_294 rfl (lv_at hl 1 rfl) ?_
    refine lv_aload_n hx hb dL_law_295 rfl (lv_at hl 2 rfl) ?_
    refine lv_iload hx hb dL_law_296 (lv_at hl 3 rfl) ?_
    refine law_A (rest := []) (k := 1) C T (kL_areAlike l hfl t1 t2 D cy ad ap (S, P) n (1, (S1, P1)) e1) (va_cwS 3 hts gL_law_L_areAlike rfl rfl rfl (by decide +kernel) ⟨(Nat.le_of_ble_eq_true rfl), (Nat.le_of_ble_eq_true rfl)⟩) rfl hl.1 rfl (Nat.le_of_ble_eq_true rfl) dL_law_298 ⟨by dsimp only [room_1]; omega, by dsimp only [room_1]; omega⟩ (pc2 := 301) (c2 := (24 * 60 + c0 + 2)) (s2 := (144 * 60 + s0 + 12)) rfl rfl rfl (fun H locs T => ?_)
    refine va_forget (fun q hq => T.2.2.2.2 q hq) ?_
    refine W.widen (k := 600086) (n := 7301442) (by omega) (by omega) ?_
    exact lw_ret hx hb hr hlk dL_law_301
  | succ n0 ih =>
    intro j hj S P n hI H locs T ls hl
    refine lv_iload hx hb dL_law_149 (lv_at hl 4 rfl) ?_
    refine lv_bipush (v := 60) hx hb dL_law_151 (by decide) ?_
    refine lv_icmp_ge (tgt := 294) hx hb dL_law_153 (by decide) (fun hc => absurd hc (nI_ge (a := j) (b := 60) (by omega) (by omega))) (fun _ => ?_)
    refine W.cs (cells' := 24 * j + c0 + 0) (slots' := 144 * j + s0 + 0) rfl rfl ?_
    refine law_round hfl hL hXs hbl C hok (24 * j + c0) (144 * j + s0) (by omega) (by omega) j (by omega) (fun S P n hI H locs T ls hl => ?_) hI T hl
    refine lv_iinc (v := nI (j + 1)) (lv' := [(7, .int (nI (j + 1))), (0, .ref b), (1, .ref (ad 0)), (2, .ref (ap 0)), (5, .int n)]) hx hb dL_law_288 hl (k := 4) rfl (by rw [← nI_add]; rfl) (by decide) rfl (fun ls hl => ?_)
    refine lv_goto (tgt := 149) hx hb dL_law_291 (by decide) ?_
    exact W.cs (by omega) (by omega) (ih (j + 1) (by omega) S P n hI H locs T ls (lv_sub hl [1, 2, 3, 4, 0] rfl))
