/-! the law's walk, from one pure fact about the methods' functions -/
def outE (cy : Nat → ClassId) (o : Nat) (f : Nat → Int64) : Nat × va_E := (o, .inl (cy 2, 1, .inr (.inl f)))
theorem W_perm (cy : Nat → ClassId) (ad am : Nat → Nat) (o : Nat) (S M : SC) (f : Nat → Int64) : (wO cy ad o (wM cy am [] M) f S).Perm (wM cy am (wC cy ad [outE cy o f] S) M) := by
  have h1 : wO cy ad o (wM cy am [] M) f S = wC cy ad [] S ++ (outE cy o f :: wM cy am [] M) := rfl
  have h2 : wM cy am (wC cy ad [outE cy o f] S) M = (wM cy am [] M ++ wC cy ad [] S) ++ [outE cy o f] := rfl
  rw [h1, h2]
  exact List.perm_append_comm.trans (List.perm_append_singleton (outE cy o f) (wM cy am [] M ++ wC cy ad [] S)).symm
theorem wO_fst (cy : Nat → ClassId) (ad am : Nat → Nat) (o : Nat) (S S' M M' : SC) (f f' : Nat → Int64) : (wO cy ad o (wM cy am [] M) f S).map (fun z => z.1) = (wO cy ad o (wM cy am [] M') f' S').map (fun z => z.1) := rfl
def lwS (D : va_G) (cy : Nat → ClassId) (ad am : Nat → Nat) (o : Nat) (s : State) (S M : SC) (f : Nat → Int64) (H : Heap) (locs : List Loc) : Prop :=
  va_P D vwCl (wO cy ad o (wM cy am [] M) f S) H ∧ va_D (fun q => s.heap.size ≤ q) (wO cy ad o (wM cy am [] M) f S) ∧ va_S (fun q => s.heap.size ≤ q) s.heap H locs
/-- what holds all through the law's body -/
def LX (p : Program) (s : State) (m : MethodId) (args : Array Value) (meth : Method) (c : Code) (t1 t2 : Nat) (D : va_G) (cy : Nat → ClassId) : Prop :=
  p.tables.exec = Jvm.exec ∧ c.code = code ∧ c.maxLocals = 7 ∧ s.vm.findClass RL = some m.cls ∧ (∀ w ∈ wsL_law, w.before args s = true) ∧ meth.locks = false ∧ KX D cy s ∧ SX t1 t2 (fun q => s.heap.size ≤ q) s s.heap ∧ KNc s
section LAWS
variable {p : Program} {l : Launch} {e : Env} {R : Room} {s : State} {m : MethodId} {args : Array Value} {below : List Frame} {meth : Method} {c : Code} {H : Heap} {locs : List Loc} {cells slots : Nat} {Q : State → Prop}
variable {D : va_G} {cy : Nat → ClassId} {ad am : Nat → Nat} {o t1 t2 pc : Nat} {ls : Array Slot} {rest st : List Value} {S S' M M' : SC} {f f' : Nat → Int64} {v : Option Value} {k : Int32}
theorem LX.cx {w : SC → va_W} {S0 : SC} (C : LX p s m args meth c t1 t2 D cy) (hf : ∀ S S' : SC, (w S).map (fun z => z.1) = (w S').map (fun z => z.1)) (hD : va_D (fun q => s.heap.size ≤ q) (w S0)) : CX p s m args meth c code 7 RL wsL_law D cy w (fun q => s.heap.size ≤ q) :=
  ⟨C.1, C.2.1, C.2.2.1, C.2.2.2.1, C.2.2.2.2.1, C.2.2.2.2.2.1, C.2.2.2.2.2.2.1, fun _ h => h, hw_of hf hD⟩
theorem lwS.toM (T : lwS D cy ad am o s S M f H locs) : ST D (wM cy am (wC cy ad [outE cy o f] S)) (fun q => s.heap.size ≤ q) s M H locs := ⟨T.1.perm (W_perm cy ad am o S M f), T.2.1.perm (W_perm cy ad am o S M f), T.2.2⟩
theorem lwS.ofM (T : ST D (wM cy am (wC cy ad [outE cy o f] S)) (fun q => s.heap.size ≤ q) s M H locs) : lwS D cy ad am o s S M f H locs := ⟨T.1.perm (W_perm cy ad am o S M f).symm, T.2.1.perm (W_perm cy ad am o S M f).symm, T.2.2⟩
/-- a helper of the law -/
theorem law_W {y : MethodName} {wds : List Cond} {rm : Room} {As : List Value} {index n maxL : Nat} {bytes : ByteArray} {ret : Option FieldType} {hh : List (Nat × Nat × Nat × Nat)}
    (C : LX p s m args meth c t1 t2 D cy) (T : lwS D cy ad am o s S M f H locs) (hM : CW l t1 t2 D cy ad o (wM cy am [] M) y wds rm As S f k S' f') (cw : vx_CSW R s args RL index y bytes maxL ret hh wds rm rm.cells rm.slots n)
    (hn : As.length = n) (hsz : ls.size = 7) (hst : st = As.reverse ++ rest) (hroom : (rest.map fun v => v.category).sum ≤ 8) (hdg : decode code pc = .ok (.invokestatic index, 3)) (hcs : cells + rm.cells ≤ R.cells ∧ slots + rm.slots ≤ R.slots) {pc2 : Nat} (h3 : pc + 3 = pc2)
    (kk : ∀ (H1 : Heap) (locs1 : List Loc), lwS D cy ad am o s S' M f' H1 locs1 → W p l e R s m args below meth c H1 locs1 (cells + rm.cells) (slots + rm.slots) Q (F0 m pc2 ls (.int k :: rest))) : W p l e R s m args below meth c H locs cells slots Q (F0 m pc ls st) := by
  have X : CX p s m args meth c code 7 RL wsL_law D cy (wO cy ad o (wM cy am [] M) f) (fun q => s.heap.size ≤ q) := C.cx (wC_fst cy ad _) T.2.1
  have hr := vx_runSW (As := As) (rest := rest) (hh := hh) (bytes := bytes) (maxL := maxL) (ret := ret) (p := p) (l := l) (e := e) (R := R) (s := s) (m := m) (args := args) (below := below) (meth := meth) (c := c) (H := H) (locs := locs) (cells := cells) (slots := slots) (g := F0 m pc ls st) ⟨X.1, X.2.1, X.2.2.1, X.2.2.2.1, X.2.2.2.2.1⟩ (hM H.size) cw ⟨PGw_blind, fun U hU hW => ⟨PGs_of (w := wO cy ad o (wM cy am [] M) f) X C.2.2.2.2.2.2.2.1 T U hU hW, fun q hq => (C.2.2.2.2.2.2.2.2 q hq).moved hW.alike⟩⟩ rfl hn hsz hst (lv_room hroom) hdg hcs
  intro T0 hT X0
  obtain ⟨v1, st₀, t, T', L, h0, X', hL, e1, e2, ⟨hv, hp, hz, hk⟩, stp⟩ := hr T0 hT X0
  cases hv
  rw [h0] at hz hk
  have hAW := AW_in (w := wO cy ad o (wM cy am [] M) f) X T
  have hS2 : va_S (fun q => s.heap.size ≤ q) s.heap t.heap (locs ++ L) := ⟨Nat.le_trans T.2.2.1 hz, fun q h1 h2 => by rw [hk q (Nat.lt_of_lt_of_le h1 T.2.2.1) (fun z => h2 (hAW q z))]; exact T.2.2.2.1 q h1 h2, fun q hq => by
      rcases List.mem_append.mp hq with h | h
      · exact T.2.2.2.2 q h
      · exact hAW _ (hL q h)⟩
  have hD2 : va_D (fun q => s.heap.size ≤ q) (wO cy ad o (wM cy am [] M) f' S') := by
    refine vd_iff.mpr ⟨(vd_iff.mp hp.2).1, fun q hq => ?_⟩
    have h1 : q.1 ∈ (wO cy ad o (wM cy am [] M) f' S').map (fun z => z.1) := List.mem_map.mpr ⟨q, hq, rfl⟩
    rw [wO_fst cy ad am o S' S M M f' f] at h1
    obtain ⟨z, hz1, hz2⟩ := List.mem_map.mp h1
    rw [← hz2]
    exact (vd_iff.mp T.2.1).2 z hz1
  obtain ⟨t2, a1, b1⟩ := kk T'.heap (locs ++ L) (by rw [e1]; exact ⟨hp.1, hD2, hS2⟩) T' rfl X'
  subst h3
  exact ⟨t2, stp t2 a1, b1⟩
/-- a method of the reference -/
theorem law_M {y : MethodName} {wds : List Cond} {rm : Room} {As : List Value} {index n maxL : Nat} {bytes : ByteArray} {ret : Option FieldType}
    (C : LX p s m args meth c t1 t2 D cy) (T : lwS D cy ad am o s S M f H locs) (hM : CG l D cy (wM cy am (wC cy ad [outE cy o f] S)) y wds rm (.ref (am 0) :: As) M v M') (cw : CallW R s args RL RX4 index y bytes maxL ret wds rm 0 0 n)
    (hn : As.length = n) (hsz : ls.size = 7) (hst : st = As.reverse ++ .ref (am 0) :: rest) (hroom : (rest.map fun v => v.category).sum ≤ 8) (hdg : decode code pc = .ok (.invokevirtual index, 3)) (hcs : cells ≤ R.cells ∧ slots ≤ R.slots) {st2 : List Value} {pc2 : Nat} (h2 : v.toList ++ rest = st2) (h3 : pc + 3 = pc2)
    (kk : ∀ (H1 : Heap) (locs1 : List Loc), lwS D cy ad am o s S M' f H1 locs1 → W p l e R s m args below meth c H1 locs1 cells slots Q (F0 m pc2 ls st2)) : W p l e R s m args below meth c H locs cells slots Q (F0 m pc ls st) :=
  cg_V (q0 := 8) (ci := 4) (C.cx (wM_fst cy am _) T.toM.2.1) T.toM hM cw rfl rfl hn hsz hst hroom hdg hcs h2 h3 (fun H1 locs1 T1 => kk H1 locs1 (lwS.ofM T1))
/-- a method of the class that throws nothing -/
theorem law_C {y : MethodName} {wds : List Cond} {rm : Room} {As : List Value} {index n maxL : Nat} {bytes : ByteArray} {ret : Option FieldType}
    (C : LX p s m args meth c t1 t2 D cy) (T : lwS D cy ad am o s S M f H locs) (hM : CG l D cy (wO cy ad o (wM cy am [] M) f) y wds rm (.ref (ad 0) :: As) S v S') (cw : CallW R s args RL RX3 index y bytes maxL ret wds rm 0 0 n)
    (hn : As.length = n) (hsz : ls.size = 7) (hst : st = As.reverse ++ .ref (ad 0) :: rest) (hroom : (rest.map fun v => v.category).sum ≤ 8) (hdg : decode code pc = .ok (.invokevirtual index, 3)) (hcs : cells ≤ R.cells ∧ slots ≤ R.slots) {st2 : List Value} {pc2 : Nat} (h2 : v.toList ++ rest = st2) (h3 : pc + 3 = pc2)
    (kk : ∀ (H1 : Heap) (locs1 : List Loc), lwS D cy ad am o s S' M f H1 locs1 → W p l e R s m args below meth c H1 locs1 cells slots Q (F0 m pc2 ls st2)) : W p l e R s m args below meth c H locs cells slots Q (F0 m pc ls st) :=
  cg_V (q0 := 15) (ci := 3) (C.cx (wC_fst cy ad _) T.2.1) T hM cw rfl rfl hn hsz hst hroom hdg hcs h2 h3 kk
end LAWS
theorem wk0 {es : List Nat} {r : Int32 ⊕ Nat} (hes : es.length ≤ 3) (h : wk es r = some 0) : ∃ v, r = .inl v := by
  match r, h with
  | .inl v, _ => exact ⟨v, rfl⟩
  | .inr e, h =>
    exfalso
    match es, hes, h with
    | [], _, h => simp [wk, wkn] at h
    | [a], _, h => revert h; simp only [wk, wkn]; split <;> simp
    | [a, b], _, h => revert h; simp only [wk, wkn]; split <;> (try split) <;> (first | (intro h; cases h; done) | (intro h; exact absurd (Option.some.inj h) (by decide)))
    | [a, b, d], _, h => revert h; simp only [wk, wkn]; split <;> (try split) <;> (try split) <;> (first | (intro h; cases h; done) | (intro h; exact absurd (Option.some.inj h) (by decide)))
/-- the pure fact: from states that I binds, each call is answered alike, and I binds the states behind it -/
def LawOK (I : SC → SC → Prop) : Prop := ∀ S M : SC, I S M →
  (∀ a1 a2 a3 a4 a5 : Int32, ∃ r rm, fX3_begin S a1 a2 a3 a4 a5 = some r ∧ fX4_begin M a1 a2 a3 a4 a5 = some rm ∧ wk [0] r.1 = some (rm.2.1 0) ∧ (∀ v, r.1 = .inl v → v = rm.1) ∧ I r.2 rm.2) ∧
  (∀ a1 : Int32, ∃ r rm, fX3_place S a1 = some r ∧ fX4_place M a1 = some rm ∧ wk [2, 1] r.1 = some (rm.2.1 0) ∧ (∀ v, r.1 = .inl v → v = rm.1) ∧ I r.2 rm.2) ∧
  (∀ a1 a2 : Int32, ∃ r rm, fX3_raise S a1 a2 = some r ∧ fX4_raise M a1 a2 = some rm ∧ wk [2, 0, 1] r.1 = some (rm.2.1 0) ∧ (∀ v, r.1 = .inl v → v = rm.1) ∧ I r.2 rm.2) ∧
  (∃ r rm, fX3_onTurn S = some r ∧ fX4_onTurn M = some rm ∧ r = rm.1 ∧ I S rm.2) ∧
  (∃ r rm, fX3_winner S = some r ∧ fX4_winner M = some rm ∧ r = rm.1 ∧ I S rm.2) ∧
  (∀ a1 : Int32, ∃ r rm, fX3_height S a1 = some r ∧ fX4_height M a1 = some rm ∧ wk [2] r = some (rm.2.1 0) ∧ (∀ v, r = .inl v → v = rm.1) ∧ I S rm.2) ∧
  (∀ a1 : Int32, ∃ r rm, fX3_builderAt S a1 = some r ∧ fX4_builderAt M a1 = some rm ∧ wk [2] r = some (rm.2.1 0) ∧ (∀ v, r = .inl v → v = rm.1) ∧ I S rm.2) ∧
  (∃ r rm, fX3_played S = some r ∧ fX4_played M = some rm ∧ r = rm.1 ∧ I S rm.2) ∧
  (∃ r rm, fX3_turnCount S = some r ∧ fX4_turnCount M = some rm ∧ wk [1] r.1 = some (rm.2.1 0) ∧ (∀ v, r.1 = .inl v → v = rm.1) ∧ I r.2 rm.2) ∧
  (∀ a1 : Int32, ∃ r rm, fX3_turnAt S a1 = some r ∧ fX4_turnAt M a1 = some rm ∧ wk [2, 1] r.1 = some (rm.2.1 0) ∧ (∀ v, r.1 = .inl v → v = rm.1) ∧ I r.2 rm.2) ∧
  (∀ a1 : Int32, ∃ r rm, fX3_play S a1 = some r ∧ fX4_play M a1 = some rm ∧ wk [1] r.1 = some (rm.2.1 0) ∧ (∀ v, r.1 = .inl v → v = rm.1) ∧ I r.2 rm.2) ∧
  (∃ r rm, fX3_takeBack S = some r ∧ fX4_takeBack M = some rm ∧ wk [1] r.1 = some (rm.2.1 0) ∧ (∀ v, r.1 = .inl v → v = rm.1) ∧ I r.2 rm.2) ∧
  (∀ a1 : Int32, ∃ r rm, fX3_worth S a1 = some r ∧ fX4_worth M a1 = some rm ∧ wk [0, 1] r.1 = some (rm.2.1 0) ∧ (∀ v, r.1 = .inl v → v = rm.1) ∧ I r.2 rm.2) ∧
  (∀ a1 : Int32, ∃ r rm, fX3_best S a1 = some r ∧ fX4_best M a1 = some rm ∧ wk [0, 1] r.1 = some (rm.2.1 0) ∧ (∀ v, r.1 = .inl v → v = rm.1) ∧ I r.2 rm.2) ∧
  (∀ a1 : Int32, ∃ r rm, fX3_reached S a1 = some r ∧ fX4_reached M a1 = some rm ∧ wk [2] r = some (rm.2.1 0) ∧ (∀ v, r = .inl v → v = rm.1) ∧ I S rm.2)
theorem lg_same (f : Nat → Int64) (v : Int32) : lg_cmp (wf f (.inl v) (0 : Int32).toNatClampNeg) v.toInt64 = 0 := by
  show lg_cmp (vp_updL f 0 v.toInt64 (0 : Int32).toNatClampNeg) v.toInt64 = 0
  rw [sb_cl0]
  simp [vp_updL, lg_cmp]
theorem law_gt {L i : Nat} (hL : L ≤ 3072) (hi : i ≤ 4000) : (nI L - 6 < nI i) ↔ L < i + 6 := by
  have h1 : (nI L - 6).toInt = (L : Int) - 6 := pk_sub_toInt (b := 6) (by omega) (by omega)
  rw [Int32.lt_iff_toInt_lt, h1, nI_toInt (by omega)]
  omega
set_option maxHeartbeats 8000000 in
set_option maxRecDepth 100000 in
/-- one round of the law: from its switch to its head again -/
theorem law_round {p : Program} {l : Launch} {e : Env} {s : State} {m : MethodId} {below : List Frame} {meth : Method} {c : Code} {t1 t2 : Nat} {D : va_G} {cy : Nat → ClassId} {ad am : Nat → Nat} {o b L : Nat} {xs : Nat → Int32} (hfl : l.stackTraces = false) (hXs : va_X b L xs s s.heap) (hbl : b < s.heap.size)
    (C : LX p s m #[Value.ref b] meth c t1 t2 D cy) {I : SC → SC → Prop} (hok : LawOK I) (c0 s0 j : Nat) (hc0 : c0 ≤ 1000) (hs0 : s0 ≤ 100000) (hj : j < 600) (x4 : Int32) (y : Nat) (hy : y < 16)
    (hi1 : vp_in (x4 + 1) L) (hi2 : vp_in (x4 + 2) L) (hi3 : vp_in (x4 + 3) L) (hi4 : vp_in (x4 + 4) L) (hi5 : vp_in (x4 + 5) L)
    {S M : SC} {f : Nat → Int64} (hI : I S M) {H : Heap} {locs : List Loc} (T : lwS D cy ad am o s S M f H locs) {ls : Array Slot} (hl : lv_has ls 7 [(0, .ref b), (1, .ref (ad 0)), (2, .ref (am 0)), (3, .ref o), (4, .int x4)])
    (hend : ∀ (S M : SC) (f : Nat → Int64), I S M → ∀ (H : Heap) (locs : List Loc), lwS D cy ad am o s S M f H locs → ∀ (ls : Array Slot), lv_has ls 7 [(0, .ref b), (1, .ref (ad 0)), (2, .ref (am 0)), (3, .ref o), (4, .int x4)] → W p l e room_1 s m #[Value.ref b] below meth c H locs (2 * j + c0 + 2) (12 * j + s0 + 12) (lw_Z below #[Value.ref b] s) (F0 m 863 ls [])) :
    W p l e room_1 s m #[Value.ref b] below meth c H locs (2 * j + c0) (12 * j + s0) (lw_Z below #[Value.ref b] s) (F0 m 40 ls [.int (nI y)]) := by
  obtain ⟨hx, hb, hml, hown, hts, hlk, -, -, -⟩ := id C
  have hbA : ¬ (fun q : Nat => s.heap.size ≤ q) b := Nat.not_le.mpr hbl
  rcases (show y = 0 ∨ y = 1 ∨ y = 2 ∨ y = 3 ∨ y = 4 ∨ y = 5 ∨ y = 6 ∨ y = 7 ∨ y = 8 ∨ y = 9 ∨ y = 10 ∨ y = 11 ∨ y = 12 ∨ y = 13 ∨ y = 14 ∨ y = 15 by omega) with rfl | rfl | rfl | rfl | rfl | rfl | rfl | rfl | rfl | rfl | rfl | rfl | rfl | rfl | rfl | rfl
  · -- begin
    refine lv_tableIn (off := 76) (tgt := 116) hx hb dL_law_40 (by decide) (by decide) (by decide) (by decide) ?_
    obtain ⟨r, rm, g1, g2, g3, g4, g5⟩ := (hok S M hI).1 (xs (x4 + 1).toNatClampNeg) (xs (x4 + 2).toNatClampNeg) (xs (x4 + 3).toNatClampNeg) (xs (x4 + 4).toNatClampNeg) (xs (x4 + 5).toNatClampNeg)
    refine lv_aload_n hx hb dL_law_116 rfl (lv_at hl 1 rfl) ?_
    refine lv_aload_n hx hb dL_law_117 rfl (lv_at hl 0 rfl) ?_
    refine lv_iload hx hb dL_law_118 (lv_at hl 4 rfl) ?_
    refine lv_iconst (v := 1) hx hb dL_law_120 (by decide) ?_
    refine lv_iadd hx hb dL_law_121 ?_
    refine va_sld hx hb hXs hbl hbA T.2.2 hi1 dL_law_122 ?_
    refine lv_aload_n hx hb dL_law_123 rfl (lv_at hl 0 rfl) ?_
    refine lv_iload hx hb dL_law_124 (lv_at hl 4 rfl) ?_
    refine lv_iconst (v := 2) hx hb dL_law_126 (by decide) ?_
    refine lv_iadd hx hb dL_law_127 ?_
    refine va_sld hx hb hXs hbl hbA T.2.2 hi2 dL_law_128 ?_
    refine lv_aload_n hx hb dL_law_129 rfl (lv_at hl 0 rfl) ?_
    refine lv_iload hx hb dL_law_130 (lv_at hl 4 rfl) ?_
    refine lv_iconst (v := 3) hx hb dL_law_132 (by decide) ?_
    refine lv_iadd hx hb dL_law_133 ?_
    refine va_sld hx hb hXs hbl hbA T.2.2 hi3 dL_law_134 ?_
    refine lv_aload_n hx hb dL_law_135 rfl (lv_at hl 0 rfl) ?_
    refine lv_iload hx hb dL_law_136 (lv_at hl 4 rfl) ?_
    refine lv_iconst (v := 4) hx hb dL_law_138 (by decide) ?_
    refine lv_iadd hx hb dL_law_139 ?_
    refine va_sld hx hb hXs hbl hbA T.2.2 hi4 dL_law_140 ?_
    refine lv_aload_n hx hb dL_law_141 rfl (lv_at hl 0 rfl) ?_
    refine lv_iload hx hb dL_law_142 (lv_at hl 4 rfl) ?_
    refine lv_iconst (v := 5) hx hb dL_law_144 (by decide) ?_
    refine lv_iadd hx hb dL_law_145 ?_
    refine va_sld hx hb hXs hbl hbA T.2.2 hi5 dL_law_146 ?_
    refine lv_aload_n hx hb dL_law_147 rfl (lv_at hl 3 rfl) ?_
    refine law_W (As := [.ref (ad 0), .int (xs (x4 + 1).toNatClampNeg), .int (xs (x4 + 2).toNatClampNeg), .int (xs (x4 + 3).toNatClampNeg), .int (xs (x4 + 4).toNatClampNeg), .int (xs (x4 + 5).toNatClampNeg), .ref o]) (rest := []) C T (kL_begin l hfl t1 t2 D cy ad o (wM cy am [] M) S f (xs (x4 + 1).toNatClampNeg) (xs (x4 + 2).toNatClampNeg) (xs (x4 + 3).toNatClampNeg) (xs (x4 + 4).toNatClampNeg) (xs (x4 + 5).toNatClampNeg) r g1 (rm.2.1 0) g3) (vx_cwSW 7 hts gL_law_L_begin rfl rfl rfl (by decide +kernel) ⟨(Nat.le_of_ble_eq_true rfl), (Nat.le_of_ble_eq_true rfl)⟩) rfl hl.1 rfl (Nat.le_of_ble_eq_true rfl) dL_law_148 ⟨by dsimp only [room_1]; omega, by dsimp only [room_1]; omega⟩ (pc2 := 151) rfl (fun H locs T => ?_)
    refine lv_istore (lv' := [(5, .int (rm.2.1 0)), (0, .ref b), (1, .ref (ad 0)), (2, .ref (am 0)), (3, .ref o), (4, .int x4)]) hx hb dL_law_151 hl (by decide) rfl (fun ls hl => ?_)
    refine lv_aload_n hx hb dL_law_153 rfl (lv_at hl 3 rfl) ?_
    refine lv_aload_n hx hb dL_law_154 rfl (lv_at hl 1 rfl) ?_
    refine lv_iload hx hb dL_law_155 (lv_at hl 5 rfl) ?_
    refine lv_iconst (v := 1) hx hb dL_law_157 (by decide) ?_
    refine lv_iadd hx hb dL_law_158 ?_
    refine va_sld hx hb hXs hbl hbA T.2.2 hi1 dL_law_159 ?_
    refine lv_aload_n hx hb dL_law_160 rfl (lv_at hl 1 rfl) ?_
    refine lv_iload hx hb dL_law_161 (lv_at hl 5 rfl) ?_
    refine lv_iconst (v := 2) hx hb dL_law_163 (by decide) ?_
    refine lv_iadd hx hb dL_law_164 ?_
    refine va_sld hx hb hXs hbl hbA T.2.2 hi2 dL_law_165 ?_
    refine lv_aload_n hx hb dL_law_166 rfl (lv_at hl 1 rfl) ?_
    refine lv_iload hx hb dL_law_167 (lv_at hl 5 rfl) ?_
    refine lv_iconst (v := 3) hx hb dL_law_169 (by decide) ?_
    refine lv_iadd hx hb dL_law_170 ?_
    refine va_sld hx hb hXs hbl hbA T.2.2 hi3 dL_law_171 ?_
    refine lv_aload_n hx hb dL_law_172 rfl (lv_at hl 1 rfl) ?_
    refine lv_iload hx hb dL_law_173 (lv_at hl 5 rfl) ?_
    refine lv_iconst (v := 4) hx hb dL_law_175 (by decide) ?_
    refine lv_iadd hx hb dL_law_176 ?_
    refine va_sld hx hb hXs hbl hbA T.2.2 hi4 dL_law_177 ?_
    refine lv_aload_n hx hb dL_law_178 rfl (lv_at hl 1 rfl) ?_
    refine lv_iload hx hb dL_law_179 (lv_at hl 5 rfl) ?_
    refine lv_iconst (v := 5) hx hb dL_law_181 (by decide) ?_
    refine lv_iadd hx hb dL_law_182 ?_
    refine va_sld hx hb hXs hbl hbA T.2.2 hi5 dL_law_183 ?_
    refine law_M (As := [.int (xs (x4 + 1).toNatClampNeg), .int (xs (x4 + 2).toNatClampNeg), .int (xs (x4 + 3).toNatClampNeg), .int (xs (x4 + 4).toNatClampNeg), .int (xs (x4 + 5).toNatClampNeg)]) (rest := []) (v := (some (.int rm.1))) C T (kX4_begin l D cy am (wC cy ad [outE cy o (wf f r.1)] r.2) M (xs (x4 + 1).toNatClampNeg) (xs (x4 + 2).toNatClampNeg) (xs (x4 + 3).toNatClampNeg) (xs (x4 + 4).toNatClampNeg) (xs (x4 + 5).toNatClampNeg) rm g2) (cwV 5 hts gL_law_X4_begin rfl rfl rfl (by decide +kernel) ⟨(Nat.le_of_ble_eq_true rfl), (Nat.le_of_ble_eq_true rfl)⟩) rfl hl.1 rfl (Nat.le_of_ble_eq_true rfl) dL_law_184 ⟨by dsimp only [room_1]; omega, by dsimp only [room_1]; omega⟩ (st2 := [.int rm.1]) (pc2 := 187) rfl rfl (fun H locs T => ?_)
    refine lv_istore (lv' := [(6, .int rm.1), (5, .int (rm.2.1 0)), (0, .ref b), (1, .ref (ad 0)), (2, .ref (am 0)), (3, .ref o), (4, .int x4)]) hx hb dL_law_187 hl (by decide) rfl (fun ls hl => ?_)
    refine lv_aload_n hx hb dL_law_189 rfl (lv_at hl 4 rfl) ?_
    refine law_M (As := []) (rest := []) (v := (some (.int (rm.2.1 0)))) C T (kX4_thrown l D cy am (wC cy ad [outE cy o (wf f r.1)] r.2) rm.2 (rm.2.1 0) rfl) (cwV 0 hts gL_law_X4_thrown rfl rfl rfl (by decide +kernel) ⟨(Nat.le_of_ble_eq_true rfl), (Nat.le_of_ble_eq_true rfl)⟩) rfl hl.1 rfl (Nat.le_of_ble_eq_true rfl) dL_law_190 ⟨by dsimp only [room_1]; omega, by dsimp only [room_1]; omega⟩ (st2 := [.int (rm.2.1 0)]) (pc2 := 193) rfl rfl (fun H locs T => ?_)
    refine lv_iload hx hb dL_law_193 (lv_at hl 1 rfl) ?_
    refine lv_icmp_eq (tgt := 200) hx hb dL_law_195 (by decide) (fun _ => ?_) (fun hc => absurd rfl hc)
    refine lv_iload hx hb dL_law_200 (lv_at hl 1 rfl) ?_
    have fin : ∀ (ls : Array Slot), lv_has ls 7 [(6, .int rm.1), (5, .int (rm.2.1 0)), (0, .ref b), (1, .ref (ad 0)), (2, .ref (am 0)), (3, .ref o), (4, .int x4)] → W p l e room_1 s m #[Value.ref b] below meth c H locs (2 * j + c0 + 1) (12 * j + s0 + 6) (lw_Z below #[Value.ref b] s) (F0 m 217 ls []) := by
      intro ls hl
      refine lv_goto (tgt := 863) hx hb dL_law_217 (by decide) ?_
      refine W.widen (k := 2 * j + c0 + 2) (n := 12 * j + s0 + 12) (by omega) (by omega) ?_
      exact hend r.2 rm.2 (wf f r.1) g5 H locs T ls (lv_sub hl [2, 3, 4, 5, 6] rfl)
    refine lv_if_ne (tgt := 217) hx hb dL_law_202 (by decide) (fun _ => fin ls hl) (fun hc => ?_)
    rw [hc] at g3
    obtain ⟨v, hv⟩ := wk0 (by decide) g3
    refine lv_aload_n hx hb dL_law_205 rfl (lv_at hl 5 rfl) ?_
    refine lv_iconst (v := 0) hx hb dL_law_206 (by decide) ?_
    refine va_lald hx hb C.2.2.2.2.2.2.1.1 T.1 16 2 rfl rfl (show vp_in 0 1 from fun h => absurd h (by decide)) dL_law_207 ?_
    refine lv_iload hx hb dL_law_208 (lv_at hl 0 rfl) ?_
    refine lv_i2l hx hb dL_law_210 rfl ?_
    refine W.lcmp hx hb dL_law_211 ?_
    have e0 : lg_cmp (wf f r.1 (0 : Int32).toNatClampNeg) rm.1.toInt64 = 0 := by rw [hv, ← g4 v hv]; exact lg_same f v
    exact lv_if_eq (tgt := 217) hx hb dL_law_212 (by decide) (fun _ => fin ls hl) (fun hc => absurd e0 hc)
  · -- place
    refine lv_tableIn (off := 180) (tgt := 220) hx hb dL_law_40 (by decide) (by decide) (by decide) (by decide) ?_
    obtain ⟨r, rm, g1, g2, g3, g4, g5⟩ := (hok S M hI).2.1 (xs (x4 + 1).toNatClampNeg)
    refine lv_aload_n hx hb dL_law_220 rfl (lv_at hl 1 rfl) ?_
    refine lv_aload_n hx hb dL_law_221 rfl (lv_at hl 0 rfl) ?_
    refine lv_iload hx hb dL_law_222 (lv_at hl 4 rfl) ?_
    refine lv_iconst (v := 1) hx hb dL_law_224 (by decide) ?_
    refine lv_iadd hx hb dL_law_225 ?_
    refine va_sld hx hb hXs hbl hbA T.2.2 hi1 dL_law_226 ?_
    refine lv_aload_n hx hb dL_law_227 rfl (lv_at hl 3 rfl) ?_
    refine law_W (As := [.ref (ad 0), .int (xs (x4 + 1).toNatClampNeg), .ref o]) (rest := []) C T (kL_place l hfl t1 t2 D cy ad o (wM cy am [] M) S f (xs (x4 + 1).toNatClampNeg) r g1 (rm.2.1 0) g3) (vx_cwSW 3 hts gL_law_L_place rfl rfl rfl (by decide +kernel) ⟨(Nat.le_of_ble_eq_true rfl), (Nat.le_of_ble_eq_true rfl)⟩) rfl hl.1 rfl (Nat.le_of_ble_eq_true rfl) dL_law_228 ⟨by dsimp only [room_1]; omega, by dsimp only [room_1]; omega⟩ (pc2 := 231) rfl (fun H locs T => ?_)
    refine lv_istore (lv' := [(5, .int (rm.2.1 0)), (0, .ref b), (1, .ref (ad 0)), (2, .ref (am 0)), (3, .ref o), (4, .int x4)]) hx hb dL_law_231 hl (by decide) rfl (fun ls hl => ?_)
    refine lv_aload_n hx hb dL_law_233 rfl (lv_at hl 3 rfl) ?_
    refine lv_aload_n hx hb dL_law_234 rfl (lv_at hl 1 rfl) ?_
    refine lv_iload hx hb dL_law_235 (lv_at hl 5 rfl) ?_
    refine lv_iconst (v := 1) hx hb dL_law_237 (by decide) ?_
    refine lv_iadd hx hb dL_law_238 ?_
    refine va_sld hx hb hXs hbl hbA T.2.2 hi1 dL_law_239 ?_
    refine law_M (As := [.int (xs (x4 + 1).toNatClampNeg)]) (rest := []) (v := (some (.int rm.1))) C T (kX4_place l D cy am (wC cy ad [outE cy o (wf f r.1)] r.2) M (xs (x4 + 1).toNatClampNeg) rm g2) (cwV 1 hts gL_law_X4_place rfl rfl rfl (by decide +kernel) ⟨(Nat.le_of_ble_eq_true rfl), (Nat.le_of_ble_eq_true rfl)⟩) rfl hl.1 rfl (Nat.le_of_ble_eq_true rfl) dL_law_240 ⟨by dsimp only [room_1]; omega, by dsimp only [room_1]; omega⟩ (st2 := [.int rm.1]) (pc2 := 243) rfl rfl (fun H locs T => ?_)
    refine lv_istore (lv' := [(6, .int rm.1), (5, .int (rm.2.1 0)), (0, .ref b), (1, .ref (ad 0)), (2, .ref (am 0)), (3, .ref o), (4, .int x4)]) hx hb dL_law_243 hl (by decide) rfl (fun ls hl => ?_)
    refine lv_aload_n hx hb dL_law_245 rfl (lv_at hl 4 rfl) ?_
    refine law_M (As := []) (rest := []) (v := (some (.int (rm.2.1 0)))) C T (kX4_thrown l D cy am (wC cy ad [outE cy o (wf f r.1)] r.2) rm.2 (rm.2.1 0) rfl) (cwV 0 hts gL_law_X4_thrown rfl rfl rfl (by decide +kernel) ⟨(Nat.le_of_ble_eq_true rfl), (Nat.le_of_ble_eq_true rfl)⟩) rfl hl.1 rfl (Nat.le_of_ble_eq_true rfl) dL_law_246 ⟨by dsimp only [room_1]; omega, by dsimp only [room_1]; omega⟩ (st2 := [.int (rm.2.1 0)]) (pc2 := 249) rfl rfl (fun H locs T => ?_)
    refine lv_iload hx hb dL_law_249 (lv_at hl 1 rfl) ?_
    refine lv_icmp_eq (tgt := 256) hx hb dL_law_251 (by decide) (fun _ => ?_) (fun hc => absurd rfl hc)
    refine lv_iload hx hb dL_law_256 (lv_at hl 1 rfl) ?_
    have fin : ∀ (ls : Array Slot), lv_has ls 7 [(6, .int rm.1), (5, .int (rm.2.1 0)), (0, .ref b), (1, .ref (ad 0)), (2, .ref (am 0)), (3, .ref o), (4, .int x4)] → W p l e room_1 s m #[Value.ref b] below meth c H locs (2 * j + c0 + 2) (12 * j + s0 + 12) (lw_Z below #[Value.ref b] s) (F0 m 273 ls []) := by
      intro ls hl
      refine lv_goto (tgt := 863) hx hb dL_law_273 (by decide) ?_
      refine W.widen (k := 2 * j + c0 + 2) (n := 12 * j + s0 + 12) (by omega) (by omega) ?_
      exact hend r.2 rm.2 (wf f r.1) g5 H locs T ls (lv_sub hl [2, 3, 4, 5, 6] rfl)
    refine lv_if_ne (tgt := 273) hx hb dL_law_258 (by decide) (fun _ => fin ls hl) (fun hc => ?_)
    rw [hc] at g3
    obtain ⟨v, hv⟩ := wk0 (by decide) g3
    refine lv_aload_n hx hb dL_law_261 rfl (lv_at hl 5 rfl) ?_
    refine lv_iconst (v := 0) hx hb dL_law_262 (by decide) ?_
    refine va_lald hx hb C.2.2.2.2.2.2.1.1 T.1 16 2 rfl rfl (show vp_in 0 1 from fun h => absurd h (by decide)) dL_law_263 ?_
    refine lv_iload hx hb dL_law_264 (lv_at hl 0 rfl) ?_
    refine lv_i2l hx hb dL_law_266 rfl ?_
    refine W.lcmp hx hb dL_law_267 ?_
    have e0 : lg_cmp (wf f r.1 (0 : Int32).toNatClampNeg) rm.1.toInt64 = 0 := by rw [hv, ← g4 v hv]; exact lg_same f v
    exact lv_if_eq (tgt := 273) hx hb dL_law_268 (by decide) (fun _ => fin ls hl) (fun hc => absurd e0 hc)
  · -- raise
    refine lv_tableIn (off := 236) (tgt := 276) hx hb dL_law_40 (by decide) (by decide) (by decide) (by decide) ?_
    obtain ⟨r, rm, g1, g2, g3, g4, g5⟩ := (hok S M hI).2.2.1 (xs (x4 + 1).toNatClampNeg) (xs (x4 + 2).toNatClampNeg)
    refine lv_aload_n hx hb dL_law_276 rfl (lv_at hl 1 rfl) ?_
    refine lv_aload_n hx hb dL_law_277 rfl (lv_at hl 0 rfl) ?_
    refine lv_iload hx hb dL_law_278 (lv_at hl 4 rfl) ?_
    refine lv_iconst (v := 1) hx hb dL_law_280 (by decide) ?_
    refine lv_iadd hx hb dL_law_281 ?_
    refine va_sld hx hb hXs hbl hbA T.2.2 hi1 dL_law_282 ?_
    refine lv_aload_n hx hb dL_law_283 rfl (lv_at hl 0 rfl) ?_
    refine lv_iload hx hb dL_law_284 (lv_at hl 4 rfl) ?_
    refine lv_iconst (v := 2) hx hb dL_law_286 (by decide) ?_
    refine lv_iadd hx hb dL_law_287 ?_
    refine va_sld hx hb hXs hbl hbA T.2.2 hi2 dL_law_288 ?_
    refine lv_aload_n hx hb dL_law_289 rfl (lv_at hl 3 rfl) ?_
    refine law_W (As := [.ref (ad 0), .int (xs (x4 + 1).toNatClampNeg), .int (xs (x4 + 2).toNatClampNeg), .ref o]) (rest := []) C T (kL_raise l hfl t1 t2 D cy ad o (wM cy am [] M) S f (xs (x4 + 1).toNatClampNeg) (xs (x4 + 2).toNatClampNeg) r g1 (rm.2.1 0) g3) (vx_cwSW 4 hts gL_law_L_raise rfl rfl rfl (by decide +kernel) ⟨(Nat.le_of_ble_eq_true rfl), (Nat.le_of_ble_eq_true rfl)⟩) rfl hl.1 rfl (Nat.le_of_ble_eq_true rfl) dL_law_290 ⟨by dsimp only [room_1]; omega, by dsimp only [room_1]; omega⟩ (pc2 := 293) rfl (fun H locs T => ?_)
    refine lv_istore (lv' := [(5, .int (rm.2.1 0)), (0, .ref b), (1, .ref (ad 0)), (2, .ref (am 0)), (3, .ref o), (4, .int x4)]) hx hb dL_law_293 hl (by decide) rfl (fun ls hl => ?_)
    refine lv_aload_n hx hb dL_law_295 rfl (lv_at hl 3 rfl) ?_
    refine lv_aload_n hx hb dL_law_296 rfl (lv_at hl 1 rfl) ?_
    refine lv_iload hx hb dL_law_297 (lv_at hl 5 rfl) ?_
    refine lv_iconst (v := 1) hx hb dL_law_299 (by decide) ?_
    refine lv_iadd hx hb dL_law_300 ?_
    refine va_sld hx hb hXs hbl hbA T.2.2 hi1 dL_law_301 ?_
    refine lv_aload_n hx hb dL_law_302 rfl (lv_at hl 1 rfl) ?_
    refine lv_iload hx hb dL_law_303 (lv_at hl 5 rfl) ?_
    refine lv_iconst (v := 2) hx hb dL_law_305 (by decide) ?_
    refine lv_iadd hx hb dL_law_306 ?_
    refine va_sld hx hb hXs hbl hbA T.2.2 hi2 dL_law_307 ?_
    refine law_M (As := [.int (xs (x4 + 1).toNatClampNeg), .int (xs (x4 + 2).toNatClampNeg)]) (rest := []) (v := (some (.int rm.1))) C T (kX4_raise l D cy am (wC cy ad [outE cy o (wf f r.1)] r.2) M (xs (x4 + 1).toNatClampNeg) (xs (x4 + 2).toNatClampNeg) rm g2) (cwV 2 hts gL_law_X4_raise rfl rfl rfl (by decide +kernel) ⟨(Nat.le_of_ble_eq_true rfl), (Nat.le_of_ble_eq_true rfl)⟩) rfl hl.1 rfl (Nat.le_of_ble_eq_true rfl) dL_law_308 ⟨by dsimp only [room_1]; omega, by dsimp only [room_1]; omega⟩ (st2 := [.int rm.1]) (pc2 := 311) rfl rfl (fun H locs T => ?_)
    refine lv_istore (lv' := [(6, .int rm.1), (5, .int (rm.2.1 0)), (0, .ref b), (1, .ref (ad 0)), (2, .ref (am 0)), (3, .ref o), (4, .int x4)]) hx hb dL_law_311 hl (by decide) rfl (fun ls hl => ?_)
    refine lv_aload_n hx hb dL_law_313 rfl (lv_at hl 4 rfl) ?_
    refine law_M (As := []) (rest := []) (v := (some (.int (rm.2.1 0)))) C T (kX4_thrown l D cy am (wC cy ad [outE cy o (wf f r.1)] r.2) rm.2 (rm.2.1 0) rfl) (cwV 0 hts gL_law_X4_thrown rfl rfl rfl (by decide +kernel) ⟨(Nat.le_of_ble_eq_true rfl), (Nat.le_of_ble_eq_true rfl)⟩) rfl hl.1 rfl (Nat.le_of_ble_eq_true rfl) dL_law_314 ⟨by dsimp only [room_1]; omega, by dsimp only [room_1]; omega⟩ (st2 := [.int (rm.2.1 0)]) (pc2 := 317) rfl rfl (fun H locs T => ?_)
    refine lv_iload hx hb dL_law_317 (lv_at hl 1 rfl) ?_
    refine lv_icmp_eq (tgt := 324) hx hb dL_law_319 (by decide) (fun _ => ?_) (fun hc => absurd rfl hc)
    refine lv_iload hx hb dL_law_324 (lv_at hl 1 rfl) ?_
    have fin : ∀ (ls : Array Slot), lv_has ls 7 [(6, .int rm.1), (5, .int (rm.2.1 0)), (0, .ref b), (1, .ref (ad 0)), (2, .ref (am 0)), (3, .ref o), (4, .int x4)] → W p l e room_1 s m #[Value.ref b] below meth c H locs (2 * j + c0 + 2) (12 * j + s0 + 12) (lw_Z below #[Value.ref b] s) (F0 m 341 ls []) := by
      intro ls hl
      refine lv_goto (tgt := 863) hx hb dL_law_341 (by decide) ?_
      refine W.widen (k := 2 * j + c0 + 2) (n := 12 * j + s0 + 12) (by omega) (by omega) ?_
      exact hend r.2 rm.2 (wf f r.1) g5 H locs T ls (lv_sub hl [2, 3, 4, 5, 6] rfl)
    refine lv_if_ne (tgt := 341) hx hb dL_law_326 (by decide) (fun _ => fin ls hl) (fun hc => ?_)
    rw [hc] at g3
    obtain ⟨v, hv⟩ := wk0 (by decide) g3
    refine lv_aload_n hx hb dL_law_329 rfl (lv_at hl 5 rfl) ?_
    refine lv_iconst (v := 0) hx hb dL_law_330 (by decide) ?_
    refine va_lald hx hb C.2.2.2.2.2.2.1.1 T.1 16 2 rfl rfl (show vp_in 0 1 from fun h => absurd h (by decide)) dL_law_331 ?_
    refine lv_iload hx hb dL_law_332 (lv_at hl 0 rfl) ?_
    refine lv_i2l hx hb dL_law_334 rfl ?_
    refine W.lcmp hx hb dL_law_335 ?_
    have e0 : lg_cmp (wf f r.1 (0 : Int32).toNatClampNeg) rm.1.toInt64 = 0 := by rw [hv, ← g4 v hv]; exact lg_same f v
    exact lv_if_eq (tgt := 341) hx hb dL_law_336 (by decide) (fun _ => fin ls hl) (fun hc => absurd e0 hc)
  · -- onTurn
    refine lv_tableIn (off := 304) (tgt := 344) hx hb dL_law_40 (by decide) (by decide) (by decide) (by decide) ?_
    obtain ⟨r, rm, g1, g2, g3, g5⟩ := (hok S M hI).2.2.2.1
    refine lv_aload_n hx hb dL_law_344 rfl (lv_at hl 1 rfl) ?_
    refine law_C (As := []) (rest := []) (v := some (.int r)) C T (kX3_onTurn l D cy ad (outE cy o f :: wM cy am [] M) S r g1) (cwV 0 hts gL_law_X3_onTurn rfl rfl rfl (by decide +kernel) ⟨(Nat.le_of_ble_eq_true rfl), (Nat.le_of_ble_eq_true rfl)⟩) rfl hl.1 rfl (Nat.le_of_ble_eq_true rfl) dL_law_345 ⟨by dsimp only [room_1]; omega, by dsimp only [room_1]; omega⟩ (st2 := [.int r]) (pc2 := 348) rfl rfl (fun H locs T => ?_)
    refine lv_aload_n hx hb dL_law_348 rfl (lv_at hl 2 rfl) ?_
    refine law_M (As := []) (rest := [.int r]) (v := (some (.int rm.1))) C T (kX4_onTurn l D cy am (wC cy ad [outE cy o f] S) M rm g2) (cwV 0 hts gL_law_X4_onTurn rfl rfl rfl (by decide +kernel) ⟨(Nat.le_of_ble_eq_true rfl), (Nat.le_of_ble_eq_true rfl)⟩) rfl hl.1 rfl (Nat.le_of_ble_eq_true rfl) dL_law_349 ⟨by dsimp only [room_1]; omega, by dsimp only [room_1]; omega⟩ (st2 := [.int rm.1, .int r]) (pc2 := 352) rfl rfl (fun H locs T => ?_)
    refine lv_icmp_eq (tgt := 863) hx hb dL_law_352 (by decide) (fun _ => ?_) (fun hc => absurd g3 hc)
    refine W.widen (k := 2 * j + c0 + 2) (n := 12 * j + s0 + 12) (by omega) (by omega) ?_
    exact hend S rm.2 f g5 H locs T ls hl
  · -- winner
    refine lv_tableIn (off := 317) (tgt := 357) hx hb dL_law_40 (by decide) (by decide) (by decide) (by decide) ?_
    obtain ⟨r, rm, g1, g2, g3, g5⟩ := (hok S M hI).2.2.2.2.1
    refine lv_aload_n hx hb dL_law_357 rfl (lv_at hl 1 rfl) ?_
    refine law_C (As := []) (rest := []) (v := some (.int r)) C T (kX3_winner l D cy ad (outE cy o f :: wM cy am [] M) S r g1) (cwV 0 hts gL_law_X3_winner rfl rfl rfl (by decide +kernel) ⟨(Nat.le_of_ble_eq_true rfl), (Nat.le_of_ble_eq_true rfl)⟩) rfl hl.1 rfl (Nat.le_of_ble_eq_true rfl) dL_law_358 ⟨by dsimp only [room_1]; omega, by dsimp only [room_1]; omega⟩ (st2 := [.int r]) (pc2 := 361) rfl rfl (fun H locs T => ?_)
    refine lv_aload_n hx hb dL_law_361 rfl (lv_at hl 2 rfl) ?_
    refine law_M (As := []) (rest := [.int r]) (v := (some (.int rm.1))) C T (kX4_winner l D cy am (wC cy ad [outE cy o f] S) M rm g2) (cwV 0 hts gL_law_X4_winner rfl rfl rfl (by decide +kernel) ⟨(Nat.le_of_ble_eq_true rfl), (Nat.le_of_ble_eq_true rfl)⟩) rfl hl.1 rfl (Nat.le_of_ble_eq_true rfl) dL_law_362 ⟨by dsimp only [room_1]; omega, by dsimp only [room_1]; omega⟩ (st2 := [.int rm.1, .int r]) (pc2 := 365) rfl rfl (fun H locs T => ?_)
    refine lv_icmp_eq (tgt := 863) hx hb dL_law_365 (by decide) (fun _ => ?_) (fun hc => absurd g3 hc)
    refine W.widen (k := 2 * j + c0 + 2) (n := 12 * j + s0 + 12) (by omega) (by omega) ?_
    exact hend S rm.2 f g5 H locs T ls hl
  · -- height
    refine lv_tableIn (off := 330) (tgt := 370) hx hb dL_law_40 (by decide) (by decide) (by decide) (by decide) ?_
    obtain ⟨r, rm, g1, g2, g3, g4, g5⟩ := (hok S M hI).2.2.2.2.2.1 (xs (x4 + 1).toNatClampNeg)
    refine lv_aload_n hx hb dL_law_370 rfl (lv_at hl 1 rfl) ?_
    refine lv_aload_n hx hb dL_law_371 rfl (lv_at hl 0 rfl) ?_
    refine lv_iload hx hb dL_law_372 (lv_at hl 4 rfl) ?_
    refine lv_iconst (v := 1) hx hb dL_law_374 (by decide) ?_
    refine lv_iadd hx hb dL_law_375 ?_
    refine va_sld hx hb hXs hbl hbA T.2.2 hi1 dL_law_376 ?_
    refine lv_aload_n hx hb dL_law_377 rfl (lv_at hl 3 rfl) ?_
    refine law_W (As := [.ref (ad 0), .int (xs (x4 + 1).toNatClampNeg), .ref o]) (rest := []) C T (kL_height l hfl t1 t2 D cy ad o (wM cy am [] M) S f (xs (x4 + 1).toNatClampNeg) r g1 (rm.2.1 0) g3) (vx_cwSW 3 hts gL_law_L_height rfl rfl rfl (by decide +kernel) ⟨(Nat.le_of_ble_eq_true rfl), (Nat.le_of_ble_eq_true rfl)⟩) rfl hl.1 rfl (Nat.le_of_ble_eq_true rfl) dL_law_378 ⟨by dsimp only [room_1]; omega, by dsimp only [room_1]; omega⟩ (pc2 := 381) rfl (fun H locs T => ?_)
    refine lv_istore (lv' := [(5, .int (rm.2.1 0)), (0, .ref b), (1, .ref (ad 0)), (2, .ref (am 0)), (3, .ref o), (4, .int x4)]) hx hb dL_law_381 hl (by decide) rfl (fun ls hl => ?_)
    refine lv_aload_n hx hb dL_law_383 rfl (lv_at hl 3 rfl) ?_
    refine lv_aload_n hx hb dL_law_384 rfl (lv_at hl 1 rfl) ?_
    refine lv_iload hx hb dL_law_385 (lv_at hl 5 rfl) ?_
    refine lv_iconst (v := 1) hx hb dL_law_387 (by decide) ?_
    refine lv_iadd hx hb dL_law_388 ?_
    refine va_sld hx hb hXs hbl hbA T.2.2 hi1 dL_law_389 ?_
    refine law_M (As := [.int (xs (x4 + 1).toNatClampNeg)]) (rest := []) (v := (some (.int rm.1))) C T (kX4_height l D cy am (wC cy ad [outE cy o (wf f r)] S) M (xs (x4 + 1).toNatClampNeg) rm g2) (cwV 1 hts gL_law_X4_height rfl rfl rfl (by decide +kernel) ⟨(Nat.le_of_ble_eq_true rfl), (Nat.le_of_ble_eq_true rfl)⟩) rfl hl.1 rfl (Nat.le_of_ble_eq_true rfl) dL_law_390 ⟨by dsimp only [room_1]; omega, by dsimp only [room_1]; omega⟩ (st2 := [.int rm.1]) (pc2 := 393) rfl rfl (fun H locs T => ?_)
    refine lv_istore (lv' := [(6, .int rm.1), (5, .int (rm.2.1 0)), (0, .ref b), (1, .ref (ad 0)), (2, .ref (am 0)), (3, .ref o), (4, .int x4)]) hx hb dL_law_393 hl (by decide) rfl (fun ls hl => ?_)
    refine lv_aload_n hx hb dL_law_395 rfl (lv_at hl 4 rfl) ?_
    refine law_M (As := []) (rest := []) (v := (some (.int (rm.2.1 0)))) C T (kX4_thrown l D cy am (wC cy ad [outE cy o (wf f r)] S) rm.2 (rm.2.1 0) rfl) (cwV 0 hts gL_law_X4_thrown rfl rfl rfl (by decide +kernel) ⟨(Nat.le_of_ble_eq_true rfl), (Nat.le_of_ble_eq_true rfl)⟩) rfl hl.1 rfl (Nat.le_of_ble_eq_true rfl) dL_law_396 ⟨by dsimp only [room_1]; omega, by dsimp only [room_1]; omega⟩ (st2 := [.int (rm.2.1 0)]) (pc2 := 399) rfl rfl (fun H locs T => ?_)
    refine lv_iload hx hb dL_law_399 (lv_at hl 1 rfl) ?_
    refine lv_icmp_eq (tgt := 406) hx hb dL_law_401 (by decide) (fun _ => ?_) (fun hc => absurd rfl hc)
    refine lv_iload hx hb dL_law_406 (lv_at hl 1 rfl) ?_
    have fin : ∀ (ls : Array Slot), lv_has ls 7 [(6, .int rm.1), (5, .int (rm.2.1 0)), (0, .ref b), (1, .ref (ad 0)), (2, .ref (am 0)), (3, .ref o), (4, .int x4)] → W p l e room_1 s m #[Value.ref b] below meth c H locs (2 * j + c0 + 1) (12 * j + s0 + 6) (lw_Z below #[Value.ref b] s) (F0 m 423 ls []) := by
      intro ls hl
      refine lv_goto (tgt := 863) hx hb dL_law_423 (by decide) ?_
      refine W.widen (k := 2 * j + c0 + 2) (n := 12 * j + s0 + 12) (by omega) (by omega) ?_
      exact hend S rm.2 (wf f r) g5 H locs T ls (lv_sub hl [2, 3, 4, 5, 6] rfl)
    refine lv_if_ne (tgt := 423) hx hb dL_law_408 (by decide) (fun _ => fin ls hl) (fun hc => ?_)
    rw [hc] at g3
    obtain ⟨v, hv⟩ := wk0 (by decide) g3
    refine lv_aload_n hx hb dL_law_411 rfl (lv_at hl 5 rfl) ?_
    refine lv_iconst (v := 0) hx hb dL_law_412 (by decide) ?_
    refine va_lald hx hb C.2.2.2.2.2.2.1.1 T.1 16 2 rfl rfl (show vp_in 0 1 from fun h => absurd h (by decide)) dL_law_413 ?_
    refine lv_iload hx hb dL_law_414 (lv_at hl 0 rfl) ?_
    refine lv_i2l hx hb dL_law_416 rfl ?_
    refine W.lcmp hx hb dL_law_417 ?_
    have e0 : lg_cmp (wf f r (0 : Int32).toNatClampNeg) rm.1.toInt64 = 0 := by rw [hv, ← g4 v hv]; exact lg_same f v
    exact lv_if_eq (tgt := 423) hx hb dL_law_418 (by decide) (fun _ => fin ls hl) (fun hc => absurd e0 hc)
  · -- builderAt
    refine lv_tableIn (off := 386) (tgt := 426) hx hb dL_law_40 (by decide) (by decide) (by decide) (by decide) ?_
    obtain ⟨r, rm, g1, g2, g3, g4, g5⟩ := (hok S M hI).2.2.2.2.2.2.1 (xs (x4 + 1).toNatClampNeg)
    refine lv_aload_n hx hb dL_law_426 rfl (lv_at hl 1 rfl) ?_
    refine lv_aload_n hx hb dL_law_427 rfl (lv_at hl 0 rfl) ?_
    refine lv_iload hx hb dL_law_428 (lv_at hl 4 rfl) ?_
    refine lv_iconst (v := 1) hx hb dL_law_430 (by decide) ?_
    refine lv_iadd hx hb dL_law_431 ?_
    refine va_sld hx hb hXs hbl hbA T.2.2 hi1 dL_law_432 ?_
    refine lv_aload_n hx hb dL_law_433 rfl (lv_at hl 3 rfl) ?_
    refine law_W (As := [.ref (ad 0), .int (xs (x4 + 1).toNatClampNeg), .ref o]) (rest := []) C T (kL_builderAt l hfl t1 t2 D cy ad o (wM cy am [] M) S f (xs (x4 + 1).toNatClampNeg) r g1 (rm.2.1 0) g3) (vx_cwSW 3 hts gL_law_L_builderAt rfl rfl rfl (by decide +kernel) ⟨(Nat.le_of_ble_eq_true rfl), (Nat.le_of_ble_eq_true rfl)⟩) rfl hl.1 rfl (Nat.le_of_ble_eq_true rfl) dL_law_434 ⟨by dsimp only [room_1]; omega, by dsimp only [room_1]; omega⟩ (pc2 := 437) rfl (fun H locs T => ?_)
    refine lv_istore (lv' := [(5, .int (rm.2.1 0)), (0, .ref b), (1, .ref (ad 0)), (2, .ref (am 0)), (3, .ref o), (4, .int x4)]) hx hb dL_law_437 hl (by decide) rfl (fun ls hl => ?_)
    refine lv_aload_n hx hb dL_law_439 rfl (lv_at hl 3 rfl) ?_
    refine lv_aload_n hx hb dL_law_440 rfl (lv_at hl 1 rfl) ?_
    refine lv_iload hx hb dL_law_441 (lv_at hl 5 rfl) ?_
    refine lv_iconst (v := 1) hx hb dL_law_443 (by decide) ?_
    refine lv_iadd hx hb dL_law_444 ?_
    refine va_sld hx hb hXs hbl hbA T.2.2 hi1 dL_law_445 ?_
    refine law_M (As := [.int (xs (x4 + 1).toNatClampNeg)]) (rest := []) (v := (some (.int rm.1))) C T (kX4_builderAt l D cy am (wC cy ad [outE cy o (wf f r)] S) M (xs (x4 + 1).toNatClampNeg) rm g2) (cwV 1 hts gL_law_X4_builderAt rfl rfl rfl (by decide +kernel) ⟨(Nat.le_of_ble_eq_true rfl), (Nat.le_of_ble_eq_true rfl)⟩) rfl hl.1 rfl (Nat.le_of_ble_eq_true rfl) dL_law_446 ⟨by dsimp only [room_1]; omega, by dsimp only [room_1]; omega⟩ (st2 := [.int rm.1]) (pc2 := 449) rfl rfl (fun H locs T => ?_)
    refine lv_istore (lv' := [(6, .int rm.1), (5, .int (rm.2.1 0)), (0, .ref b), (1, .ref (ad 0)), (2, .ref (am 0)), (3, .ref o), (4, .int x4)]) hx hb dL_law_449 hl (by decide) rfl (fun ls hl => ?_)
    refine lv_aload_n hx hb dL_law_451 rfl (lv_at hl 4 rfl) ?_
    refine law_M (As := []) (rest := []) (v := (some (.int (rm.2.1 0)))) C T (kX4_thrown l D cy am (wC cy ad [outE cy o (wf f r)] S) rm.2 (rm.2.1 0) rfl) (cwV 0 hts gL_law_X4_thrown rfl rfl rfl (by decide +kernel) ⟨(Nat.le_of_ble_eq_true rfl), (Nat.le_of_ble_eq_true rfl)⟩) rfl hl.1 rfl (Nat.le_of_ble_eq_true rfl) dL_law_452 ⟨by dsimp only [room_1]; omega, by dsimp only [room_1]; omega⟩ (st2 := [.int (rm.2.1 0)]) (pc2 := 455) rfl rfl (fun H locs T => ?_)
    refine lv_iload hx hb dL_law_455 (lv_at hl 1 rfl) ?_
    refine lv_icmp_eq (tgt := 462) hx hb dL_law_457 (by decide) (fun _ => ?_) (fun hc => absurd rfl hc)
    refine lv_iload hx hb dL_law_462 (lv_at hl 1 rfl) ?_
    have fin : ∀ (ls : Array Slot), lv_has ls 7 [(6, .int rm.1), (5, .int (rm.2.1 0)), (0, .ref b), (1, .ref (ad 0)), (2, .ref (am 0)), (3, .ref o), (4, .int x4)] → W p l e room_1 s m #[Value.ref b] below meth c H locs (2 * j + c0 + 1) (12 * j + s0 + 6) (lw_Z below #[Value.ref b] s) (F0 m 479 ls []) := by
      intro ls hl
      refine lv_goto (tgt := 863) hx hb dL_law_479 (by decide) ?_
      refine W.widen (k := 2 * j + c0 + 2) (n := 12 * j + s0 + 12) (by omega) (by omega) ?_
      exact hend S rm.2 (wf f r) g5 H locs T ls (lv_sub hl [2, 3, 4, 5, 6] rfl)
    refine lv_if_ne (tgt := 479) hx hb dL_law_464 (by decide) (fun _ => fin ls hl) (fun hc => ?_)
    rw [hc] at g3
    obtain ⟨v, hv⟩ := wk0 (by decide) g3
    refine lv_aload_n hx hb dL_law_467 rfl (lv_at hl 5 rfl) ?_
    refine lv_iconst (v := 0) hx hb dL_law_468 (by decide) ?_
    refine va_lald hx hb C.2.2.2.2.2.2.1.1 T.1 16 2 rfl rfl (show vp_in 0 1 from fun h => absurd h (by decide)) dL_law_469 ?_
    refine lv_iload hx hb dL_law_470 (lv_at hl 0 rfl) ?_
    refine lv_i2l hx hb dL_law_472 rfl ?_
    refine W.lcmp hx hb dL_law_473 ?_
    have e0 : lg_cmp (wf f r (0 : Int32).toNatClampNeg) rm.1.toInt64 = 0 := by rw [hv, ← g4 v hv]; exact lg_same f v
    exact lv_if_eq (tgt := 479) hx hb dL_law_474 (by decide) (fun _ => fin ls hl) (fun hc => absurd e0 hc)
  · -- played
    refine lv_tableIn (off := 442) (tgt := 482) hx hb dL_law_40 (by decide) (by decide) (by decide) (by decide) ?_
    obtain ⟨r, rm, g1, g2, g3, g5⟩ := (hok S M hI).2.2.2.2.2.2.2.1
    refine lv_aload_n hx hb dL_law_482 rfl (lv_at hl 1 rfl) ?_
    refine law_C (As := []) (rest := []) (v := some (.int r)) C T (kX3_played l D cy ad (outE cy o f :: wM cy am [] M) S r g1) (cwV 0 hts gL_law_X3_played rfl rfl rfl (by decide +kernel) ⟨(Nat.le_of_ble_eq_true rfl), (Nat.le_of_ble_eq_true rfl)⟩) rfl hl.1 rfl (Nat.le_of_ble_eq_true rfl) dL_law_483 ⟨by dsimp only [room_1]; omega, by dsimp only [room_1]; omega⟩ (st2 := [.int r]) (pc2 := 486) rfl rfl (fun H locs T => ?_)
    refine lv_aload_n hx hb dL_law_486 rfl (lv_at hl 2 rfl) ?_
    refine law_M (As := []) (rest := [.int r]) (v := (some (.int rm.1))) C T (kX4_played l D cy am (wC cy ad [outE cy o f] S) M rm g2) (cwV 0 hts gL_law_X4_played rfl rfl rfl (by decide +kernel) ⟨(Nat.le_of_ble_eq_true rfl), (Nat.le_of_ble_eq_true rfl)⟩) rfl hl.1 rfl (Nat.le_of_ble_eq_true rfl) dL_law_487 ⟨by dsimp only [room_1]; omega, by dsimp only [room_1]; omega⟩ (st2 := [.int rm.1, .int r]) (pc2 := 490) rfl rfl (fun H locs T => ?_)
    refine lv_icmp_eq (tgt := 863) hx hb dL_law_490 (by decide) (fun _ => ?_) (fun hc => absurd g3 hc)
    refine W.widen (k := 2 * j + c0 + 2) (n := 12 * j + s0 + 12) (by omega) (by omega) ?_
    exact hend S rm.2 f g5 H locs T ls hl
  · -- turnCount
    refine lv_tableIn (off := 455) (tgt := 495) hx hb dL_law_40 (by decide) (by decide) (by decide) (by decide) ?_
    obtain ⟨r, rm, g1, g2, g3, g4, g5⟩ := (hok S M hI).2.2.2.2.2.2.2.2.1
    refine lv_aload_n hx hb dL_law_495 rfl (lv_at hl 1 rfl) ?_
    refine lv_aload_n hx hb dL_law_496 rfl (lv_at hl 3 rfl) ?_
    refine law_W (As := [.ref (ad 0), .ref o]) (rest := []) C T (kL_turnCount l hfl t1 t2 D cy ad o (wM cy am [] M) S f r g1 (rm.2.1 0) g3) (vx_cwSW 2 hts gL_law_L_turnCount rfl rfl rfl (by decide +kernel) ⟨(Nat.le_of_ble_eq_true rfl), (Nat.le_of_ble_eq_true rfl)⟩) rfl hl.1 rfl (Nat.le_of_ble_eq_true rfl) dL_law_497 ⟨by dsimp only [room_1]; omega, by dsimp only [room_1]; omega⟩ (pc2 := 500) rfl (fun H locs T => ?_)
    refine lv_istore (lv' := [(5, .int (rm.2.1 0)), (0, .ref b), (1, .ref (ad 0)), (2, .ref (am 0)), (3, .ref o), (4, .int x4)]) hx hb dL_law_500 hl (by decide) rfl (fun ls hl => ?_)
    refine lv_aload_n hx hb dL_law_502 rfl (lv_at hl 3 rfl) ?_
    refine law_M (As := []) (rest := []) (v := (some (.int rm.1))) C T (kX4_turnCount l D cy am (wC cy ad [outE cy o (wf f r.1)] r.2) M rm g2) (cwV 0 hts gL_law_X4_turnCount rfl rfl rfl (by decide +kernel) ⟨(Nat.le_of_ble_eq_true rfl), (Nat.le_of_ble_eq_true rfl)⟩) rfl hl.1 rfl (Nat.le_of_ble_eq_true rfl) dL_law_503 ⟨by dsimp only [room_1]; omega, by dsimp only [room_1]; omega⟩ (st2 := [.int rm.1]) (pc2 := 506) rfl rfl (fun H locs T => ?_)
    refine lv_istore (lv' := [(6, .int rm.1), (5, .int (rm.2.1 0)), (0, .ref b), (1, .ref (ad 0)), (2, .ref (am 0)), (3, .ref o), (4, .int x4)]) hx hb dL_law_506 hl (by decide) rfl (fun ls hl => ?_)
    refine lv_aload_n hx hb dL_law_508 rfl (lv_at hl 4 rfl) ?_
    refine law_M (As := []) (rest := []) (v := (some (.int (rm.2.1 0)))) C T (kX4_thrown l D cy am (wC cy ad [outE cy o (wf f r.1)] r.2) rm.2 (rm.2.1 0) rfl) (cwV 0 hts gL_law_X4_thrown rfl rfl rfl (by decide +kernel) ⟨(Nat.le_of_ble_eq_true rfl), (Nat.le_of_ble_eq_true rfl)⟩) rfl hl.1 rfl (Nat.le_of_ble_eq_true rfl) dL_law_509 ⟨by dsimp only [room_1]; omega, by dsimp only [room_1]; omega⟩ (st2 := [.int (rm.2.1 0)]) (pc2 := 512) rfl rfl (fun H locs T => ?_)
    refine lv_iload hx hb dL_law_512 (lv_at hl 1 rfl) ?_
    refine lv_icmp_eq (tgt := 519) hx hb dL_law_514 (by decide) (fun _ => ?_) (fun hc => absurd rfl hc)
    refine lv_iload hx hb dL_law_519 (lv_at hl 1 rfl) ?_
    have fin : ∀ (ls : Array Slot), lv_has ls 7 [(6, .int rm.1), (5, .int (rm.2.1 0)), (0, .ref b), (1, .ref (ad 0)), (2, .ref (am 0)), (3, .ref o), (4, .int x4)] → W p l e room_1 s m #[Value.ref b] below meth c H locs (2 * j + c0 + 1) (12 * j + s0 + 6) (lw_Z below #[Value.ref b] s) (F0 m 536 ls []) := by
      intro ls hl
      refine lv_goto (tgt := 863) hx hb dL_law_536 (by decide) ?_
      refine W.widen (k := 2 * j + c0 + 2) (n := 12 * j + s0 + 12) (by omega) (by omega) ?_
      exact hend r.2 rm.2 (wf f r.1) g5 H locs T ls (lv_sub hl [2, 3, 4, 5, 6] rfl)
    refine lv_if_ne (tgt := 536) hx hb dL_law_521 (by decide) (fun _ => fin ls hl) (fun hc => ?_)
    rw [hc] at g3
    obtain ⟨v, hv⟩ := wk0 (by decide) g3
    refine lv_aload_n hx hb dL_law_524 rfl (lv_at hl 5 rfl) ?_
    refine lv_iconst (v := 0) hx hb dL_law_525 (by decide) ?_
    refine va_lald hx hb C.2.2.2.2.2.2.1.1 T.1 16 2 rfl rfl (show vp_in 0 1 from fun h => absurd h (by decide)) dL_law_526 ?_
    refine lv_iload hx hb dL_law_527 (lv_at hl 0 rfl) ?_
    refine lv_i2l hx hb dL_law_529 rfl ?_
    refine W.lcmp hx hb dL_law_530 ?_
    have e0 : lg_cmp (wf f r.1 (0 : Int32).toNatClampNeg) rm.1.toInt64 = 0 := by rw [hv, ← g4 v hv]; exact lg_same f v
    exact lv_if_eq (tgt := 536) hx hb dL_law_531 (by decide) (fun _ => fin ls hl) (fun hc => absurd e0 hc)
  · -- turnAt
    refine lv_tableIn (off := 499) (tgt := 539) hx hb dL_law_40 (by decide) (by decide) (by decide) (by decide) ?_
    obtain ⟨r, rm, g1, g2, g3, g4, g5⟩ := (hok S M hI).2.2.2.2.2.2.2.2.2.1 (xs (x4 + 1).toNatClampNeg)
    refine lv_aload_n hx hb dL_law_539 rfl (lv_at hl 1 rfl) ?_
    refine lv_aload_n hx hb dL_law_540 rfl (lv_at hl 0 rfl) ?_
    refine lv_iload hx hb dL_law_541 (lv_at hl 4 rfl) ?_
    refine lv_iconst (v := 1) hx hb dL_law_543 (by decide) ?_
    refine lv_iadd hx hb dL_law_544 ?_
    refine va_sld hx hb hXs hbl hbA T.2.2 hi1 dL_law_545 ?_
    refine lv_aload_n hx hb dL_law_546 rfl (lv_at hl 3 rfl) ?_
    refine law_W (As := [.ref (ad 0), .int (xs (x4 + 1).toNatClampNeg), .ref o]) (rest := []) C T (kL_turnAt l hfl t1 t2 D cy ad o (wM cy am [] M) S f (xs (x4 + 1).toNatClampNeg) r g1 (rm.2.1 0) g3) (vx_cwSW 3 hts gL_law_L_turnAt rfl rfl rfl (by decide +kernel) ⟨(Nat.le_of_ble_eq_true rfl), (Nat.le_of_ble_eq_true rfl)⟩) rfl hl.1 rfl (Nat.le_of_ble_eq_true rfl) dL_law_547 ⟨by dsimp only [room_1]; omega, by dsimp only [room_1]; omega⟩ (pc2 := 550) rfl (fun H locs T => ?_)
    refine lv_istore (lv' := [(5, .int (rm.2.1 0)), (0, .ref b), (1, .ref (ad 0)), (2, .ref (am 0)), (3, .ref o), (4, .int x4)]) hx hb dL_law_550 hl (by decide) rfl (fun ls hl => ?_)
    refine lv_aload_n hx hb dL_law_552 rfl (lv_at hl 3 rfl) ?_
    refine lv_aload_n hx hb dL_law_553 rfl (lv_at hl 1 rfl) ?_
    refine lv_iload hx hb dL_law_554 (lv_at hl 5 rfl) ?_
    refine lv_iconst (v := 1) hx hb dL_law_556 (by decide) ?_
    refine lv_iadd hx hb dL_law_557 ?_
    refine va_sld hx hb hXs hbl hbA T.2.2 hi1 dL_law_558 ?_
    refine law_M (As := [.int (xs (x4 + 1).toNatClampNeg)]) (rest := []) (v := (some (.int rm.1))) C T (kX4_turnAt l D cy am (wC cy ad [outE cy o (wf f r.1)] r.2) M (xs (x4 + 1).toNatClampNeg) rm g2) (cwV 1 hts gL_law_X4_turnAt rfl rfl rfl (by decide +kernel) ⟨(Nat.le_of_ble_eq_true rfl), (Nat.le_of_ble_eq_true rfl)⟩) rfl hl.1 rfl (Nat.le_of_ble_eq_true rfl) dL_law_559 ⟨by dsimp only [room_1]; omega, by dsimp only [room_1]; omega⟩ (st2 := [.int rm.1]) (pc2 := 562) rfl rfl (fun H locs T => ?_)
    refine lv_istore (lv' := [(6, .int rm.1), (5, .int (rm.2.1 0)), (0, .ref b), (1, .ref (ad 0)), (2, .ref (am 0)), (3, .ref o), (4, .int x4)]) hx hb dL_law_562 hl (by decide) rfl (fun ls hl => ?_)
    refine lv_aload_n hx hb dL_law_564 rfl (lv_at hl 4 rfl) ?_
    refine law_M (As := []) (rest := []) (v := (some (.int (rm.2.1 0)))) C T (kX4_thrown l D cy am (wC cy ad [outE cy o (wf f r.1)] r.2) rm.2 (rm.2.1 0) rfl) (cwV 0 hts gL_law_X4_thrown rfl rfl rfl (by decide +kernel) ⟨(Nat.le_of_ble_eq_true rfl), (Nat.le_of_ble_eq_true rfl)⟩) rfl hl.1 rfl (Nat.le_of_ble_eq_true rfl) dL_law_565 ⟨by dsimp only [room_1]; omega, by dsimp only [room_1]; omega⟩ (st2 := [.int (rm.2.1 0)]) (pc2 := 568) rfl rfl (fun H locs T => ?_)
    refine lv_iload hx hb dL_law_568 (lv_at hl 1 rfl) ?_
    refine lv_icmp_eq (tgt := 575) hx hb dL_law_570 (by decide) (fun _ => ?_) (fun hc => absurd rfl hc)
    refine lv_iload hx hb dL_law_575 (lv_at hl 1 rfl) ?_
    have fin : ∀ (ls : Array Slot), lv_has ls 7 [(6, .int rm.1), (5, .int (rm.2.1 0)), (0, .ref b), (1, .ref (ad 0)), (2, .ref (am 0)), (3, .ref o), (4, .int x4)] → W p l e room_1 s m #[Value.ref b] below meth c H locs (2 * j + c0 + 2) (12 * j + s0 + 12) (lw_Z below #[Value.ref b] s) (F0 m 592 ls []) := by
      intro ls hl
      refine lv_goto (tgt := 863) hx hb dL_law_592 (by decide) ?_
      refine W.widen (k := 2 * j + c0 + 2) (n := 12 * j + s0 + 12) (by omega) (by omega) ?_
      exact hend r.2 rm.2 (wf f r.1) g5 H locs T ls (lv_sub hl [2, 3, 4, 5, 6] rfl)
    refine lv_if_ne (tgt := 592) hx hb dL_law_577 (by decide) (fun _ => fin ls hl) (fun hc => ?_)
    rw [hc] at g3
    obtain ⟨v, hv⟩ := wk0 (by decide) g3
    refine lv_aload_n hx hb dL_law_580 rfl (lv_at hl 5 rfl) ?_
    refine lv_iconst (v := 0) hx hb dL_law_581 (by decide) ?_
    refine va_lald hx hb C.2.2.2.2.2.2.1.1 T.1 16 2 rfl rfl (show vp_in 0 1 from fun h => absurd h (by decide)) dL_law_582 ?_
    refine lv_iload hx hb dL_law_583 (lv_at hl 0 rfl) ?_
    refine lv_i2l hx hb dL_law_585 rfl ?_
    refine W.lcmp hx hb dL_law_586 ?_
    have e0 : lg_cmp (wf f r.1 (0 : Int32).toNatClampNeg) rm.1.toInt64 = 0 := by rw [hv, ← g4 v hv]; exact lg_same f v
    exact lv_if_eq (tgt := 592) hx hb dL_law_587 (by decide) (fun _ => fin ls hl) (fun hc => absurd e0 hc)
  · -- play
    refine lv_tableIn (off := 555) (tgt := 595) hx hb dL_law_40 (by decide) (by decide) (by decide) (by decide) ?_
    obtain ⟨r, rm, g1, g2, g3, g4, g5⟩ := (hok S M hI).2.2.2.2.2.2.2.2.2.2.1 (xs (x4 + 1).toNatClampNeg)
    refine lv_aload_n hx hb dL_law_595 rfl (lv_at hl 1 rfl) ?_
    refine lv_aload_n hx hb dL_law_596 rfl (lv_at hl 0 rfl) ?_
    refine lv_iload hx hb dL_law_597 (lv_at hl 4 rfl) ?_
    refine lv_iconst (v := 1) hx hb dL_law_599 (by decide) ?_
    refine lv_iadd hx hb dL_law_600 ?_
    refine va_sld hx hb hXs hbl hbA T.2.2 hi1 dL_law_601 ?_
    refine lv_aload_n hx hb dL_law_602 rfl (lv_at hl 3 rfl) ?_
    refine law_W (As := [.ref (ad 0), .int (xs (x4 + 1).toNatClampNeg), .ref o]) (rest := []) C T (kL_play l hfl t1 t2 D cy ad o (wM cy am [] M) S f (xs (x4 + 1).toNatClampNeg) r g1 (rm.2.1 0) g3) (vx_cwSW 3 hts gL_law_L_play rfl rfl rfl (by decide +kernel) ⟨(Nat.le_of_ble_eq_true rfl), (Nat.le_of_ble_eq_true rfl)⟩) rfl hl.1 rfl (Nat.le_of_ble_eq_true rfl) dL_law_603 ⟨by dsimp only [room_1]; omega, by dsimp only [room_1]; omega⟩ (pc2 := 606) rfl (fun H locs T => ?_)
    refine lv_istore (lv' := [(5, .int (rm.2.1 0)), (0, .ref b), (1, .ref (ad 0)), (2, .ref (am 0)), (3, .ref o), (4, .int x4)]) hx hb dL_law_606 hl (by decide) rfl (fun ls hl => ?_)
    refine lv_aload_n hx hb dL_law_608 rfl (lv_at hl 3 rfl) ?_
    refine lv_aload_n hx hb dL_law_609 rfl (lv_at hl 1 rfl) ?_
    refine lv_iload hx hb dL_law_610 (lv_at hl 5 rfl) ?_
    refine lv_iconst (v := 1) hx hb dL_law_612 (by decide) ?_
    refine lv_iadd hx hb dL_law_613 ?_
    refine va_sld hx hb hXs hbl hbA T.2.2 hi1 dL_law_614 ?_
    refine law_M (As := [.int (xs (x4 + 1).toNatClampNeg)]) (rest := []) (v := (some (.int rm.1))) C T (kX4_play l D cy am (wC cy ad [outE cy o (wf f r.1)] r.2) M (xs (x4 + 1).toNatClampNeg) rm g2) (cwV 1 hts gL_law_X4_play rfl rfl rfl (by decide +kernel) ⟨(Nat.le_of_ble_eq_true rfl), (Nat.le_of_ble_eq_true rfl)⟩) rfl hl.1 rfl (Nat.le_of_ble_eq_true rfl) dL_law_615 ⟨by dsimp only [room_1]; omega, by dsimp only [room_1]; omega⟩ (st2 := [.int rm.1]) (pc2 := 618) rfl rfl (fun H locs T => ?_)
    refine lv_istore (lv' := [(6, .int rm.1), (5, .int (rm.2.1 0)), (0, .ref b), (1, .ref (ad 0)), (2, .ref (am 0)), (3, .ref o), (4, .int x4)]) hx hb dL_law_618 hl (by decide) rfl (fun ls hl => ?_)
    refine lv_aload_n hx hb dL_law_620 rfl (lv_at hl 4 rfl) ?_
    refine law_M (As := []) (rest := []) (v := (some (.int (rm.2.1 0)))) C T (kX4_thrown l D cy am (wC cy ad [outE cy o (wf f r.1)] r.2) rm.2 (rm.2.1 0) rfl) (cwV 0 hts gL_law_X4_thrown rfl rfl rfl (by decide +kernel) ⟨(Nat.le_of_ble_eq_true rfl), (Nat.le_of_ble_eq_true rfl)⟩) rfl hl.1 rfl (Nat.le_of_ble_eq_true rfl) dL_law_621 ⟨by dsimp only [room_1]; omega, by dsimp only [room_1]; omega⟩ (st2 := [.int (rm.2.1 0)]) (pc2 := 624) rfl rfl (fun H locs T => ?_)
    refine lv_iload hx hb dL_law_624 (lv_at hl 1 rfl) ?_
    refine lv_icmp_eq (tgt := 631) hx hb dL_law_626 (by decide) (fun _ => ?_) (fun hc => absurd rfl hc)
    refine lv_iload hx hb dL_law_631 (lv_at hl 1 rfl) ?_
    have fin : ∀ (ls : Array Slot), lv_has ls 7 [(6, .int rm.1), (5, .int (rm.2.1 0)), (0, .ref b), (1, .ref (ad 0)), (2, .ref (am 0)), (3, .ref o), (4, .int x4)] → W p l e room_1 s m #[Value.ref b] below meth c H locs (2 * j + c0 + 2) (12 * j + s0 + 12) (lw_Z below #[Value.ref b] s) (F0 m 648 ls []) := by
      intro ls hl
      refine lv_goto (tgt := 863) hx hb dL_law_648 (by decide) ?_
      refine W.widen (k := 2 * j + c0 + 2) (n := 12 * j + s0 + 12) (by omega) (by omega) ?_
      exact hend r.2 rm.2 (wf f r.1) g5 H locs T ls (lv_sub hl [2, 3, 4, 5, 6] rfl)
    refine lv_if_ne (tgt := 648) hx hb dL_law_633 (by decide) (fun _ => fin ls hl) (fun hc => ?_)
    rw [hc] at g3
    obtain ⟨v, hv⟩ := wk0 (by decide) g3
    refine lv_aload_n hx hb dL_law_636 rfl (lv_at hl 5 rfl) ?_
    refine lv_iconst (v := 0) hx hb dL_law_637 (by decide) ?_
    refine va_lald hx hb C.2.2.2.2.2.2.1.1 T.1 16 2 rfl rfl (show vp_in 0 1 from fun h => absurd h (by decide)) dL_law_638 ?_
    refine lv_iload hx hb dL_law_639 (lv_at hl 0 rfl) ?_
    refine lv_i2l hx hb dL_law_641 rfl ?_
    refine W.lcmp hx hb dL_law_642 ?_
    have e0 : lg_cmp (wf f r.1 (0 : Int32).toNatClampNeg) rm.1.toInt64 = 0 := by rw [hv, ← g4 v hv]; exact lg_same f v
    exact lv_if_eq (tgt := 648) hx hb dL_law_643 (by decide) (fun _ => fin ls hl) (fun hc => absurd e0 hc)
  · -- takeBack
    refine lv_tableIn (off := 611) (tgt := 651) hx hb dL_law_40 (by decide) (by decide) (by decide) (by decide) ?_
    obtain ⟨r, rm, g1, g2, g3, g4, g5⟩ := (hok S M hI).2.2.2.2.2.2.2.2.2.2.2.1
    refine lv_aload_n hx hb dL_law_651 rfl (lv_at hl 1 rfl) ?_
    refine lv_aload_n hx hb dL_law_652 rfl (lv_at hl 3 rfl) ?_
    refine law_W (As := [.ref (ad 0), .ref o]) (rest := []) C T (kL_takeBack l hfl t1 t2 D cy ad o (wM cy am [] M) S f r g1 (rm.2.1 0) g3) (vx_cwSW 2 hts gL_law_L_takeBack rfl rfl rfl (by decide +kernel) ⟨(Nat.le_of_ble_eq_true rfl), (Nat.le_of_ble_eq_true rfl)⟩) rfl hl.1 rfl (Nat.le_of_ble_eq_true rfl) dL_law_653 ⟨by dsimp only [room_1]; omega, by dsimp only [room_1]; omega⟩ (pc2 := 656) rfl (fun H locs T => ?_)
    refine lv_istore (lv' := [(5, .int (rm.2.1 0)), (0, .ref b), (1, .ref (ad 0)), (2, .ref (am 0)), (3, .ref o), (4, .int x4)]) hx hb dL_law_656 hl (by decide) rfl (fun ls hl => ?_)
    refine lv_aload_n hx hb dL_law_658 rfl (lv_at hl 3 rfl) ?_
    refine law_M (As := []) (rest := []) (v := (some (.int rm.1))) C T (kX4_takeBack l D cy am (wC cy ad [outE cy o (wf f r.1)] r.2) M rm g2) (cwV 0 hts gL_law_X4_takeBack rfl rfl rfl (by decide +kernel) ⟨(Nat.le_of_ble_eq_true rfl), (Nat.le_of_ble_eq_true rfl)⟩) rfl hl.1 rfl (Nat.le_of_ble_eq_true rfl) dL_law_659 ⟨by dsimp only [room_1]; omega, by dsimp only [room_1]; omega⟩ (st2 := [.int rm.1]) (pc2 := 662) rfl rfl (fun H locs T => ?_)
    refine lv_istore (lv' := [(6, .int rm.1), (5, .int (rm.2.1 0)), (0, .ref b), (1, .ref (ad 0)), (2, .ref (am 0)), (3, .ref o), (4, .int x4)]) hx hb dL_law_662 hl (by decide) rfl (fun ls hl => ?_)
    refine lv_aload_n hx hb dL_law_664 rfl (lv_at hl 4 rfl) ?_
    refine law_M (As := []) (rest := []) (v := (some (.int (rm.2.1 0)))) C T (kX4_thrown l D cy am (wC cy ad [outE cy o (wf f r.1)] r.2) rm.2 (rm.2.1 0) rfl) (cwV 0 hts gL_law_X4_thrown rfl rfl rfl (by decide +kernel) ⟨(Nat.le_of_ble_eq_true rfl), (Nat.le_of_ble_eq_true rfl)⟩) rfl hl.1 rfl (Nat.le_of_ble_eq_true rfl) dL_law_665 ⟨by dsimp only [room_1]; omega, by dsimp only [room_1]; omega⟩ (st2 := [.int (rm.2.1 0)]) (pc2 := 668) rfl rfl (fun H locs T => ?_)
    refine lv_iload hx hb dL_law_668 (lv_at hl 1 rfl) ?_
    refine lv_icmp_eq (tgt := 675) hx hb dL_law_670 (by decide) (fun _ => ?_) (fun hc => absurd rfl hc)
    refine lv_iload hx hb dL_law_675 (lv_at hl 1 rfl) ?_
    have fin : ∀ (ls : Array Slot), lv_has ls 7 [(6, .int rm.1), (5, .int (rm.2.1 0)), (0, .ref b), (1, .ref (ad 0)), (2, .ref (am 0)), (3, .ref o), (4, .int x4)] → W p l e room_1 s m #[Value.ref b] below meth c H locs (2 * j + c0 + 1) (12 * j + s0 + 6) (lw_Z below #[Value.ref b] s) (F0 m 692 ls []) := by
      intro ls hl
      refine lv_goto (tgt := 863) hx hb dL_law_692 (by decide) ?_
      refine W.widen (k := 2 * j + c0 + 2) (n := 12 * j + s0 + 12) (by omega) (by omega) ?_
      exact hend r.2 rm.2 (wf f r.1) g5 H locs T ls (lv_sub hl [2, 3, 4, 5, 6] rfl)
    refine lv_if_ne (tgt := 692) hx hb dL_law_677 (by decide) (fun _ => fin ls hl) (fun hc => ?_)
    rw [hc] at g3
    obtain ⟨v, hv⟩ := wk0 (by decide) g3
    refine lv_aload_n hx hb dL_law_680 rfl (lv_at hl 5 rfl) ?_
    refine lv_iconst (v := 0) hx hb dL_law_681 (by decide) ?_
    refine va_lald hx hb C.2.2.2.2.2.2.1.1 T.1 16 2 rfl rfl (show vp_in 0 1 from fun h => absurd h (by decide)) dL_law_682 ?_
    refine lv_iload hx hb dL_law_683 (lv_at hl 0 rfl) ?_
    refine lv_i2l hx hb dL_law_685 rfl ?_
    refine W.lcmp hx hb dL_law_686 ?_
    have e0 : lg_cmp (wf f r.1 (0 : Int32).toNatClampNeg) rm.1.toInt64 = 0 := by rw [hv, ← g4 v hv]; exact lg_same f v
    exact lv_if_eq (tgt := 692) hx hb dL_law_687 (by decide) (fun _ => fin ls hl) (fun hc => absurd e0 hc)
  · -- worth
    refine lv_tableIn (off := 655) (tgt := 695) hx hb dL_law_40 (by decide) (by decide) (by decide) (by decide) ?_
    obtain ⟨r, rm, g1, g2, g3, g4, g5⟩ := (hok S M hI).2.2.2.2.2.2.2.2.2.2.2.2.1 (xs (x4 + 1).toNatClampNeg)
    refine lv_aload_n hx hb dL_law_695 rfl (lv_at hl 1 rfl) ?_
    refine lv_aload_n hx hb dL_law_696 rfl (lv_at hl 0 rfl) ?_
    refine lv_iload hx hb dL_law_697 (lv_at hl 4 rfl) ?_
    refine lv_iconst (v := 1) hx hb dL_law_699 (by decide) ?_
    refine lv_iadd hx hb dL_law_700 ?_
    refine va_sld hx hb hXs hbl hbA T.2.2 hi1 dL_law_701 ?_
    refine lv_aload_n hx hb dL_law_702 rfl (lv_at hl 3 rfl) ?_
    refine law_W (As := [.ref (ad 0), .int (xs (x4 + 1).toNatClampNeg), .ref o]) (rest := []) C T (kL_worth l hfl t1 t2 D cy ad o (wM cy am [] M) S f (xs (x4 + 1).toNatClampNeg) r g1 (rm.2.1 0) g3) (vx_cwSW 3 hts gL_law_L_worth rfl rfl rfl (by decide +kernel) ⟨(Nat.le_of_ble_eq_true rfl), (Nat.le_of_ble_eq_true rfl)⟩) rfl hl.1 rfl (Nat.le_of_ble_eq_true rfl) dL_law_703 ⟨by dsimp only [room_1]; omega, by dsimp only [room_1]; omega⟩ (pc2 := 706) rfl (fun H locs T => ?_)
    refine lv_istore (lv' := [(5, .int (rm.2.1 0)), (0, .ref b), (1, .ref (ad 0)), (2, .ref (am 0)), (3, .ref o), (4, .int x4)]) hx hb dL_law_706 hl (by decide) rfl (fun ls hl => ?_)
    refine lv_aload_n hx hb dL_law_708 rfl (lv_at hl 3 rfl) ?_
    refine lv_aload_n hx hb dL_law_709 rfl (lv_at hl 1 rfl) ?_
    refine lv_iload hx hb dL_law_710 (lv_at hl 5 rfl) ?_
    refine lv_iconst (v := 1) hx hb dL_law_712 (by decide) ?_
    refine lv_iadd hx hb dL_law_713 ?_
    refine va_sld hx hb hXs hbl hbA T.2.2 hi1 dL_law_714 ?_
    refine law_M (As := [.int (xs (x4 + 1).toNatClampNeg)]) (rest := []) (v := (some (.int rm.1))) C T (kX4_worth l D cy am (wC cy ad [outE cy o (wf f r.1)] r.2) M (xs (x4 + 1).toNatClampNeg) rm g2) (cwV 1 hts gL_law_X4_worth rfl rfl rfl (by decide +kernel) ⟨(Nat.le_of_ble_eq_true rfl), (Nat.le_of_ble_eq_true rfl)⟩) rfl hl.1 rfl (Nat.le_of_ble_eq_true rfl) dL_law_715 ⟨by dsimp only [room_1]; omega, by dsimp only [room_1]; omega⟩ (st2 := [.int rm.1]) (pc2 := 718) rfl rfl (fun H locs T => ?_)
    refine lv_istore (lv' := [(6, .int rm.1), (5, .int (rm.2.1 0)), (0, .ref b), (1, .ref (ad 0)), (2, .ref (am 0)), (3, .ref o), (4, .int x4)]) hx hb dL_law_718 hl (by decide) rfl (fun ls hl => ?_)
    refine lv_aload_n hx hb dL_law_720 rfl (lv_at hl 4 rfl) ?_
    refine law_M (As := []) (rest := []) (v := (some (.int (rm.2.1 0)))) C T (kX4_thrown l D cy am (wC cy ad [outE cy o (wf f r.1)] r.2) rm.2 (rm.2.1 0) rfl) (cwV 0 hts gL_law_X4_thrown rfl rfl rfl (by decide +kernel) ⟨(Nat.le_of_ble_eq_true rfl), (Nat.le_of_ble_eq_true rfl)⟩) rfl hl.1 rfl (Nat.le_of_ble_eq_true rfl) dL_law_721 ⟨by dsimp only [room_1]; omega, by dsimp only [room_1]; omega⟩ (st2 := [.int (rm.2.1 0)]) (pc2 := 724) rfl rfl (fun H locs T => ?_)
    refine lv_iload hx hb dL_law_724 (lv_at hl 1 rfl) ?_
    refine lv_icmp_eq (tgt := 731) hx hb dL_law_726 (by decide) (fun _ => ?_) (fun hc => absurd rfl hc)
    refine lv_iload hx hb dL_law_731 (lv_at hl 1 rfl) ?_
    have fin : ∀ (ls : Array Slot), lv_has ls 7 [(6, .int rm.1), (5, .int (rm.2.1 0)), (0, .ref b), (1, .ref (ad 0)), (2, .ref (am 0)), (3, .ref o), (4, .int x4)] → W p l e room_1 s m #[Value.ref b] below meth c H locs (2 * j + c0 + 2) (12 * j + s0 + 12) (lw_Z below #[Value.ref b] s) (F0 m 748 ls []) := by
      intro ls hl
      refine lv_goto (tgt := 863) hx hb dL_law_748 (by decide) ?_
      refine W.widen (k := 2 * j + c0 + 2) (n := 12 * j + s0 + 12) (by omega) (by omega) ?_
      exact hend r.2 rm.2 (wf f r.1) g5 H locs T ls (lv_sub hl [2, 3, 4, 5, 6] rfl)
    refine lv_if_ne (tgt := 748) hx hb dL_law_733 (by decide) (fun _ => fin ls hl) (fun hc => ?_)
    rw [hc] at g3
    obtain ⟨v, hv⟩ := wk0 (by decide) g3
    refine lv_aload_n hx hb dL_law_736 rfl (lv_at hl 5 rfl) ?_
    refine lv_iconst (v := 0) hx hb dL_law_737 (by decide) ?_
    refine va_lald hx hb C.2.2.2.2.2.2.1.1 T.1 16 2 rfl rfl (show vp_in 0 1 from fun h => absurd h (by decide)) dL_law_738 ?_
    refine lv_iload hx hb dL_law_739 (lv_at hl 0 rfl) ?_
    refine lv_i2l hx hb dL_law_741 rfl ?_
    refine W.lcmp hx hb dL_law_742 ?_
    have e0 : lg_cmp (wf f r.1 (0 : Int32).toNatClampNeg) rm.1.toInt64 = 0 := by rw [hv, ← g4 v hv]; exact lg_same f v
    exact lv_if_eq (tgt := 748) hx hb dL_law_743 (by decide) (fun _ => fin ls hl) (fun hc => absurd e0 hc)
  · -- best
    refine lv_tableIn (off := 711) (tgt := 751) hx hb dL_law_40 (by decide) (by decide) (by decide) (by decide) ?_
    obtain ⟨r, rm, g1, g2, g3, g4, g5⟩ := (hok S M hI).2.2.2.2.2.2.2.2.2.2.2.2.2.1 (xs (x4 + 1).toNatClampNeg)
    refine lv_aload_n hx hb dL_law_751 rfl (lv_at hl 1 rfl) ?_
    refine lv_aload_n hx hb dL_law_752 rfl (lv_at hl 0 rfl) ?_
    refine lv_iload hx hb dL_law_753 (lv_at hl 4 rfl) ?_
    refine lv_iconst (v := 1) hx hb dL_law_755 (by decide) ?_
    refine lv_iadd hx hb dL_law_756 ?_
    refine va_sld hx hb hXs hbl hbA T.2.2 hi1 dL_law_757 ?_
    refine lv_aload_n hx hb dL_law_758 rfl (lv_at hl 3 rfl) ?_
    refine law_W (As := [.ref (ad 0), .int (xs (x4 + 1).toNatClampNeg), .ref o]) (rest := []) C T (kL_best l hfl t1 t2 D cy ad o (wM cy am [] M) S f (xs (x4 + 1).toNatClampNeg) r g1 (rm.2.1 0) g3) (vx_cwSW 3 hts gL_law_L_best rfl rfl rfl (by decide +kernel) ⟨(Nat.le_of_ble_eq_true rfl), (Nat.le_of_ble_eq_true rfl)⟩) rfl hl.1 rfl (Nat.le_of_ble_eq_true rfl) dL_law_759 ⟨by dsimp only [room_1]; omega, by dsimp only [room_1]; omega⟩ (pc2 := 762) rfl (fun H locs T => ?_)
    refine lv_istore (lv' := [(5, .int (rm.2.1 0)), (0, .ref b), (1, .ref (ad 0)), (2, .ref (am 0)), (3, .ref o), (4, .int x4)]) hx hb dL_law_762 hl (by decide) rfl (fun ls hl => ?_)
    refine lv_aload_n hx hb dL_law_764 rfl (lv_at hl 3 rfl) ?_
    refine lv_aload_n hx hb dL_law_765 rfl (lv_at hl 1 rfl) ?_
    refine lv_iload hx hb dL_law_766 (lv_at hl 5 rfl) ?_
    refine lv_iconst (v := 1) hx hb dL_law_768 (by decide) ?_
    refine lv_iadd hx hb dL_law_769 ?_
    refine va_sld hx hb hXs hbl hbA T.2.2 hi1 dL_law_770 ?_
    refine law_M (As := [.int (xs (x4 + 1).toNatClampNeg)]) (rest := []) (v := (some (.int rm.1))) C T (kX4_best l D cy am (wC cy ad [outE cy o (wf f r.1)] r.2) M (xs (x4 + 1).toNatClampNeg) rm g2) (cwV 1 hts gL_law_X4_best rfl rfl rfl (by decide +kernel) ⟨(Nat.le_of_ble_eq_true rfl), (Nat.le_of_ble_eq_true rfl)⟩) rfl hl.1 rfl (Nat.le_of_ble_eq_true rfl) dL_law_771 ⟨by dsimp only [room_1]; omega, by dsimp only [room_1]; omega⟩ (st2 := [.int rm.1]) (pc2 := 774) rfl rfl (fun H locs T => ?_)
    refine lv_istore (lv' := [(6, .int rm.1), (5, .int (rm.2.1 0)), (0, .ref b), (1, .ref (ad 0)), (2, .ref (am 0)), (3, .ref o), (4, .int x4)]) hx hb dL_law_774 hl (by decide) rfl (fun ls hl => ?_)
    refine lv_aload_n hx hb dL_law_776 rfl (lv_at hl 4 rfl) ?_
    refine law_M (As := []) (rest := []) (v := (some (.int (rm.2.1 0)))) C T (kX4_thrown l D cy am (wC cy ad [outE cy o (wf f r.1)] r.2) rm.2 (rm.2.1 0) rfl) (cwV 0 hts gL_law_X4_thrown rfl rfl rfl (by decide +kernel) ⟨(Nat.le_of_ble_eq_true rfl), (Nat.le_of_ble_eq_true rfl)⟩) rfl hl.1 rfl (Nat.le_of_ble_eq_true rfl) dL_law_777 ⟨by dsimp only [room_1]; omega, by dsimp only [room_1]; omega⟩ (st2 := [.int (rm.2.1 0)]) (pc2 := 780) rfl rfl (fun H locs T => ?_)
    refine lv_iload hx hb dL_law_780 (lv_at hl 1 rfl) ?_
    refine lv_icmp_eq (tgt := 787) hx hb dL_law_782 (by decide) (fun _ => ?_) (fun hc => absurd rfl hc)
    refine lv_iload hx hb dL_law_787 (lv_at hl 1 rfl) ?_
    have fin : ∀ (ls : Array Slot), lv_has ls 7 [(6, .int rm.1), (5, .int (rm.2.1 0)), (0, .ref b), (1, .ref (ad 0)), (2, .ref (am 0)), (3, .ref o), (4, .int x4)] → W p l e room_1 s m #[Value.ref b] below meth c H locs (2 * j + c0 + 2) (12 * j + s0 + 12) (lw_Z below #[Value.ref b] s) (F0 m 804 ls []) := by
      intro ls hl
      refine lv_goto (tgt := 863) hx hb dL_law_804 (by decide) ?_
      refine W.widen (k := 2 * j + c0 + 2) (n := 12 * j + s0 + 12) (by omega) (by omega) ?_
      exact hend r.2 rm.2 (wf f r.1) g5 H locs T ls (lv_sub hl [2, 3, 4, 5, 6] rfl)
    refine lv_if_ne (tgt := 804) hx hb dL_law_789 (by decide) (fun _ => fin ls hl) (fun hc => ?_)
    rw [hc] at g3
    obtain ⟨v, hv⟩ := wk0 (by decide) g3
    refine lv_aload_n hx hb dL_law_792 rfl (lv_at hl 5 rfl) ?_
    refine lv_iconst (v := 0) hx hb dL_law_793 (by decide) ?_
    refine va_lald hx hb C.2.2.2.2.2.2.1.1 T.1 16 2 rfl rfl (show vp_in 0 1 from fun h => absurd h (by decide)) dL_law_794 ?_
    refine lv_iload hx hb dL_law_795 (lv_at hl 0 rfl) ?_
    refine lv_i2l hx hb dL_law_797 rfl ?_
    refine W.lcmp hx hb dL_law_798 ?_
    have e0 : lg_cmp (wf f r.1 (0 : Int32).toNatClampNeg) rm.1.toInt64 = 0 := by rw [hv, ← g4 v hv]; exact lg_same f v
    exact lv_if_eq (tgt := 804) hx hb dL_law_799 (by decide) (fun _ => fin ls hl) (fun hc => absurd e0 hc)
  · -- reached
    refine lv_tableIn (off := 767) (tgt := 807) hx hb dL_law_40 (by decide) (by decide) (by decide) (by decide) ?_
    obtain ⟨r, rm, g1, g2, g3, g4, g5⟩ := (hok S M hI).2.2.2.2.2.2.2.2.2.2.2.2.2.2 (xs (x4 + 1).toNatClampNeg)
    refine lv_aload_n hx hb dL_law_807 rfl (lv_at hl 1 rfl) ?_
    refine lv_aload_n hx hb dL_law_808 rfl (lv_at hl 0 rfl) ?_
    refine lv_iload hx hb dL_law_809 (lv_at hl 4 rfl) ?_
    refine lv_iconst (v := 1) hx hb dL_law_811 (by decide) ?_
    refine lv_iadd hx hb dL_law_812 ?_
    refine va_sld hx hb hXs hbl hbA T.2.2 hi1 dL_law_813 ?_
    refine lv_aload_n hx hb dL_law_814 rfl (lv_at hl 3 rfl) ?_
    refine law_W (As := [.ref (ad 0), .int (xs (x4 + 1).toNatClampNeg), .ref o]) (rest := []) C T (kL_reached l hfl t1 t2 D cy ad o (wM cy am [] M) S f (xs (x4 + 1).toNatClampNeg) r g1 (rm.2.1 0) g3) (vx_cwSW 3 hts gL_law_L_reached rfl rfl rfl (by decide +kernel) ⟨(Nat.le_of_ble_eq_true rfl), (Nat.le_of_ble_eq_true rfl)⟩) rfl hl.1 rfl (Nat.le_of_ble_eq_true rfl) dL_law_815 ⟨by dsimp only [room_1]; omega, by dsimp only [room_1]; omega⟩ (pc2 := 818) rfl (fun H locs T => ?_)
    refine lv_istore (lv' := [(5, .int (rm.2.1 0)), (0, .ref b), (1, .ref (ad 0)), (2, .ref (am 0)), (3, .ref o), (4, .int x4)]) hx hb dL_law_818 hl (by decide) rfl (fun ls hl => ?_)
    refine lv_aload_n hx hb dL_law_820 rfl (lv_at hl 3 rfl) ?_
    refine lv_aload_n hx hb dL_law_821 rfl (lv_at hl 1 rfl) ?_
    refine lv_iload hx hb dL_law_822 (lv_at hl 5 rfl) ?_
    refine lv_iconst (v := 1) hx hb dL_law_824 (by decide) ?_
    refine lv_iadd hx hb dL_law_825 ?_
    refine va_sld hx hb hXs hbl hbA T.2.2 hi1 dL_law_826 ?_
    refine law_M (As := [.int (xs (x4 + 1).toNatClampNeg)]) (rest := []) (v := (some (.int rm.1))) C T (kX4_reached l D cy am (wC cy ad [outE cy o (wf f r)] S) M (xs (x4 + 1).toNatClampNeg) rm g2) (cwV 1 hts gL_law_X4_reached rfl rfl rfl (by decide +kernel) ⟨(Nat.le_of_ble_eq_true rfl), (Nat.le_of_ble_eq_true rfl)⟩) rfl hl.1 rfl (Nat.le_of_ble_eq_true rfl) dL_law_827 ⟨by dsimp only [room_1]; omega, by dsimp only [room_1]; omega⟩ (st2 := [.int rm.1]) (pc2 := 830) rfl rfl (fun H locs T => ?_)
    refine lv_istore (lv' := [(6, .int rm.1), (5, .int (rm.2.1 0)), (0, .ref b), (1, .ref (ad 0)), (2, .ref (am 0)), (3, .ref o), (4, .int x4)]) hx hb dL_law_830 hl (by decide) rfl (fun ls hl => ?_)
    refine lv_aload_n hx hb dL_law_832 rfl (lv_at hl 4 rfl) ?_
    refine law_M (As := []) (rest := []) (v := (some (.int (rm.2.1 0)))) C T (kX4_thrown l D cy am (wC cy ad [outE cy o (wf f r)] S) rm.2 (rm.2.1 0) rfl) (cwV 0 hts gL_law_X4_thrown rfl rfl rfl (by decide +kernel) ⟨(Nat.le_of_ble_eq_true rfl), (Nat.le_of_ble_eq_true rfl)⟩) rfl hl.1 rfl (Nat.le_of_ble_eq_true rfl) dL_law_833 ⟨by dsimp only [room_1]; omega, by dsimp only [room_1]; omega⟩ (st2 := [.int (rm.2.1 0)]) (pc2 := 836) rfl rfl (fun H locs T => ?_)
    refine lv_iload hx hb dL_law_836 (lv_at hl 1 rfl) ?_
    refine lv_icmp_eq (tgt := 843) hx hb dL_law_838 (by decide) (fun _ => ?_) (fun hc => absurd rfl hc)
    refine lv_iload hx hb dL_law_843 (lv_at hl 1 rfl) ?_
    have fin : ∀ (ls : Array Slot), lv_has ls 7 [(6, .int rm.1), (5, .int (rm.2.1 0)), (0, .ref b), (1, .ref (ad 0)), (2, .ref (am 0)), (3, .ref o), (4, .int x4)] → W p l e room_1 s m #[Value.ref b] below meth c H locs (2 * j + c0 + 1) (12 * j + s0 + 6) (lw_Z below #[Value.ref b] s) (F0 m 860 ls []) := by
      intro ls hl
      refine lv_goto (tgt := 863) hx hb dL_law_860 (by decide) ?_
      refine W.widen (k := 2 * j + c0 + 2) (n := 12 * j + s0 + 12) (by omega) (by omega) ?_
      exact hend S rm.2 (wf f r) g5 H locs T ls (lv_sub hl [2, 3, 4, 5, 6] rfl)
    refine lv_if_ne (tgt := 860) hx hb dL_law_845 (by decide) (fun _ => fin ls hl) (fun hc => ?_)
    rw [hc] at g3
    obtain ⟨v, hv⟩ := wk0 (by decide) g3
    refine lv_aload_n hx hb dL_law_848 rfl (lv_at hl 5 rfl) ?_
    refine lv_iconst (v := 0) hx hb dL_law_849 (by decide) ?_
    refine va_lald hx hb C.2.2.2.2.2.2.1.1 T.1 16 2 rfl rfl (show vp_in 0 1 from fun h => absurd h (by decide)) dL_law_850 ?_
    refine lv_iload hx hb dL_law_851 (lv_at hl 0 rfl) ?_
    refine lv_i2l hx hb dL_law_853 rfl ?_
    refine W.lcmp hx hb dL_law_854 ?_
    have e0 : lg_cmp (wf f r (0 : Int32).toNatClampNeg) rm.1.toInt64 = 0 := by rw [hv, ← g4 v hv]; exact lg_same f v
    exact lv_if_eq (tgt := 860) hx hb dL_law_855 (by decide) (fun _ => fin ls hl) (fun hc => absurd e0 hc)
  · refine lv_tableOut (tgt := 863) hx hb dL_law_40 (by decide) (by decide) ?_
    refine W.widen (k := 2 * j + c0 + 2) (n := 12 * j + s0 + 12) (by omega) (by omega) ?_
    exact hend S M f hI H locs T ls hl
