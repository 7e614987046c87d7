theorem tx_of {args : Array Value} {s : State} {k : Nat} {tx : String} (h1 : (Cond.stringRef RX3 k tx).before args s = true) (h2 : (Cond.exactly (.string RX3 k) "java/lang/String").before args s = true) : ∃ a, vk_R RX3 k tx a s := by
  obtain ⟨a, c, cA, kA, q1, -⟩ := Cond.exactly_spec (args := args) (first := s) (o := none) (s := s) (idx := []) (t := .string RX3 k) (cls := "java/lang/String") h2
  exact ⟨a, vk_R.of h1 q1⟩
theorem arr_of {args : Array Value} {s : State} {ty : FieldType} (h : (Cond.arrayClass ty).before args s = true) : ∃ cA : ClassId, ArrOfT s cA ty ∧ s.vm.findClass ("[" ++ ty.toString) = some cA := by
  obtain ⟨cA, kA, comp, hfind, hk, hkind⟩ := Cond.arrayClass_spec h
  exact ⟨cA, fun n z => ⟨fun k h => (by cases h), kA, hk, comp, hkind⟩, hfind⟩
set_option maxHeartbeats 8000000 in
set_option maxRecDepth 100000 in
theorem law_KN {args : Array Value} {s : State} (hts0 : ∀ w ∈ lw_tbl, w.before args s = true) : KN s := by
  intro w hw
  refine va_Nw.of ?_ (A := args) ?_
  · revert w hw; show ∀ w ∈ nestW, w.onTables = true; decide +kernel
  · revert w hw; show ∀ w ∈ nestW, w.before args s = true
    exact List.forall_mem_cons.mpr ⟨(hts0 _ (List.mem_of_getElem? (i := 105) (by decide +kernel))), List.forall_mem_cons.mpr ⟨(hts0 _ (List.mem_of_getElem? (i := 57) (by decide +kernel))), List.forall_mem_cons.mpr ⟨(hts0 _ (List.mem_of_getElem? (i := 66) (by decide +kernel))), List.forall_mem_cons.mpr ⟨(hts0 _ (List.mem_of_getElem? (i := 63) (by decide +kernel))), List.forall_mem_cons.mpr ⟨(hts0 _ (List.mem_of_getElem? (i := 104) (by decide +kernel))), List.forall_mem_cons.mpr ⟨(hts0 _ (List.mem_of_getElem? (i := 65) (by decide +kernel))), List.forall_mem_cons.mpr ⟨(hts0 _ (List.mem_of_getElem? (i := 47) (by decide +kernel))), List.forall_mem_cons.mpr ⟨(hts0 _ (List.mem_of_getElem? (i := 523) (by decide +kernel))), List.forall_mem_cons.mpr ⟨(hts0 _ (List.mem_of_getElem? (i := 548) (by decide +kernel))), List.forall_mem_cons.mpr ⟨(hts0 _ (List.mem_of_getElem? (i := 98) (by decide +kernel))), List.forall_mem_cons.mpr ⟨(hts0 _ (List.mem_of_getElem? (i := 113) (by decide +kernel))), List.forall_mem_cons.mpr ⟨(hts0 _ (List.mem_of_getElem? (i := 118) (by decide +kernel))), List.forall_mem_cons.mpr ⟨(hts0 _ (List.mem_of_getElem? (i := 163) (by decide +kernel))), List.forall_mem_cons.mpr ⟨(hts0 _ (List.mem_of_getElem? (i := 264) (by decide +kernel))), List.forall_mem_cons.mpr ⟨(hts0 _ (List.mem_of_getElem? (i := 386) (by decide +kernel))), List.forall_mem_cons.mpr ⟨(hts0 _ (List.mem_of_getElem? (i := 165) (by decide +kernel))), List.forall_mem_cons.mpr ⟨(hts0 _ (List.mem_of_getElem? (i := 167) (by decide +kernel))), List.forall_mem_cons.mpr ⟨(hts0 _ (List.mem_of_getElem? (i := 169) (by decide +kernel))), fun _ h => absurd h List.not_mem_nil⟩⟩⟩⟩⟩⟩⟩⟩⟩⟩⟩⟩⟩⟩⟩⟩⟩⟩
set_option maxHeartbeats 8000000 in
set_option maxRecDepth 100000 in
theorem law_KNc {args : Array Value} {s : State} (hs : ∀ w ∈ flatC (Jvm.Cond.and given_1 narrow_1), w.before args s = true) : KNc s := List.forall_mem_cons.mpr ⟨va_Nc.of (hs (.not (.castable "java/lang/IllegalArgumentException" "java/lang/IllegalStateException")) (by decide +kernel)), List.forall_mem_cons.mpr ⟨va_Nc.of (hs (.not (.castable "java/lang/IllegalArgumentException" "java/lang/IndexOutOfBoundsException")) (by decide +kernel)), List.forall_mem_cons.mpr ⟨va_Nc.of (hs (.not (.castable "java/lang/IllegalStateException" "java/lang/IllegalArgumentException")) (by decide +kernel)), List.forall_mem_cons.mpr ⟨va_Nc.of (hs (.not (.castable "java/lang/IllegalStateException" "java/lang/IndexOutOfBoundsException")) (by decide +kernel)), List.forall_mem_cons.mpr ⟨va_Nc.of (hs (.not (.castable "java/lang/IndexOutOfBoundsException" "java/lang/IllegalArgumentException")) (by decide +kernel)), List.forall_mem_cons.mpr ⟨va_Nc.of (hs (.not (.castable "java/lang/IndexOutOfBoundsException" "java/lang/IllegalStateException")) (by decide +kernel)), fun _ h => absurd h List.not_mem_nil⟩⟩⟩⟩⟩⟩
set_option maxHeartbeats 8000000 in
set_option maxRecDepth 100000 in
theorem law_TX {args : Array Value} {s : State} (hts0 : ∀ w ∈ lw_tbl, w.before args s = true) (hs : ∀ w ∈ flatC (Jvm.Cond.and given_1 narrow_1), w.before args s = true) : ∀ q ∈ texts, ∃ a, vk_R RX3 q.1 q.2 a s :=
  List.forall_mem_cons.mpr ⟨tx_of (hts0 _ (List.mem_of_getElem? (i := 202) (by decide +kernel))) (hs (.exactly (.string RX3 40) "java/lang/String") (by decide +kernel)), List.forall_mem_cons.mpr ⟨tx_of (hts0 _ (List.mem_of_getElem? (i := 229) (by decide +kernel))) (hs (.exactly (.string RX3 45) "java/lang/String") (by decide +kernel)), List.forall_mem_cons.mpr ⟨tx_of (hts0 _ (List.mem_of_getElem? (i := 230) (by decide +kernel))) (hs (.exactly (.string RX3 47) "java/lang/String") (by decide +kernel)), List.forall_mem_cons.mpr ⟨tx_of (hts0 _ (List.mem_of_getElem? (i := 413) (by decide +kernel))) (hs (.exactly (.string RX3 67) "java/lang/String") (by decide +kernel)), List.forall_mem_cons.mpr ⟨tx_of (hts0 _ (List.mem_of_getElem? (i := 400) (by decide +kernel))) (hs (.exactly (.string RX3 77) "java/lang/String") (by decide +kernel)), List.forall_mem_cons.mpr ⟨tx_of (hts0 _ (List.mem_of_getElem? (i := 402) (by decide +kernel))) (hs (.exactly (.string RX3 83) "java/lang/String") (by decide +kernel)), List.forall_mem_cons.mpr ⟨tx_of (hts0 _ (List.mem_of_getElem? (i := 438) (by decide +kernel))) (hs (.exactly (.string RX3 110) "java/lang/String") (by decide +kernel)), List.forall_mem_cons.mpr ⟨tx_of (hts0 _ (List.mem_of_getElem? (i := 455) (by decide +kernel))) (hs (.exactly (.string RX3 119) "java/lang/String") (by decide +kernel)), List.forall_mem_cons.mpr ⟨tx_of (hts0 _ (List.mem_of_getElem? (i := 345) (by decide +kernel))) (hs (.exactly (.string RX3 124) "java/lang/String") (by decide +kernel)), List.forall_mem_cons.mpr ⟨tx_of (hts0 _ (List.mem_of_getElem? (i := 487) (by decide +kernel))) (hs (.exactly (.string RX3 140) "java/lang/String") (by decide +kernel)), List.forall_mem_cons.mpr ⟨tx_of (hts0 _ (List.mem_of_getElem? (i := 393) (by decide +kernel))) (hs (.exactly (.string RX3 145) "java/lang/String") (by decide +kernel)), List.forall_mem_cons.mpr ⟨tx_of (hts0 _ (List.mem_of_getElem? (i := 271) (by decide +kernel))) (hs (.exactly (.string RX3 147) "java/lang/String") (by decide +kernel)), List.forall_mem_cons.mpr ⟨tx_of (hts0 _ (List.mem_of_getElem? (i := 520) (by decide +kernel))) (hs (.exactly (.string RX3 149) "java/lang/String") (by decide +kernel)), List.forall_mem_cons.mpr ⟨tx_of (hts0 _ (List.mem_of_getElem? (i := 521) (by decide +kernel))) (hs (.exactly (.string RX3 151) "java/lang/String") (by decide +kernel)), List.forall_mem_cons.mpr ⟨tx_of (hts0 _ (List.mem_of_getElem? (i := 522) (by decide +kernel))) (hs (.exactly (.string RX3 153) "java/lang/String") (by decide +kernel)), fun _ h => absurd h List.not_mem_nil⟩⟩⟩⟩⟩⟩⟩⟩⟩⟩⟩⟩⟩⟩⟩
set_option maxHeartbeats 8000000 in
set_option maxRecDepth 100000 in
theorem law_SX {args : Array Value} {s : State} (hts0 : ∀ w ∈ lw_tbl, w.before args s = true) (hs : ∀ w ∈ flatC (Jvm.Cond.and given_1 narrow_1), w.before args s = true) : ∃ t1 t2 : Nat, SX t1 t2 (fun q => s.heap.size ≤ q) s s.heap := by
  have hA : ∀ a : Nat, a < s.heap.size → ¬ (fun q => s.heap.size ≤ q) a := fun a h => Nat.not_le.mpr h
  have hl1 : (Term.length (Term.static RX0 "DOWN" "[I")).eval args s none [] s = some (.int (Int32.ofNat 8)) := va_eqt (hs (.eq (.length (Term.static RX0 "DOWN" "[I")) (.int 8)) (by decide +kernel))
  have he1 : ∀ j : Nat, j < 8 → (Term.elem (Term.static RX0 "DOWN" "[I") (.int (Int32.ofNat j))).eval args s none [] s = some (.int (dnD j)) := by
    intro j hj
    rcases (show j = 0 ∨ j = 1 ∨ j = 2 ∨ j = 3 ∨ j = 4 ∨ j = 5 ∨ j = 6 ∨ j = 7 by omega) with rfl | rfl | rfl | rfl | rfl | rfl | rfl | rfl
    · exact va_eqt (hs (.eq (.elem (Term.static RX0 "DOWN" "[I") (.int 0)) (.int (-1))) (by decide +kernel))
    · exact va_eqt (hs (.eq (.elem (Term.static RX0 "DOWN" "[I") (.int 1)) (.int (-1))) (by decide +kernel))
    · exact va_eqt (hs (.eq (.elem (Term.static RX0 "DOWN" "[I") (.int 2)) (.int (-1))) (by decide +kernel))
    · exact va_eqt (hs (.eq (.elem (Term.static RX0 "DOWN" "[I") (.int 3)) (.int 0)) (by decide +kernel))
    · exact va_eqt (hs (.eq (.elem (Term.static RX0 "DOWN" "[I") (.int 4)) (.int 0)) (by decide +kernel))
    · exact va_eqt (hs (.eq (.elem (Term.static RX0 "DOWN" "[I") (.int 5)) (.int 1)) (by decide +kernel))
    · exact va_eqt (hs (.eq (.elem (Term.static RX0 "DOWN" "[I") (.int 6)) (.int 1)) (by decide +kernel))
    · exact va_eqt (hs (.eq (.elem (Term.static RX0 "DOWN" "[I") (.int 7)) (.int 1)) (by decide +kernel))
  obtain ⟨t1, ht1, hT1⟩ := va_Tof (f := fun j => .int (dnD j)) (A := fun q => s.heap.size ≤ q) (by decide) (hs (.arrayOf (Term.static RX0 "DOWN" "[I") .int) (by decide +kernel)) hl1 he1 hA
  have hl2 : (Term.length (Term.static RX0 "ACROSS" "[I")).eval args s none [] s = some (.int (Int32.ofNat 8)) := va_eqt (hs (.eq (.length (Term.static RX0 "ACROSS" "[I")) (.int 8)) (by decide +kernel))
  have he2 : ∀ j : Nat, j < 8 → (Term.elem (Term.static RX0 "ACROSS" "[I") (.int (Int32.ofNat j))).eval args s none [] s = some (.int (dnA j)) := by
    intro j hj
    rcases (show j = 0 ∨ j = 1 ∨ j = 2 ∨ j = 3 ∨ j = 4 ∨ j = 5 ∨ j = 6 ∨ j = 7 by omega) with rfl | rfl | rfl | rfl | rfl | rfl | rfl | rfl
    · exact va_eqt (hs (.eq (.elem (Term.static RX0 "ACROSS" "[I") (.int 0)) (.int (-1))) (by decide +kernel))
    · exact va_eqt (hs (.eq (.elem (Term.static RX0 "ACROSS" "[I") (.int 1)) (.int 0)) (by decide +kernel))
    · exact va_eqt (hs (.eq (.elem (Term.static RX0 "ACROSS" "[I") (.int 2)) (.int 1)) (by decide +kernel))
    · exact va_eqt (hs (.eq (.elem (Term.static RX0 "ACROSS" "[I") (.int 3)) (.int (-1))) (by decide +kernel))
    · exact va_eqt (hs (.eq (.elem (Term.static RX0 "ACROSS" "[I") (.int 4)) (.int 1)) (by decide +kernel))
    · exact va_eqt (hs (.eq (.elem (Term.static RX0 "ACROSS" "[I") (.int 5)) (.int (-1))) (by decide +kernel))
    · exact va_eqt (hs (.eq (.elem (Term.static RX0 "ACROSS" "[I") (.int 6)) (.int 0)) (by decide +kernel))
    · exact va_eqt (hs (.eq (.elem (Term.static RX0 "ACROSS" "[I") (.int 7)) (.int 1)) (by decide +kernel))
  obtain ⟨t2, ht2, hT2⟩ := va_Tof (f := fun j => .int (dnA j)) (A := fun q => s.heap.size ≤ q) (by decide) (hs (.arrayOf (Term.static RX0 "ACROSS" "[I") .int) (by decide +kernel)) hl2 he2 hA
  exact ⟨t1, t2, va_Zref (hts0 _ (List.mem_of_getElem? (i := 141) (by decide +kernel))) (hts0 _ (List.mem_of_getElem? (i := 26) (by decide +kernel))) ht1 hA, va_Zref (hts0 _ (List.mem_of_getElem? (i := 143) (by decide +kernel))) (hts0 _ (List.mem_of_getElem? (i := 26) (by decide +kernel))) ht2 hA, hT1, hT2,
    vx_Zqof (hts0 _ (List.mem_of_getElem? (i := 188) (by decide +kernel))) (hts0 _ (List.mem_of_getElem? (i := 30) (by decide +kernel))) (hs (.isRef (.static Bundle.tN "UNASSIGNED_STACK" Bundle.steD)) (by decide +kernel)) hA, vx_Zqof (hts0 _ (List.mem_of_getElem? (i := 190) (by decide +kernel))) (hts0 _ (List.mem_of_getElem? (i := 30) (by decide +kernel))) (hs (.isRef (.static Bundle.tN "SUPPRESSED_SENTINEL" Bundle.listD)) (by decide +kernel)) hA, law_TX hts0 hs⟩
set_option maxHeartbeats 8000000 in
set_option maxRecDepth 100000 in
theorem law_KX {args : Array Value} {s : State} (hts0 : ∀ w ∈ lw_tbl, w.before args s = true) : ∃ (D : va_G) (cy : Nat → ClassId), KX D cy s := by
  obtain ⟨c0, iS0, hKn0⟩ := u_known (C := RX0) (T := TX0) (N := 13) (n := 13) hts0 inX0 (hts0 _ (List.mem_of_getElem? (i := 46) (by decide +kernel)))
  obtain ⟨c1, iS1, hKn1⟩ := u_known (C := RX1) (T := TX1) (N := 3) (n := 3) hts0 inX1 (hts0 _ (List.mem_of_getElem? (i := 112) (by decide +kernel)))
  obtain ⟨c2, iS2, hKn2⟩ := u_known (C := RX2) (T := TX2) (N := 2) (n := 2) hts0 inX2 (hts0 _ (List.mem_of_getElem? (i := 97) (by decide +kernel)))
  obtain ⟨c3, iS3, hKn3⟩ := u_known (C := RX3) (T := TX3) (N := 3) (n := 3) hts0 inX3 (hts0 _ (List.mem_of_getElem? (i := 38) (by decide +kernel)))
  obtain ⟨a0, hA0, hN0⟩ := arr_of (ty := .int) (hts0 _ (List.mem_of_getElem? (i := 95) (by decide +kernel)))
  refine ⟨(fun k => match k with | 0 => c0 | 1 => c1 | 2 => c2 | _ => c3, fun k => match k with | 0 => iS0 | 1 => iS1 | 2 => iS2 | _ => iS3), fun _ => a0, ⟨?_, ?_⟩, law_KN hts0⟩
  · intro k q hq
    match k, hq with
    | 0, hq => cases hq; exact hKn0
    | 1, hq => cases hq; exact hKn1
    | 2, hq => cases hq; exact hKn2
    | 3, hq => cases hq; exact hKn3
    | k + 4, hq => simp [vwCl] at hq
  · intro k q hq
    match k, hq with
    | 0, hq => cases hq; exact ⟨hA0, hN0⟩
    | k + 1, hq => simp [tysW] at hq
set_option maxHeartbeats 8000000 in
set_option maxRecDepth 100000 in
/-- the law from its entry, out of the pure facts -/
theorem whole_of {I : SC → SC → Int32 → Prop} {S0 : SC} (hS0 : fX0_start S0C 5 5 2 0 0 = some S0) (hst : LawStart I S0) (hok : LawOK I) {p : Program} {e : Env} {s : State} {m : MethodId} {below : List Frame} {meth : Method} {c : Code} (l : Launch) (hflags : l.flags = flags0) {b L : Nat} {xs : Nat → Int32} (hL : L ≤ 260) (C0 : lw_At p s m meth c b L xs) : W p l e room_1 s m #[Value.ref b] below meth c s.heap [] 0 0 (lw_Z below #[Value.ref b] s) (entryFrame m ([Value.ref b] : List Value).toArray 10) := by
  obtain ⟨hx, hb, hr, hml, hown, hts0, hXs, hbl, hlocks, hgv⟩ := id C0
  have hs := flat_of_before _ hgv
  have hfl : l.stackTraces = false := by
    unfold Launch.stackTraces
    rw [hflags]
    decide +kernel
  have hts : ∀ w ∈ wsL_law, w.before #[Value.ref b] s = true := fun w h => hts0 w (wsL_law_in w h)
  obtain ⟨D, cy, hK⟩ := law_KX hts0
  obtain ⟨t1, t2, hSX⟩ := law_SX hts0 hs
  have C : LX p s m #[Value.ref b] meth c t1 t2 D cy := ⟨hx, hb, hml, hown, hts, hlocks, hK, hSX, law_KNc hs⟩
  obtain ⟨l1, l2, l3, l4, l5, S1, P1, u1, u2, u3, u4, u5, eb, ep, hI⟩ := hst (xc L xs 0)
  have hA : ∀ q : Nat, s.heap.size ≤ q → (fun q : Nat => s.heap.size ≤ q) q := fun _ h => h
  have hS : va_S (fun q : Nat => s.heap.size ≤ q) s.heap s.heap [] := va_S.rf
  have hP : va_P D vwCl [] s.heap := fun k q h => by simp at h
  have hD : va_D (fun q : Nat => s.heap.size ≤ q) [] := ⟨fun i j p q h => by simp at h, fun k q h => by simp at h⟩
  have hl := lv_entry ([.ref b]) (n := 10) (Nat.le_of_ble_eq_true rfl)
  rw [lg_entry_eq]
  generalize (lg_sl ([.ref b]) ++ List.replicate (10 - (lg_sl ([.ref b])).length) Slot.unset).toArray = ls at hl ⊢
  have hl : lv_has ls 10 [(0, .ref b)] := hl
  refine nw_O (C := RX3) (T := TX3) (N0 := 3) (ci := 3) hx hb hts0 inX3 tyX3 tyX3_ok hown (hts0 _ (List.mem_of_getElem? (i := 37) (by decide +kernel))) (hts0 _ (List.mem_of_getElem? (i := 38) (by decide +kernel))) (hts0 _ (List.mem_of_getElem? (i := 25) (by decide +kernel))) hK hP hD hS hA rfl [.null, .null, .null] (fun j hj => by rcases (show j = 0 ∨ j = 1 ∨ j = 2 by omega) with rfl | rfl | rfl <;> rfl) (Nat.le_of_ble_eq_true rfl) (Nat.le_of_ble_eq_true rfl) dL_law_0 (fun hc H hP hD hS => ?_)
  refine lv_dup hx hb dL_law_3 rfl ?_
  refine ci_go (N := fun q => wC cy (adM hc q) [] S0) (va_runI (As := []) (rest := [.ref hc]) ⟨hx, hb, hml, hown, hts⟩ (kX3_init l t1 t2 D cy hc [] S0 hS0 H.size) (cwI 0 hts gL_law_X3_init rfl rfl rfl (hts0 _ (List.mem_of_getElem? (i := 25) (by decide +kernel))) (hts0 _ (List.mem_of_getElem? (i := 39) (by decide +kernel))) (hts0 _ (List.mem_of_getElem? (i := 40) (by decide +kernel))) rfl (by decide +kernel) ⟨(Nat.le_of_ble_eq_true rfl), (Nat.le_of_ble_eq_true rfl)⟩) ⟨PIs_blind, fun U hU hW => ⟨rfl, by rw [hU], by rw [hU]; exact hP, hD.weaken (fun _ _ _ _ => trivial), KX.warm hW hK, by rw [hU]; exact hSX.pass hS hW (vaA_in hD hS hA)⟩⟩ rfl rfl hl.1 rfl (lv_room (Nat.le_of_ble_eq_true rfl)) dL_law_4 ⟨(Nat.le_of_ble_eq_true rfl), (Nat.le_of_ble_eq_true rfl)⟩) hD hS hA (fun qc H locs hP hD hS => ?_)
  refine lv_astore_n (lv' := [(1, .ref hc), (0, .ref b)]) hx hb dL_law_7 rfl hl (by decide) rfl (fun ls hl => ?_)
  refine nw_O (C := RX3) (T := TX3) (N0 := 3) (ci := 3) hx hb hts0 inX3 tyX3 tyX3_ok hown (hts0 _ (List.mem_of_getElem? (i := 37) (by decide +kernel))) (hts0 _ (List.mem_of_getElem? (i := 38) (by decide +kernel))) (hts0 _ (List.mem_of_getElem? (i := 25) (by decide +kernel))) hK hP hD hS hA rfl [.null, .null, .null] (fun j hj => by rcases (show j = 0 ∨ j = 1 ∨ j = 2 by omega) with rfl | rfl | rfl <;> rfl) (Nat.le_of_ble_eq_true rfl) (Nat.le_of_ble_eq_true rfl) dL_law_8 (fun hm H hP hD hS => ?_)
  refine lv_dup hx hb dL_law_11 rfl ?_
  refine ci_go (N := fun q => wC cy (adM hm q) (wC cy (adM hc qc) [] S0) S0) (va_runI (As := []) (rest := [.ref hm]) ⟨hx, hb, hml, hown, hts⟩ (kX3_init l t1 t2 D cy hm (wC cy (adM hc qc) [] S0) S0 hS0 H.size) (cwI 0 hts gL_law_X3_init rfl rfl rfl (hts0 _ (List.mem_of_getElem? (i := 25) (by decide +kernel))) (hts0 _ (List.mem_of_getElem? (i := 39) (by decide +kernel))) (hts0 _ (List.mem_of_getElem? (i := 40) (by decide +kernel))) rfl (by decide +kernel) ⟨(Nat.le_of_ble_eq_true rfl), (Nat.le_of_ble_eq_true rfl)⟩) ⟨PIs_blind, fun U hU hW => ⟨rfl, by rw [hU], by rw [hU]; exact hP, hD.weaken (fun _ _ _ _ => trivial), KX.warm hW hK, by rw [hU]; exact hSX.pass hS hW (vaA_in hD hS hA)⟩⟩ rfl rfl hl.1 rfl (lv_room (Nat.le_of_ble_eq_true rfl)) dL_law_12 ⟨(Nat.le_of_ble_eq_true rfl), (Nat.le_of_ble_eq_true rfl)⟩) hD hS hA (fun qm H locs hP hD hS => ?_)
  refine lv_astore_n (lv' := [(2, .ref hm), (1, .ref hc), (0, .ref b)]) hx hb dL_law_15 rfl hl (by decide) rfl (fun ls hl => ?_)
  refine W.widen (k := 32) (n := 4276) (Nat.le_of_ble_eq_true rfl) (Nat.le_of_ble_eq_true rfl) ?_
  have T : L2 D cy (adM hc qc) (adM hm qm) s S0 S0 H locs := L2.ofSnd ⟨hP, hD, hS⟩
  obtain ⟨ad, had⟩ : ∃ ad, ad = adM hc qc := ⟨_, rfl⟩
  obtain ⟨ap, hap⟩ : ∃ ap, ap = adM hm qm := ⟨_, rfl⟩
  have hl : lv_has ls 10 [(2, .ref (ap 0)), (1, .ref (ad 0)), (0, .ref b)] := by rw [had, hap]; exact hl
  rw [← had, ← hap] at T
  refine lv_iconst (v := 2) hx hb dL_law_16 (by decide) ?_
  refine lv_aload_n hx hb dL_law_17 rfl (lv_at hl 2 rfl) ?_
  refine lv_iconst (v := 0) hx hb dL_law_18 (by decide) ?_
  refine law_X hL hXs hbl C T (j := 0) (rest := [.int 2]) (by omega) (va_cwS 2 hts gL_law_L_cell rfl rfl rfl (by decide +kernel) ⟨(Nat.le_of_ble_eq_true rfl), (Nat.le_of_ble_eq_true rfl)⟩) rfl hl.1 rfl (Nat.le_of_ble_eq_true rfl) dL_law_19 ⟨by dsimp only [room_1]; omega, by dsimp only [room_1]; omega⟩ (pc2 := 22) rfl (fun H locs T => ?_)
  refine lv_iconst (v := 3) hx hb dL_law_22 (by decide) ?_
  refine law_L (rest := [.int 2]) C T (kL_low l D cy ad (wC cy ap [] S0) S0 (xc L xs 0) 3 l1 (u1 S0)) (va_cwS 2 hts gL_law_L_low rfl rfl rfl (by decide +kernel) ⟨(Nat.le_of_ble_eq_true rfl), (Nat.le_of_ble_eq_true rfl)⟩) rfl hl.1 rfl (Nat.le_of_ble_eq_true rfl) dL_law_23 ⟨by dsimp only [room_1]; omega, by dsimp only [room_1]; omega⟩ (pc2 := 26) rfl (fun H locs T => ?_)
  refine lv_iadd hx hb dL_law_26 ?_
  refine lv_istore_n (lv' := [(3, .int ((2 : Int32) + l1)), (2, .ref (ap 0)), (1, .ref (ad 0)), (0, .ref b)]) hx hb dL_law_27 rfl hl (by decide) rfl (fun ls hl => ?_)
  refine lv_iconst (v := 3) hx hb dL_law_28 (by decide) ?_
  refine lv_aload_n hx hb dL_law_29 rfl (lv_at hl 3 rfl) ?_
  refine lv_iconst (v := 0) hx hb dL_law_30 (by decide) ?_
  refine law_X hL hXs hbl C T (j := 0) (rest := [.int 3]) (by omega) (va_cwS 2 hts gL_law_L_cell rfl rfl rfl (by decide +kernel) ⟨(Nat.le_of_ble_eq_true rfl), (Nat.le_of_ble_eq_true rfl)⟩) rfl hl.1 rfl (Nat.le_of_ble_eq_true rfl) dL_law_31 ⟨by dsimp only [room_1]; omega, by dsimp only [room_1]; omega⟩ (pc2 := 34) rfl (fun H locs T => ?_)
  refine lv_iconst (v := 3) hx hb dL_law_34 (by decide) ?_
  refine lv_ishr hx hb dL_law_35 ?_
  refine lv_iconst (v := 2) hx hb dL_law_36 (by decide) ?_
  refine law_L (rest := [.int 3]) C T (kL_low l D cy ad (wC cy ap [] S0) S0 ((xc L xs 0) >>> ((3 : Int32) &&& 31)) 2 l2 (u2 S0)) (va_cwS 2 hts gL_law_L_low rfl rfl rfl (by decide +kernel) ⟨(Nat.le_of_ble_eq_true rfl), (Nat.le_of_ble_eq_true rfl)⟩) rfl hl.1 rfl (Nat.le_of_ble_eq_true rfl) dL_law_37 ⟨by dsimp only [room_1]; omega, by dsimp only [room_1]; omega⟩ (pc2 := 40) rfl (fun H locs T => ?_)
  refine lv_iadd hx hb dL_law_40 ?_
  refine lv_istore (lv' := [(4, .int ((3 : Int32) + l2)), (3, .int ((2 : Int32) + l1)), (2, .ref (ap 0)), (1, .ref (ad 0)), (0, .ref b)]) hx hb dL_law_41 hl (by decide) rfl (fun ls hl => ?_)
  refine lv_iload_n hx hb dL_law_43 rfl (lv_at hl 1 rfl) ?_
  refine lv_iload hx hb dL_law_44 (lv_at hl 0 rfl) ?_
  refine lv_imul hx hb dL_law_46 ?_
  refine lv_istore (lv' := [(5, .int (((2 : Int32) + l1) * ((3 : Int32) + l2))), (4, .int ((3 : Int32) + l2)), (3, .int ((2 : Int32) + l1)), (2, .ref (ap 0)), (1, .ref (ad 0)), (0, .ref b)]) hx hb dL_law_47 hl (by decide) rfl (fun ls hl => ?_)
  refine lv_iconst (v := 1) hx hb dL_law_49 (by decide) ?_
  refine lv_aload_n hx hb dL_law_50 rfl (lv_at hl 5 rfl) ?_
  refine lv_iconst (v := 0) hx hb dL_law_51 (by decide) ?_
  refine law_X hL hXs hbl C T (j := 0) (rest := [.int 1]) (by omega) (va_cwS 2 hts gL_law_L_cell rfl rfl rfl (by decide +kernel) ⟨(Nat.le_of_ble_eq_true rfl), (Nat.le_of_ble_eq_true rfl)⟩) rfl hl.1 rfl (Nat.le_of_ble_eq_true rfl) dL_law_52 ⟨by dsimp only [room_1]; omega, by dsimp only [room_1]; omega⟩ (pc2 := 55) rfl (fun H locs T => ?_)
  refine lv_iconst (v := 5) hx hb dL_law_55 (by decide) ?_
  refine lv_ishr hx hb dL_law_56 ?_
  refine lv_iconst (v := 2) hx hb dL_law_57 (by decide) ?_
  refine law_L (rest := [.int 1]) C T (kL_low l D cy ad (wC cy ap [] S0) S0 ((xc L xs 0) >>> ((5 : Int32) &&& 31)) 2 l3 (u3 S0)) (va_cwS 2 hts gL_law_L_low rfl rfl rfl (by decide +kernel) ⟨(Nat.le_of_ble_eq_true rfl), (Nat.le_of_ble_eq_true rfl)⟩) rfl hl.1 rfl (Nat.le_of_ble_eq_true rfl) dL_law_58 ⟨by dsimp only [room_1]; omega, by dsimp only [room_1]; omega⟩ (pc2 := 61) rfl (fun H locs T => ?_)
  refine lv_iadd hx hb dL_law_61 ?_
  refine lv_istore (lv' := [(6, .int ((1 : Int32) + l3)), (5, .int (((2 : Int32) + l1) * ((3 : Int32) + l2))), (4, .int ((3 : Int32) + l2)), (3, .int ((2 : Int32) + l1)), (2, .ref (ap 0)), (1, .ref (ad 0)), (0, .ref b)]) hx hb dL_law_62 hl (by decide) rfl (fun ls hl => ?_)
  refine lv_aload_n hx hb dL_law_64 rfl (lv_at hl 5 rfl) ?_
  refine lv_iload_n hx hb dL_law_65 rfl (lv_at hl 3 rfl) ?_
  refine lv_iload hx hb dL_law_66 (lv_at hl 2 rfl) ?_
  refine lv_iload hx hb dL_law_68 (lv_at hl 0 rfl) ?_
  refine lv_aload_n hx hb dL_law_70 rfl (lv_at hl 6 rfl) ?_
  refine lv_iconst (v := 0) hx hb dL_law_71 (by decide) ?_
  refine law_X hL hXs hbl C T (j := 0) (rest := [.int ((1 : Int32) + l3), .int ((3 : Int32) + l2), .int ((2 : Int32) + l1), .ref (ad 0)]) (by omega) (va_cwS 2 hts gL_law_L_cell rfl rfl rfl (by decide +kernel) ⟨(Nat.le_of_ble_eq_true rfl), (Nat.le_of_ble_eq_true rfl)⟩) rfl hl.1 rfl (Nat.le_of_ble_eq_true rfl) dL_law_72 ⟨by dsimp only [room_1]; omega, by dsimp only [room_1]; omega⟩ (pc2 := 75) rfl (fun H locs T => ?_)
  refine lv_bipush (v := 7) hx hb dL_law_75 (by decide) ?_
  refine lv_ishr hx hb dL_law_77 ?_
  refine lv_bipush (v := 7) hx hb dL_law_78 (by decide) ?_
  refine law_L (rest := [.int ((1 : Int32) + l3), .int ((3 : Int32) + l2), .int ((2 : Int32) + l1), .ref (ad 0)]) C T (kL_low l D cy ad (wC cy ap [] S0) S0 ((xc L xs 0) >>> ((7 : Int32) &&& 31)) 7 l4 (u4 S0)) (va_cwS 2 hts gL_law_L_low rfl rfl rfl (by decide +kernel) ⟨(Nat.le_of_ble_eq_true rfl), (Nat.le_of_ble_eq_true rfl)⟩) rfl hl.1 rfl (Nat.le_of_ble_eq_true rfl) dL_law_80 ⟨by dsimp only [room_1]; omega, by dsimp only [room_1]; omega⟩ (pc2 := 83) rfl (fun H locs T => ?_)
  refine lv_aload_n hx hb dL_law_83 rfl (lv_at hl 6 rfl) ?_
  refine lv_iconst (v := 0) hx hb dL_law_84 (by decide) ?_
  refine law_X hL hXs hbl C T (j := 0) (rest := [.int l4, .int ((1 : Int32) + l3), .int ((3 : Int32) + l2), .int ((2 : Int32) + l1), .ref (ad 0)]) (by omega) (va_cwS 2 hts gL_law_L_cell rfl rfl rfl (by decide +kernel) ⟨(Nat.le_of_ble_eq_true rfl), (Nat.le_of_ble_eq_true rfl)⟩) rfl hl.1 rfl (Nat.le_of_ble_eq_true rfl) dL_law_85 ⟨by dsimp only [room_1]; omega, by dsimp only [room_1]; omega⟩ (pc2 := 88) rfl (fun H locs T => ?_)
  refine lv_bipush (v := 11) hx hb dL_law_88 (by decide) ?_
  refine lv_ishr hx hb dL_law_90 ?_
  refine lv_bipush (v := 7) hx hb dL_law_91 (by decide) ?_
  refine law_L (rest := [.int l4, .int ((1 : Int32) + l3), .int ((3 : Int32) + l2), .int ((2 : Int32) + l1), .ref (ad 0)]) C T (kL_low l D cy ad (wC cy ap [] S0) S0 ((xc L xs 0) >>> ((11 : Int32) &&& 31)) 7 l5 (u5 S0)) (va_cwS 2 hts gL_law_L_low rfl rfl rfl (by decide +kernel) ⟨(Nat.le_of_ble_eq_true rfl), (Nat.le_of_ble_eq_true rfl)⟩) rfl hl.1 rfl (Nat.le_of_ble_eq_true rfl) dL_law_93 ⟨by dsimp only [room_1]; omega, by dsimp only [room_1]; omega⟩ (pc2 := 96) rfl (fun H locs T => ?_)
  refine law_OW (As := [.ref (ad 0), .int ((2 : Int32) + l1), .int ((3 : Int32) + l2), .int ((1 : Int32) + l3), .int l4, .int l5]) (rest := []) (k := (((2 : Int32) + l1) * ((3 : Int32) + l2))) (S' := S1) C T (kL_begin l hfl t1 t2 D cy ad (wC cy ap [] S0) S0 ((2 : Int32) + l1) ((3 : Int32) + l2) ((1 : Int32) + l3) l4 l5 (((2 : Int32) + l1) * ((3 : Int32) + l2), S1) eb) (vx_cwSW 6 hts gL_law_L_begin rfl rfl rfl (by decide +kernel) ⟨(Nat.le_of_ble_eq_true rfl), (Nat.le_of_ble_eq_true rfl)⟩) rfl hl.1 rfl (Nat.le_of_ble_eq_true rfl) dL_law_96 ⟨by dsimp only [room_1]; omega, by dsimp only [room_1]; omega⟩ (pc2 := 99) (c2 := 33) (s2 := 4282) rfl rfl rfl (fun H locs T => ?_)
  refine lv_iload hx hb dL_law_99 (lv_at hl 1 rfl) ?_
  refine lv_icmp_ne (tgt := 144) hx hb dL_law_101 (by decide) (fun hc => absurd rfl hc) (fun _ => ?_)
  refine lv_aload_n hx hb dL_law_104 rfl (lv_at hl 4 rfl) ?_
  refine lv_iload_n hx hb dL_law_105 rfl (lv_at hl 3 rfl) ?_
  refine lv_iload hx hb dL_law_106 (lv_at hl 2 rfl) ?_
  refine lv_iload hx hb dL_law_108 (lv_at hl 0 rfl) ?_
  refine lv_aload_n hx hb dL_law_110 rfl (lv_at hl 6 rfl) ?_
  refine lv_iconst (v := 0) hx hb dL_law_111 (by decide) ?_
  refine law_X hL hXs hbl C T (j := 0) (rest := [.int ((1 : Int32) + l3), .int ((3 : Int32) + l2), .int ((2 : Int32) + l1), .ref (ap 0)]) (by omega) (va_cwS 2 hts gL_law_L_cell rfl rfl rfl (by decide +kernel) ⟨(Nat.le_of_ble_eq_true rfl), (Nat.le_of_ble_eq_true rfl)⟩) rfl hl.1 rfl (Nat.le_of_ble_eq_true rfl) dL_law_112 ⟨by dsimp only [room_1]; omega, by dsimp only [room_1]; omega⟩ (pc2 := 115) rfl (fun H locs T => ?_)
  refine lv_bipush (v := 7) hx hb dL_law_115 (by decide) ?_
  refine lv_ishr hx hb dL_law_117 ?_
  refine lv_bipush (v := 7) hx hb dL_law_118 (by decide) ?_
  refine law_L (rest := [.int ((1 : Int32) + l3), .int ((3 : Int32) + l2), .int ((2 : Int32) + l1), .ref (ap 0)]) C T (kL_low l D cy ad (wC cy ap [] S0) S1 ((xc L xs 0) >>> ((7 : Int32) &&& 31)) 7 l4 (u4 S1)) (va_cwS 2 hts gL_law_L_low rfl rfl rfl (by decide +kernel) ⟨(Nat.le_of_ble_eq_true rfl), (Nat.le_of_ble_eq_true rfl)⟩) rfl hl.1 rfl (Nat.le_of_ble_eq_true rfl) dL_law_120 ⟨by dsimp only [room_1]; omega, by dsimp only [room_1]; omega⟩ (pc2 := 123) rfl (fun H locs T => ?_)
  refine lv_aload_n hx hb dL_law_123 rfl (lv_at hl 6 rfl) ?_
  refine lv_iconst (v := 0) hx hb dL_law_124 (by decide) ?_
  refine law_X hL hXs hbl C T (j := 0) (rest := [.int l4, .int ((1 : Int32) + l3), .int ((3 : Int32) + l2), .int ((2 : Int32) + l1), .ref (ap 0)]) (by omega) (va_cwS 2 hts gL_law_L_cell rfl rfl rfl (by decide +kernel) ⟨(Nat.le_of_ble_eq_true rfl), (Nat.le_of_ble_eq_true rfl)⟩) rfl hl.1 rfl (Nat.le_of_ble_eq_true rfl) dL_law_125 ⟨by dsimp only [room_1]; omega, by dsimp only [room_1]; omega⟩ (pc2 := 128) rfl (fun H locs T => ?_)
  refine lv_bipush (v := 11) hx hb dL_law_128 (by decide) ?_
  refine lv_ishr hx hb dL_law_130 ?_
  refine lv_bipush (v := 7) hx hb dL_law_131 (by decide) ?_
  refine law_L (rest := [.int l4, .int ((1 : Int32) + l3), .int ((3 : Int32) + l2), .int ((2 : Int32) + l1), .ref (ap 0)]) C T (kL_low l D cy ad (wC cy ap [] S0) S1 ((xc L xs 0) >>> ((11 : Int32) &&& 31)) 7 l5 (u5 S1)) (va_cwS 2 hts gL_law_L_low rfl rfl rfl (by decide +kernel) ⟨(Nat.le_of_ble_eq_true rfl), (Nat.le_of_ble_eq_true rfl)⟩) rfl hl.1 rfl (Nat.le_of_ble_eq_true rfl) dL_law_133 ⟨by dsimp only [room_1]; omega, by dsimp only [room_1]; omega⟩ (pc2 := 136) rfl (fun H locs T => ?_)
  refine law_PV (As := [.int ((2 : Int32) + l1), .int ((3 : Int32) + l2), .int ((1 : Int32) + l3), .int l4, .int l5]) (rest := []) (k := ((2 : Int32) + l1) * ((3 : Int32) + l2)) (P' := P1) C T (kN_X3_begin l t1 t2 D cy ap (wC cy ad [] S1) S0 ((2 : Int32) + l1) ((3 : Int32) + l2) ((1 : Int32) + l3) l4 l5 _ ep rfl) (cwV 5 hts gL_law_X3_begin rfl rfl rfl (by decide +kernel) ⟨(Nat.le_of_ble_eq_true rfl), (Nat.le_of_ble_eq_true rfl)⟩) rfl hl.1 rfl (Nat.le_of_ble_eq_true rfl) dL_law_136 ⟨by dsimp only [room_1]; omega, by dsimp only [room_1]; omega⟩ (pc2 := 139) rfl (fun H locs T => ?_)
  refine lv_iload hx hb dL_law_139 (lv_at hl 1 rfl) ?_
  refine lv_icmp_eq (tgt := 146) hx hb dL_law_141 (by decide) (fun _ => ?_) (fun hc => absurd rfl hc)
  refine lv_iconst (v := 1) hx hb dL_law_146 (by decide) ?_
  refine lv_istore (lv' := [(7, .int 1), (6, .int ((1 : Int32) + l3)), (5, .int (((2 : Int32) + l1) * ((3 : Int32) + l2))), (4, .int ((3 : Int32) + l2)), (3, .int ((2 : Int32) + l1)), (2, .ref (ap 0)), (1, .ref (ad 0)), (0, .ref b)]) hx hb dL_law_147 hl (by decide) rfl (fun ls hl => ?_)
  refine W.widen (k := 24 * 1 + 33) (n := 144 * 1 + 4282) (by omega) (by omega) ?_
  exact law_loop hfl hL hXs hbl C hok 33 4282 (by decide) (by decide) hr 59 1 rfl S1 P1 _ hI H locs T ls (lv_sub hl [7, 6, 5, 2, 0] rfl)
