theorem tx_of {args : Array Value} {s : State} {k : Nat} {tx : String} (h1 : (Cond.stringRef RX3 k tx).before args s = true) (h2 : (Cond.exactly (.string RX3 k) "java/lang/String").before args s = true) : ∃ a, vk_R RX3 k tx a s := by
  obtain ⟨a, c, cA, kA, q1, -⟩ := Cond.exactly_spec (args := args) (first := s) (o := none) (s := s) (idx := []) (t := .string RX3 k) (cls := "java/lang/String") h2
  exact ⟨a, vk_R.of h1 q1⟩
theorem arr_of {args : Array Value} {s : State} {ty : FieldType} (h : (Cond.arrayClass ty).before args s = true) : ∃ cA : ClassId, ArrOfT s cA ty ∧ s.vm.findClass ("[" ++ ty.toString) = some cA := by
  obtain ⟨cA, kA, comp, hfind, hk, hkind⟩ := Cond.arrayClass_spec h
  exact ⟨cA, fun n z => ⟨fun k h => (by cases h), kA, hk, comp, hkind⟩, hfind⟩
set_option maxHeartbeats 8000000 in
set_option maxRecDepth 100000 in
theorem law_KN {args : Array Value} {s : State} (hts0 : ∀ w ∈ lw_tbl, w.before args s = true) : KN s := by
  intro w hw
  refine va_Nw.of ?_ (A := args) ?_
  · revert w hw; show ∀ w ∈ nestW, w.onTables = true; decide +kernel
  · revert w hw; show ∀ w ∈ nestW, w.before args s = true
    exact List.forall_mem_cons.mpr ⟨(hts0 _ (List.mem_of_getElem? (i := 132) (by decide +kernel))), List.forall_mem_cons.mpr ⟨(hts0 _ (List.mem_of_getElem? (i := 84) (by decide +kernel))), List.forall_mem_cons.mpr ⟨(hts0 _ (List.mem_of_getElem? (i := 93) (by decide +kernel))), List.forall_mem_cons.mpr ⟨(hts0 _ (List.mem_of_getElem? (i := 90) (by decide +kernel))), List.forall_mem_cons.mpr ⟨(hts0 _ (List.mem_of_getElem? (i := 131) (by decide +kernel))), List.forall_mem_cons.mpr ⟨(hts0 _ (List.mem_of_getElem? (i := 92) (by decide +kernel))), List.forall_mem_cons.mpr ⟨(hts0 _ (List.mem_of_getElem? (i := 74) (by decide +kernel))), List.forall_mem_cons.mpr ⟨(hts0 _ (List.mem_of_getElem? (i := 524) (by decide +kernel))), List.forall_mem_cons.mpr ⟨(hts0 _ (List.mem_of_getElem? (i := 551) (by decide +kernel))), List.forall_mem_cons.mpr ⟨(hts0 _ (List.mem_of_getElem? (i := 125) (by decide +kernel))), List.forall_mem_cons.mpr ⟨(hts0 _ (List.mem_of_getElem? (i := 140) (by decide +kernel))), List.forall_mem_cons.mpr ⟨(hts0 _ (List.mem_of_getElem? (i := 145) (by decide +kernel))), List.forall_mem_cons.mpr ⟨(hts0 _ (List.mem_of_getElem? (i := 214) (by decide +kernel))), List.forall_mem_cons.mpr ⟨(hts0 _ (List.mem_of_getElem? (i := 318) (by decide +kernel))), List.forall_mem_cons.mpr ⟨(hts0 _ (List.mem_of_getElem? (i := 297) (by decide +kernel))), List.forall_mem_cons.mpr ⟨(hts0 _ (List.mem_of_getElem? (i := 216) (by decide +kernel))), List.forall_mem_cons.mpr ⟨(hts0 _ (List.mem_of_getElem? (i := 218) (by decide +kernel))), List.forall_mem_cons.mpr ⟨(hts0 _ (List.mem_of_getElem? (i := 220) (by decide +kernel))), fun _ h => absurd h List.not_mem_nil⟩⟩⟩⟩⟩⟩⟩⟩⟩⟩⟩⟩⟩⟩⟩⟩⟩⟩
set_option maxHeartbeats 8000000 in
set_option maxRecDepth 100000 in
theorem law_KNc {args : Array Value} {s : State} (hs : ∀ w ∈ flatC (Jvm.Cond.and given_1 narrow_1), w.before args s = true) : KNc s := List.forall_mem_cons.mpr ⟨va_Nc.of (hs (.not (.castable "java/lang/IllegalArgumentException" "java/lang/IllegalStateException")) (by decide +kernel)), List.forall_mem_cons.mpr ⟨va_Nc.of (hs (.not (.castable "java/lang/IllegalArgumentException" "java/lang/IndexOutOfBoundsException")) (by decide +kernel)), List.forall_mem_cons.mpr ⟨va_Nc.of (hs (.not (.castable "java/lang/IllegalStateException" "java/lang/IllegalArgumentException")) (by decide +kernel)), List.forall_mem_cons.mpr ⟨va_Nc.of (hs (.not (.castable "java/lang/IllegalStateException" "java/lang/IndexOutOfBoundsException")) (by decide +kernel)), List.forall_mem_cons.mpr ⟨va_Nc.of (hs (.not (.castable "java/lang/IndexOutOfBoundsException" "java/lang/IllegalArgumentException")) (by decide +kernel)), List.forall_mem_cons.mpr ⟨va_Nc.of (hs (.not (.castable "java/lang/IndexOutOfBoundsException" "java/lang/IllegalStateException")) (by decide +kernel)), fun _ h => absurd h List.not_mem_nil⟩⟩⟩⟩⟩⟩
set_option maxHeartbeats 8000000 in
set_option maxRecDepth 100000 in
theorem law_TX {args : Array Value} {s : State} (hts0 : ∀ w ∈ lw_tbl, w.before args s = true) (hs : ∀ w ∈ flatC (Jvm.Cond.and given_1 narrow_1), w.before args s = true) : ∀ q ∈ texts, ∃ a, vk_R RX3 q.1 q.2 a s :=
  List.forall_mem_cons.mpr ⟨tx_of (hts0 _ (List.mem_of_getElem? (i := 253) (by decide +kernel))) (hs (.exactly (.string RX3 40) "java/lang/String") (by decide +kernel)), List.forall_mem_cons.mpr ⟨tx_of (hts0 _ (List.mem_of_getElem? (i := 280) (by decide +kernel))) (hs (.exactly (.string RX3 45) "java/lang/String") (by decide +kernel)), List.forall_mem_cons.mpr ⟨tx_of (hts0 _ (List.mem_of_getElem? (i := 281) (by decide +kernel))) (hs (.exactly (.string RX3 47) "java/lang/String") (by decide +kernel)), List.forall_mem_cons.mpr ⟨tx_of (hts0 _ (List.mem_of_getElem? (i := 325) (by decide +kernel))) (hs (.exactly (.string RX3 67) "java/lang/String") (by decide +kernel)), List.forall_mem_cons.mpr ⟨tx_of (hts0 _ (List.mem_of_getElem? (i := 392) (by decide +kernel))) (hs (.exactly (.string RX3 77) "java/lang/String") (by decide +kernel)), List.forall_mem_cons.mpr ⟨tx_of (hts0 _ (List.mem_of_getElem? (i := 394) (by decide +kernel))) (hs (.exactly (.string RX3 83) "java/lang/String") (by decide +kernel)), List.forall_mem_cons.mpr ⟨tx_of (hts0 _ (List.mem_of_getElem? (i := 453) (by decide +kernel))) (hs (.exactly (.string RX3 110) "java/lang/String") (by decide +kernel)), List.forall_mem_cons.mpr ⟨tx_of (hts0 _ (List.mem_of_getElem? (i := 470) (by decide +kernel))) (hs (.exactly (.string RX3 119) "java/lang/String") (by decide +kernel)), List.forall_mem_cons.mpr ⟨tx_of (hts0 _ (List.mem_of_getElem? (i := 501) (by decide +kernel))) (hs (.exactly (.string RX3 124) "java/lang/String") (by decide +kernel)), List.forall_mem_cons.mpr ⟨tx_of (hts0 _ (List.mem_of_getElem? (i := 559) (by decide +kernel))) (hs (.exactly (.string RX3 140) "java/lang/String") (by decide +kernel)), List.forall_mem_cons.mpr ⟨tx_of (hts0 _ (List.mem_of_getElem? (i := 304) (by decide +kernel))) (hs (.exactly (.string RX3 145) "java/lang/String") (by decide +kernel)), List.forall_mem_cons.mpr ⟨tx_of (hts0 _ (List.mem_of_getElem? (i := 425) (by decide +kernel))) (hs (.exactly (.string RX3 147) "java/lang/String") (by decide +kernel)), List.forall_mem_cons.mpr ⟨tx_of (hts0 _ (List.mem_of_getElem? (i := 521) (by decide +kernel))) (hs (.exactly (.string RX3 149) "java/lang/String") (by decide +kernel)), List.forall_mem_cons.mpr ⟨tx_of (hts0 _ (List.mem_of_getElem? (i := 522) (by decide +kernel))) (hs (.exactly (.string RX3 151) "java/lang/String") (by decide +kernel)), List.forall_mem_cons.mpr ⟨tx_of (hts0 _ (List.mem_of_getElem? (i := 523) (by decide +kernel))) (hs (.exactly (.string RX3 153) "java/lang/String") (by decide +kernel)), fun _ h => absurd h List.not_mem_nil⟩⟩⟩⟩⟩⟩⟩⟩⟩⟩⟩⟩⟩⟩⟩
set_option maxHeartbeats 8000000 in
set_option maxRecDepth 100000 in
theorem law_SX {args : Array Value} {s : State} (hts0 : ∀ w ∈ lw_tbl, w.before args s = true) (hs : ∀ w ∈ flatC (Jvm.Cond.and given_1 narrow_1), w.before args s = true) : ∃ t1 t2 : Nat, SX t1 t2 (fun q => s.heap.size ≤ q) s s.heap := by
  have hA : ∀ a : Nat, a < s.heap.size → ¬ (fun q => s.heap.size ≤ q) a := fun a h => Nat.not_le.mpr h
  have hl1 : (Term.length (Term.static RX0 "DOWN" "[I")).eval args s none [] s = some (.int (Int32.ofNat 8)) := va_eqt (hs (.eq (.length (Term.static RX0 "DOWN" "[I")) (.int 8)) (by decide +kernel))
  have he1 : ∀ j : Nat, j < 8 → (Term.elem (Term.static RX0 "DOWN" "[I") (.int (Int32.ofNat j))).eval args s none [] s = some (.int (dnD j)) := by
    intro j hj
    rcases (show j = 0 ∨ j = 1 ∨ j = 2 ∨ j = 3 ∨ j = 4 ∨ j = 5 ∨ j = 6 ∨ j = 7 by omega) with rfl | rfl | rfl | rfl | rfl | rfl | rfl | rfl
    · exact va_eqt (hs (.eq (.elem (Term.static RX0 "DOWN" "[I") (.int 0)) (.int (-1))) (by decide +kernel))
    · exact va_eqt (hs (.eq (.elem (Term.static RX0 "DOWN" "[I") (.int 1)) (.int (-1))) (by decide +kernel))
    · exact va_eqt (hs (.eq (.elem (Term.static RX0 "DOWN" "[I") (.int 2)) (.int (-1))) (by decide +kernel))
    · exact va_eqt (hs (.eq (.elem (Term.static RX0 "DOWN" "[I") (.int 3)) (.int 0)) (by decide +kernel))
    · exact va_eqt (hs (.eq (.elem (Term.static RX0 "DOWN" "[I") (.int 4)) (.int 0)) (by decide +kernel))
    · exact va_eqt (hs (.eq (.elem (Term.static RX0 "DOWN" "[I") (.int 5)) (.int 1)) (by decide +kernel))
    · exact va_eqt (hs (.eq (.elem (Term.static RX0 "DOWN" "[I") (.int 6)) (.int 1)) (by decide +kernel))
    · exact va_eqt (hs (.eq (.elem (Term.static RX0 "DOWN" "[I") (.int 7)) (.int 1)) (by decide +kernel))
  obtain ⟨t1, ht1, hT1⟩ := va_Tof (f := fun j => .int (dnD j)) (A := fun q => s.heap.size ≤ q) (by decide) (hs (.arrayOf (Term.static RX0 "DOWN" "[I") .int) (by decide +kernel)) hl1 he1 hA
  have hl2 : (Term.length (Term.static RX0 "ACROSS" "[I")).eval args s none [] s = some (.int (Int32.ofNat 8)) := va_eqt (hs (.eq (.length (Term.static RX0 "ACROSS" "[I")) (.int 8)) (by decide +kernel))
  have he2 : ∀ j : Nat, j < 8 → (Term.elem (Term.static RX0 "ACROSS" "[I") (.int (Int32.ofNat j))).eval args s none [] s = some (.int (dnA j)) := by
    intro j hj
    rcases (show j = 0 ∨ j = 1 ∨ j = 2 ∨ j = 3 ∨ j = 4 ∨ j = 5 ∨ j = 6 ∨ j = 7 by omega) with rfl | rfl | rfl | rfl | rfl | rfl | rfl | rfl
    · exact va_eqt (hs (.eq (.elem (Term.static RX0 "ACROSS" "[I") (.int 0)) (.int (-1))) (by decide +kernel))
    · exact va_eqt (hs (.eq (.elem (Term.static RX0 "ACROSS" "[I") (.int 1)) (.int 0)) (by decide +kernel))
    · exact va_eqt (hs (.eq (.elem (Term.static RX0 "ACROSS" "[I") (.int 2)) (.int 1)) (by decide +kernel))
    · exact va_eqt (hs (.eq (.elem (Term.static RX0 "ACROSS" "[I") (.int 3)) (.int (-1))) (by decide +kernel))
    · exact va_eqt (hs (.eq (.elem (Term.static RX0 "ACROSS" "[I") (.int 4)) (.int 1)) (by decide +kernel))
    · exact va_eqt (hs (.eq (.elem (Term.static RX0 "ACROSS" "[I") (.int 5)) (.int (-1))) (by decide +kernel))
    · exact va_eqt (hs (.eq (.elem (Term.static RX0 "ACROSS" "[I") (.int 6)) (.int 0)) (by decide +kernel))
    · exact va_eqt (hs (.eq (.elem (Term.static RX0 "ACROSS" "[I") (.int 7)) (.int 1)) (by decide +kernel))
  obtain ⟨t2, ht2, hT2⟩ := va_Tof (f := fun j => .int (dnA j)) (A := fun q => s.heap.size ≤ q) (by decide) (hs (.arrayOf (Term.static RX0 "ACROSS" "[I") .int) (by decide +kernel)) hl2 he2 hA
  exact ⟨t1, t2, va_Zref (hts0 _ (List.mem_of_getElem? (i := 168) (by decide +kernel))) (hts0 _ (List.mem_of_getElem? (i := 52) (by decide +kernel))) ht1 hA, va_Zref (hts0 _ (List.mem_of_getElem? (i := 170) (by decide +kernel))) (hts0 _ (List.mem_of_getElem? (i := 52) (by decide +kernel))) ht2 hA, hT1, hT2,
    vx_Zqof (hts0 _ (List.mem_of_getElem? (i := 239) (by decide +kernel))) (hts0 _ (List.mem_of_getElem? (i := 57) (by decide +kernel))) (hs (.isRef (.static Bundle.tN "UNASSIGNED_STACK" Bundle.steD)) (by decide +kernel)) hA, vx_Zqof (hts0 _ (List.mem_of_getElem? (i := 241) (by decide +kernel))) (hts0 _ (List.mem_of_getElem? (i := 57) (by decide +kernel))) (hs (.isRef (.static Bundle.tN "SUPPRESSED_SENTINEL" Bundle.listD)) (by decide +kernel)) hA, law_TX hts0 hs⟩
set_option maxHeartbeats 8000000 in
set_option maxRecDepth 100000 in
theorem law_KX {args : Array Value} {s : State} (hts0 : ∀ w ∈ lw_tbl, w.before args s = true) : ∃ (D : va_G) (cy : Nat → ClassId), KX D cy s := by
  obtain ⟨c0, iS0, hKn0⟩ := u_known (C := RX0) (T := TX0) (N := 13) (n := 13) hts0 inX0 (hts0 _ (List.mem_of_getElem? (i := 73) (by decide +kernel)))
  obtain ⟨c1, iS1, hKn1⟩ := u_known (C := RX1) (T := TX1) (N := 3) (n := 3) hts0 inX1 (hts0 _ (List.mem_of_getElem? (i := 139) (by decide +kernel)))
  obtain ⟨c2, iS2, hKn2⟩ := u_known (C := RX2) (T := TX2) (N := 2) (n := 2) hts0 inX2 (hts0 _ (List.mem_of_getElem? (i := 124) (by decide +kernel)))
  obtain ⟨c3, iS3, hKn3⟩ := u_known (C := RX3) (T := TX3) (N := 3) (n := 3) hts0 inX3 (hts0 _ (List.mem_of_getElem? (i := 65) (by decide +kernel)))
  obtain ⟨c4, iS4, hKn4⟩ := u_known (C := RX4) (T := TX4) (N := 16) (n := 16) hts0 inX4 (hts0 _ (List.mem_of_getElem? (i := 565) (by decide +kernel)))
  obtain ⟨a0, hA0, hN0⟩ := arr_of (ty := .int) (hts0 _ (List.mem_of_getElem? (i := 122) (by decide +kernel)))
  obtain ⟨a1, hA1, hN1⟩ := arr_of (ty := .boolean) (hts0 _ (List.mem_of_getElem? (i := 623) (by decide +kernel)))
  obtain ⟨a2, hA2, hN2⟩ := arr_of (ty := .long) (hts0 _ (List.mem_of_getElem? (i := 791) (by decide +kernel)))
  refine ⟨(fun k => match k with | 0 => c0 | 1 => c1 | 2 => c2 | 3 => c3 | _ => c4, fun k => match k with | 0 => iS0 | 1 => iS1 | 2 => iS2 | 3 => iS3 | _ => iS4), fun k => match k with | 0 => a0 | 1 => a1 | _ => a2, ⟨?_, ?_⟩, law_KN hts0⟩
  · intro k q hq
    match k, hq with
    | 0, hq => cases hq; exact hKn0
    | 1, hq => cases hq; exact hKn1
    | 2, hq => cases hq; exact hKn2
    | 3, hq => cases hq; exact hKn3
    | 4, hq => cases hq; exact hKn4
    | k + 5, hq => simp [vwCl] at hq
  · intro k q hq
    match k, hq with
    | 0, hq => cases hq; exact ⟨hA0, hN0⟩
    | 1, hq => cases hq; exact ⟨hA1, hN1⟩
    | 2, hq => cases hq; exact ⟨hA2, hN2⟩
    | k + 3, hq => simp [tysW] at hq
set_option maxHeartbeats 8000000 in
set_option maxRecDepth 100000 in
/-- the law's loop, from its head, j rounds done -/
theorem law_loop {p : Program} {l : Launch} {e : Env} {s : State} {m : MethodId} {below : List Frame} {meth : Method} {c : Code} {t1 t2 : Nat} {D : va_G} {cy : Nat → ClassId} {ad am : Nat → Nat} {o b L : Nat} {xs : Nat → Int32} (hfl : l.stackTraces = false) (hL : L ≤ 3072) (hXs : va_X b L xs s s.heap) (hbl : b < s.heap.size) (hr : meth.sig.returnType = ret)
    (C : LX p s m #[Value.ref b] meth c t1 t2 D cy) {I : SC → SC → Prop} (hok : LawOK I) (c0 s0 : Nat) (hc0 : c0 ≤ 1000) (hs0 : s0 ≤ 100000) :
    ∀ (n j : Nat), L + 6 < 6 * (j + n) → 6 * j ≤ L + 6 → ∀ (S M : SC) (f : Nat → Int64), I S M → ∀ (H : Heap) (locs : List Loc), lwS D cy ad am o s S M f H locs → ∀ (ls : Array Slot), lv_has ls 7 [(0, .ref b), (1, .ref (ad 0)), (2, .ref (am 0)), (3, .ref o), (4, .int (nI (6 * j)))] →
      W p l e room_1 s m #[Value.ref b] below meth c H locs (2 * j + c0) (12 * j + s0) (lw_Z below #[Value.ref b] s) (F0 m 23 ls []) := by
  obtain ⟨hx, hb, hml, hown, hts, hlk, -, -, -⟩ := id C
  have hbA : ¬ (fun q : Nat => s.heap.size ≤ q) b := Nat.not_le.mpr hbl
  intro n
  induction n with
  | zero => intro j h1 h2; exact absurd h1 (by omega)
  | succ n ih =>
    intro j h1 h2 S M f hI H locs T ls hl
    refine lv_iload hx hb dL_law_23 (lv_at hl 4 rfl) ?_
    refine lv_aload_n hx hb dL_law_25 rfl (lv_at hl 0 rfl) ?_
    refine va_slen hx hb hXs hbl hbA T.2.2 dL_law_26 ?_
    refine lv_bipush (v := 6) hx hb dL_law_27 (by decide) ?_
    refine lv_isub hx hb dL_law_29 ?_
    refine lv_icmp_gt (tgt := 869) hx hb dL_law_30 (by decide) (fun hc => ?_) (fun hc => ?_)
    · refine lv_iconst (v := 1) hx hb dL_law_869 (by decide) ?_
      refine va_forget (fun q hq => T.2.2.2.2 q hq) ?_
      refine W.widen (k := 601024) (n := 7293034) (by omega) (by omega) ?_
      exact lw_ret hx hb hr hlk dL_law_870
    · have hlt : ¬ L < 6 * j + 6 := fun h => hc ((law_gt hL (by omega)).mpr h)
      have hin : ∀ k : Nat, k ≤ 5 → vp_in (nI (6 * j) + nI k) L := fun k hk => by rw [nI_add]; exact vp_in_nI (by omega) (by omega)
      refine lv_aload_n hx hb dL_law_33 rfl (lv_at hl 0 rfl) ?_
      refine lv_iload hx hb dL_law_34 (lv_at hl 4 rfl) ?_
      refine va_sld hx hb hXs hbl hbA T.2.2 (vp_in_nI (by omega) (by omega)) dL_law_36 ?_
      refine lv_bipush (v := 15) hx hb dL_law_37 (by decide) ?_
      refine lv_iand hx hb dL_law_39 ?_
      obtain ⟨y, hy, ey⟩ := pk_andE (xs (nI (6 * j)).toNatClampNeg) (m := 15) 4 (by decide)
      rw [ey]
      refine law_round hfl hXs hbl C hok c0 s0 j hc0 hs0 (by omega) (nI (6 * j)) y hy (hin 1 (by decide)) (hin 2 (by decide)) (hin 3 (by decide)) (hin 4 (by decide)) (hin 5 (by decide)) hI T hl (fun S M f hI H locs T ls hl => ?_)
      refine lv_iinc (v := nI (6 * (j + 1))) (lv' := [(4, .int (nI (6 * (j + 1)))), (0, .ref b), (1, .ref (ad 0)), (2, .ref (am 0)), (3, .ref o)]) hx hb dL_law_863 hl (k := 4) rfl (by rw [show 6 * (j + 1) = 6 * j + 6 by omega, ← nI_add]; rfl) (by decide) rfl (fun ls hl => ?_)
      refine lv_goto (tgt := 23) hx hb dL_law_866 (by decide) ?_
      refine W.cs (by omega) (by omega) (ih (j + 1) (by omega) (by omega) S M f hI H locs T ls (lv_sub hl [1, 2, 3, 4, 0] rfl))
set_option maxHeartbeats 8000000 in
set_option maxRecDepth 100000 in
/-- the law from its entry, out of the pure facts -/
theorem whole_of {I : SC → SC → Prop} {S0 M0 : SC} (hS0 : fX0_start S0C 5 5 2 0 0 = some S0) (hM0 : fX4_lay S0M = some M0) (hI : I S0 M0) (hok : LawOK I) {p : Program} {e : Env} {s : State} {m : MethodId} {below : List Frame} {meth : Method} {c : Code} (l : Launch) (hflags : l.flags = flags0) {b L : Nat} {xs : Nat → Int32} (hL : L ≤ 3072) (C0 : lw_At p s m meth c b L xs) : W p l e room_1 s m #[Value.ref b] below meth c s.heap [] 0 0 (lw_Z below #[Value.ref b] s) (entryFrame m ([Value.ref b] : List Value).toArray 7) := by
  obtain ⟨hx, hb, hr, hml, hown, hts0, hX, hbl, hlocks, hgv⟩ := id C0
  have hs := flat_of_before _ hgv
  have hfl : l.stackTraces = false := by
    unfold Launch.stackTraces
    rw [hflags]
    decide +kernel
  have hts : ∀ w ∈ wsL_law, w.before #[Value.ref b] s = true := fun w h => hts0 w (wsL_law_in w h)
  obtain ⟨D, cy, hK⟩ := law_KX hts0
  obtain ⟨t1, t2, hSX⟩ := law_SX hts0 hs
  have C : LX p s m #[Value.ref b] meth c t1 t2 D cy := ⟨hx, hb, hml, hown, hts, hlocks, hK, hSX, law_KNc hs⟩
  have hA : ∀ q : Nat, s.heap.size ≤ q → (fun q : Nat => s.heap.size ≤ q) q := fun _ h => h
  have hS : va_S (fun q : Nat => s.heap.size ≤ q) s.heap s.heap [] := va_S.rf
  have hP : va_P D vwCl [] s.heap := fun k q h => by simp at h
  have hD : va_D (fun q : Nat => s.heap.size ≤ q) [] := ⟨fun i j p q h => by simp at h, fun k q h => by simp at h⟩
  have hl := lv_entry ([.ref b]) (n := 7) (Nat.le_of_ble_eq_true rfl)
  rw [lg_entry_eq]
  generalize (lg_sl ([.ref b]) ++ List.replicate (7 - (lg_sl ([.ref b])).length) Slot.unset).toArray = ls at hl ⊢
  have hl : lv_has ls 7 [(0, .ref b)] := hl
  refine nw_O (C := RX3) (T := TX3) (N0 := 3) (ci := 3) hx hb hts0 inX3 tyX3 tyX3_ok hown (hts0 _ (List.mem_of_getElem? (i := 64) (by decide +kernel))) (hts0 _ (List.mem_of_getElem? (i := 65) (by decide +kernel))) (hts0 _ (List.mem_of_getElem? (i := 51) (by decide +kernel))) hK hP hD hS hA rfl [.null, .null, .null] (fun j hj => by rcases (show j = 0 ∨ j = 1 ∨ j = 2 by omega) with rfl | rfl | rfl <;> rfl) (Nat.le_of_ble_eq_true rfl) (Nat.le_of_ble_eq_true rfl) dL_law_0 (fun hc H hP hD hS => ?_)
  refine lv_dup hx hb dL_law_3 rfl ?_
  refine ci_go (N := fun q => wC cy (adM hc q) [] S0) (va_runI (As := []) (rest := [.ref hc]) ⟨hx, hb, hml, hown, hts⟩ (kX3_init l t1 t2 D cy hc [] S0 hS0 H.size) (cwI 0 hts gL_law_X3_init rfl rfl rfl (hts0 _ (List.mem_of_getElem? (i := 51) (by decide +kernel))) (hts0 _ (List.mem_of_getElem? (i := 66) (by decide +kernel))) (hts0 _ (List.mem_of_getElem? (i := 67) (by decide +kernel))) rfl (by decide +kernel) ⟨(Nat.le_of_ble_eq_true rfl), (Nat.le_of_ble_eq_true rfl)⟩) ⟨PIs_blind, fun U hU hW => ⟨rfl, by rw [hU], by rw [hU]; exact hP, hD.weaken (fun _ _ _ _ => trivial), KX.warm hW hK, by rw [hU]; exact hSX.pass hS hW (vaA_in hD hS hA)⟩⟩ rfl rfl hl.1 rfl (lv_room (Nat.le_of_ble_eq_true rfl)) dL_law_4 ⟨(Nat.le_of_ble_eq_true rfl), (Nat.le_of_ble_eq_true rfl)⟩) hD hS hA (fun qc H locs hP hD hS => ?_)
  refine lv_astore_n (lv' := [(1, .ref hc), (0, .ref b)]) hx hb dL_law_7 rfl hl (by decide) rfl (fun ls hl => ?_)
  refine nw_O (C := RX4) (T := TX4) (N0 := 16) (ci := 4) hx hb hts0 inX4 tyX4 tyX4_ok hown (hts0 _ (List.mem_of_getElem? (i := 564) (by decide +kernel))) (hts0 _ (List.mem_of_getElem? (i := 565) (by decide +kernel))) (hts0 _ (List.mem_of_getElem? (i := 56) (by decide +kernel))) hK hP hD hS hA rfl [.int 0, .int 0, .int 0, .int 0, .null, .null, .null, .null, .null, .int 0, .int 0, .null, .int 0, .null, .null, .int 0] (fun j hj => by rcases (show j = 0 ∨ j = 1 ∨ j = 2 ∨ j = 3 ∨ j = 4 ∨ j = 5 ∨ j = 6 ∨ j = 7 ∨ j = 8 ∨ j = 9 ∨ j = 10 ∨ j = 11 ∨ j = 12 ∨ j = 13 ∨ j = 14 ∨ j = 15 by omega) with rfl | rfl | rfl | rfl | rfl | rfl | rfl | rfl | rfl | rfl | rfl | rfl | rfl | rfl | rfl | rfl <;> rfl) (Nat.le_of_ble_eq_true rfl) (Nat.le_of_ble_eq_true rfl) dL_law_8 (fun hm H hP hD hS => ?_)
  refine lv_dup hx hb dL_law_11 rfl ?_
  refine ci_go (N := fun q => wM cy (adM hm q) (wC cy (adM hc qc) [] S0) M0) (va_runI (As := []) (rest := [.ref hm]) ⟨hx, hb, hml, hown, hts⟩ (kX4_init l D cy hm (wC cy (adM hc qc) [] S0) M0 hM0 H.size) (cwI 0 hts gL_law_X4_init rfl rfl rfl (hts0 _ (List.mem_of_getElem? (i := 56) (by decide +kernel))) (hts0 _ (List.mem_of_getElem? (i := 566) (by decide +kernel))) (hts0 _ (List.mem_of_getElem? (i := 567) (by decide +kernel))) rfl (by decide +kernel) ⟨(Nat.le_of_ble_eq_true rfl), (Nat.le_of_ble_eq_true rfl)⟩) ⟨PI_blind, fun U hU hW => ⟨rfl, by rw [hU], by rw [hU]; exact hP, hD.weaken (fun _ _ _ _ => trivial), KX.warm hW hK⟩⟩ rfl rfl hl.1 rfl (lv_room (Nat.le_of_ble_eq_true rfl)) dL_law_12 ⟨(Nat.le_of_ble_eq_true rfl), (Nat.le_of_ble_eq_true rfl)⟩) hD hS hA (fun qm H locs hP hD hS => ?_)
  refine lv_astore_n (lv' := [(2, .ref hm), (1, .ref hc), (0, .ref b)]) hx hb dL_law_15 rfl hl (by decide) rfl (fun ls hl => ?_)
  refine lv_iconst (v := 1) hx hb dL_law_16 (by decide) ?_
  refine nw_J hx hb (hts0 _ (List.mem_of_getElem? (i := 791) (by decide +kernel))) hK.1 hP hD hS hA 1 (by decide) (by decide) (Nat.le_of_ble_eq_true rfl) (Nat.le_of_ble_eq_true rfl) (Nat.le_of_ble_eq_true rfl) dL_law_17 (fun o H hP hD hS => ?_)
  refine lv_astore_n (lv' := [(3, .ref o), (2, .ref hm), (1, .ref hc), (0, .ref b)]) hx hb dL_law_19 rfl hl (by decide) rfl (fun ls hl => ?_)
  refine lv_iconst (v := 0) hx hb dL_law_20 (by decide) ?_
  refine lv_istore (lv' := [(4, .int 0), (3, .ref o), (2, .ref hm), (1, .ref hc), (0, .ref b)]) hx hb dL_law_21 hl (by decide) rfl (fun ls hl => ?_)
  have hpm : ((o, (.inl (cy 2, 1, .inr (.inl (fun _ => (0 : Int64)))) : va_E)) :: wM cy (adM hm qm) (wC cy (adM hc qc) [] S0) M0).Perm (wO cy (adM hc qc) o (wM cy (adM hm qm) [] M0) (fun _ => 0) S0) :=
    (List.perm_append_singleton (outE cy o (fun _ => (0 : Int64))) (wM cy (adM hm qm) (wC cy (adM hc qc) [] S0) M0)).symm.trans (W_perm cy (adM hc qc) (adM hm qm) o S0 M0 (fun _ => 0)).symm
  refine W.widen (k := 26) (n := 8322) (Nat.le_of_ble_eq_true rfl) (Nat.le_of_ble_eq_true rfl) ?_
  exact W.cs (by omega) (by omega) (law_loop (ad := adM hc qc) (am := adM hm qm) (o := o) hfl hL hX hbl hr C hok 26 8322 (by decide) (by decide) (L + 2) 0 (by omega) (by omega) S0 M0 (fun _ => 0) hI H locs ⟨hP.perm hpm, hD.perm hpm, hS⟩ ls (lv_sub hl [4, 3, 2, 1, 0] rfl))
