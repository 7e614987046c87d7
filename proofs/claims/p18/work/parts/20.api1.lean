noncomputable def fX3_isOutside (S : SC) (x0 : Int32) (x1 : Int32) (x2 : Int32) : Option Int32 :=
  if x0 < x1 then
    some 1
  else
    if x0 ≤ x2 then
      some 0
    else
      some 1
set_option maxHeartbeats 4000000 in
set_option maxRecDepth 100000 in
theorem kX3_isOutside (l : Launch) (D : va_G) (cy : Nat → ClassId) (ad : Nat → Nat) (Xr : va_W) (S : SC) (x0 : Int32) (x1 : Int32) (x2 : Int32) (r : Int32) (hf : fX3_isOutside S x0 x1 x2 = some r) : CG l D cy (wC cy ad Xr) yX3_isOutside wsX3_isOutside ({ frames := 0, cells := 0, slots := 0, locals := 0 } : Room) [.int x0, .int x1, .int x2] S (some (.int r)) S := by
  refine CG.of (cc := cX3_isOutside) (maxL := 3) (ret := (some .boolean)) (by decide +kernel) rfl (Nat.le_of_ble_eq_true rfl) ?_
  intro p e s m below meth c A ls X hr T hl
  obtain ⟨hx, hb, hml, hown, hts, hlk, hK, hA, hwA⟩ := id X
  have hl : lv_has ls 3 [(0, .int x0), (1, .int x1), (2, .int x2)] := hl
  unfold fX3_isOutside at hf
  refine lv_iload_n hx hb dX3_isOutside_0 rfl (lv_at hl 0 rfl) ?_
  refine lv_iload_n hx hb dX3_isOutside_1 rfl (lv_at hl 1 rfl) ?_
  refine lv_icmp_lt (tgt := 10) hx hb dX3_isOutside_2 (by decide) (fun hc => ?_) (fun hc => ?_)
  · replace hf := ifp hc hf
    refine lv_iconst (v := 1) hx hb dX3_isOutside_10 (by decide) ?_
    refine lv_goto (tgt := 15) hx hb dX3_isOutside_11 (by decide) ?_
    exact rf_z hf X T hr (Or.inr rfl) dX3_isOutside_15
  · replace hf := ifn hc hf
    refine lv_iload_n hx hb dX3_isOutside_5 rfl (lv_at hl 0 rfl) ?_
    refine lv_iload_n hx hb dX3_isOutside_6 rfl (lv_at hl 2 rfl) ?_
    refine lv_icmp_le (tgt := 14) hx hb dX3_isOutside_7 (by decide) (fun hc => ?_) (fun hc => ?_)
    · replace hf := ifp hc hf
      refine lv_iconst (v := 0) hx hb dX3_isOutside_14 (by decide) ?_
      exact rf_z hf X T hr (Or.inl rfl) dX3_isOutside_15
    · replace hf := ifn hc hf
      refine lv_iconst (v := 1) hx hb dX3_isOutside_10 (by decide) ?_
      refine lv_goto (tgt := 15) hx hb dX3_isOutside_11 (by decide) ?_
      exact rf_z hf X T hr (Or.inr rfl) dX3_isOutside_15

noncomputable def fX3_requireCell (S : SC) (x1 : Int32) : Option (Unit ⊕ Nat) :=
  bnd (fX3_isOutside S x1 0 ((S.1 0) - 1)) fun v2 =>
  if v2 = 0 then
    some (.inl ())
  else
    some (.inr 2)
set_option maxHeartbeats 4000000 in
set_option maxRecDepth 100000 in
theorem kX3_requireCell (l : Launch) (hfl : l.stackTraces = false) (t1 t2 : Nat) (D : va_G) (cy : Nat → ClassId) (ad : Nat → Nat) (Xr : va_W) (S : SC) (x1 : Int32) (r : (Unit ⊕ Nat)) (hf : fX3_requireCell S x1 = some r) : CT l t1 t2 D cy (wC cy ad Xr) yX3_requireCell wsX3_requireCell ({ frames := 6, cells := 1, slots := 6, locals := 90 } : Room) [.ref (ad 0), .int x1] S (resU r) S := by
  refine CT.of (cc := cX3_requireCell) (maxL := 2) (ret := none) (by decide +kernel) rfl (Nat.le_of_ble_eq_true rfl) ?_
  intro p e s m below meth c A ls X hr T hl hX htab
  obtain ⟨hx, hb, hml, hown, hts, hlk, hK, hA, hwA⟩ := id X
  have hl : lv_has ls 2 [(0, .ref (ad 0)), (1, .int x1)] := hl
  have hin_X0 : ∀ w ∈ u_ws RX0 TX0 13, w ∈ wsX3_requireCell := fun w h => (List.mem_cons_of_mem _ (List.mem_append_left _ (List.mem_append_right _ h)))
  have hin_X3 : ∀ w ∈ u_ws RX3 TX3 3, w ∈ wsX3_requireCell := fun w h => (List.mem_cons_of_mem _ (List.mem_append_left _ (List.mem_append_left _ (List.mem_append_right _ h))))
  have hg_112 : ∀ w ∈ (vx_atS RX3 112 "java/lang/IndexOutOfBoundsException" ["java/lang/RuntimeException", "java/lang/Exception"]).filter goodWord, w.before [.ref (ad 0), .int x1].toArray s = true := fun w h => hts w (List.mem_cons_of_mem _ (List.mem_append_right _ h))
  unfold fX3_requireCell at hf
  refine lv_iload_n hx hb dX3_requireCell_0 rfl (lv_at hl 1 rfl) ?_
  refine lv_iconst (v := 0) hx hb dX3_requireCell_1 (by decide) ?_
  refine lv_aload_n hx hb dX3_requireCell_2 rfl (lv_at hl 0 rfl) ?_
  refine va_get (D := D) (ci := 3) (v := .ref (ad 1)) (C := RX3) (T := TX3) (N := 3) hx hb hts hin_X3 hown hK.1 T.1 15 rfl rfl 0 (by decide) (hts _ (List.mem_of_getElem? (i := 3) rfl)) (fun _ h9 => h9) rfl dX3_requireCell_3 ?_
  refine va_getN (D := D) (ci := 0) (v := .int (S.1 0)) (C := RX0) (T := TX0) (N := 13) hx hb hts hin_X0 hown hK.1 T.1 14 rfl rfl 5 (by decide) (va_Nw.use rfl (hK.2 _ (List.mem_of_getElem? (i := 1) rfl))) (fun _ h9 => h9) rfl dX3_requireCell_6 ?_
  refine lv_iconst (v := 1) hx hb dX3_requireCell_9 (by decide) ?_
  refine lv_isub hx hb dX3_requireCell_10 ?_
  obtain ⟨v2, h1, hf⟩ := bnd_inv hf
  refine cg_S (As := [.int x1, .int 0, .int ((S.1 0) - 1)]) (rest := []) X T (kX3_isOutside l D cy ad Xr S x1 0 ((S.1 0) - 1) v2 h1) (va_cwS 3 hts gX3_requireCell_X3_isOutside rfl rfl rfl (by decide +kernel) ⟨Nat.le_of_ble_eq_true rfl, Nat.le_of_ble_eq_true rfl⟩) rfl hl.1 rfl (Nat.le_of_ble_eq_true rfl) dX3_requireCell_11 ⟨Nat.le_of_ble_eq_true rfl, Nat.le_of_ble_eq_true rfl⟩ (st2 := [.int v2]) (pc2 := 14) rfl rfl (fun H locs T => ?_)
  refine lv_if_eq (tgt := 27) hx hb dX3_requireCell_14 (by decide) (fun hc => ?_) (fun hc => ?_)
  · replace hf := ifp hc hf
    exact tf_v hf X T hr dX3_requireCell_27 (Nat.le_of_ble_eq_true rfl) (Nat.le_of_ble_eq_true rfl)
  · replace hf := ifn hc hf
    refine qU (Option.some.inj hf).symm ?_
    exact thr_S (ik := 108) (is := 145) (ic := 112) (k := 2) (text := "no such cell") (cls := "java/lang/IndexOutOfBoundsException") X hX T hfl htab rfl (by decide +kernel) (hts _ (List.mem_of_getElem? (i := 1) rfl)) (hts _ (List.mem_of_getElem? (i := 2) rfl)) (List.mem_of_getElem? (i := 10) rfl) hg_112 (by decide +kernel) (by decide +kernel) hl.1 dX3_requireCell_17 dX3_requireCell_20 dX3_requireCell_21 dX3_requireCell_23 dX3_requireCell_26 (Nat.le_of_ble_eq_true rfl) (Nat.le_of_ble_eq_true rfl) (Nat.le_of_ble_eq_true rfl) (Nat.le_of_ble_eq_true rfl) (Nat.le_of_ble_eq_true rfl) (Nat.le_of_ble_eq_true rfl)

noncomputable def fX3_requireAllPlaced (S : SC) : Option (Unit ⊕ Nat) :=
  bnd (fX0_isSet S) fun v2 =>
  if v2 = 0 then
    some (.inr 1)
  else
    some (.inl ())
set_option maxHeartbeats 4000000 in
set_option maxRecDepth 100000 in
theorem kX3_requireAllPlaced (l : Launch) (hfl : l.stackTraces = false) (t1 t2 : Nat) (D : va_G) (cy : Nat → ClassId) (ad : Nat → Nat) (Xr : va_W) (S : SC) (r : (Unit ⊕ Nat)) (hf : fX3_requireAllPlaced S = some r) : CT l t1 t2 D cy (wC cy ad Xr) yX3_requireAllPlaced wsX3_requireAllPlaced ({ frames := 6, cells := 1, slots := 6, locals := 90 } : Room) [.ref (ad 0)] S (resU r) S := by
  refine CT.of (cc := cX3_requireAllPlaced) (maxL := 1) (ret := none) (by decide +kernel) rfl (Nat.le_of_ble_eq_true rfl) ?_
  intro p e s m below meth c A ls X hr T hl hX htab
  obtain ⟨hx, hb, hml, hown, hts, hlk, hK, hA, hwA⟩ := id X
  have hl : lv_has ls 1 [(0, .ref (ad 0))] := hl
  have hin_X3 : ∀ w ∈ u_ws RX3 TX3 3, w ∈ wsX3_requireAllPlaced := fun w h => (List.mem_cons_of_mem _ (List.mem_append_left _ (List.mem_append_left _ (List.mem_append_right _ h))))
  have hg_69 : ∀ w ∈ (vx_atS RX3 69 "java/lang/IllegalStateException" ["java/lang/RuntimeException", "java/lang/Exception"]).filter goodWord, w.before [.ref (ad 0)].toArray s = true := fun w h => hts w (List.mem_cons_of_mem _ (List.mem_append_right _ h))
  unfold fX3_requireAllPlaced at hf
  refine lv_aload_n hx hb dX3_requireAllPlaced_0 rfl (lv_at hl 0 rfl) ?_
  refine va_get (D := D) (ci := 3) (v := .ref (ad 1)) (C := RX3) (T := TX3) (N := 3) hx hb hts hin_X3 hown hK.1 T.1 15 rfl rfl 0 (by decide) (hts _ (List.mem_of_getElem? (i := 3) rfl)) (fun _ h9 => h9) rfl dX3_requireAllPlaced_1 ?_
  obtain ⟨v2, h1, hf⟩ := bnd_inv hf
  refine cg_V (q0 := 14) (ci := 0) (As := []) (rest := []) X T (kX0_isSet l D cy ad Xr S v2 h1) (cwV 0 hts gX3_requireAllPlaced_X0_isSet rfl rfl rfl (by decide +kernel) ⟨Nat.le_of_ble_eq_true rfl, Nat.le_of_ble_eq_true rfl⟩) rfl rfl rfl hl.1 rfl (Nat.le_of_ble_eq_true rfl) dX3_requireAllPlaced_4 ⟨Nat.le_of_ble_eq_true rfl, Nat.le_of_ble_eq_true rfl⟩ (st2 := [.int v2]) (pc2 := 7) rfl rfl (fun H locs T => ?_)
  refine lv_if_ne (tgt := 20) hx hb dX3_requireAllPlaced_7 (by decide) (fun hc => ?_) (fun hc => ?_)
  · replace hf := ifn hc hf
    exact tf_v hf X T hr dX3_requireAllPlaced_20 (Nat.le_of_ble_eq_true rfl) (Nat.le_of_ble_eq_true rfl)
  · replace hf := ifp hc hf
    refine qU (Option.some.inj hf).symm ?_
    exact thr_S (ik := 65) (is := 147) (ic := 69) (k := 1) (text := "not all builders are placed") (cls := "java/lang/IllegalStateException") X hX T hfl htab rfl (by decide +kernel) (hts _ (List.mem_of_getElem? (i := 1) rfl)) (hts _ (List.mem_of_getElem? (i := 2) rfl)) (List.mem_of_getElem? (i := 11) rfl) hg_69 (by decide +kernel) (by decide +kernel) hl.1 dX3_requireAllPlaced_10 dX3_requireAllPlaced_13 dX3_requireAllPlaced_14 dX3_requireAllPlaced_16 dX3_requireAllPlaced_19 (Nat.le_of_ble_eq_true rfl) (Nat.le_of_ble_eq_true rfl) (Nat.le_of_ble_eq_true rfl) (Nat.le_of_ble_eq_true rfl) (Nat.le_of_ble_eq_true rfl) (Nat.le_of_ble_eq_true rfl)

noncomputable def fX3_requireAhead (S : SC) (x1 : Int32) (x2 : Int32) : Option (Unit ⊕ Nat) :=
  bnd (fX3_isOutside S x1 x2 3) fun v2 =>
  if v2 = 0 then
    bndx (fX3_requireAllPlaced S) fun v4 =>
    if S.1 6 = (-1) then
      if x1 = 3 then
        if S.1 0 ≤ 8 then
          some (.inl ())
        else
          some (.inr 1)
      else
        some (.inl ())
    else
      some (.inr 1)
  else
    some (.inr 0)
set_option maxHeartbeats 4000000 in
set_option maxRecDepth 100000 in
theorem kX3_requireAhead (l : Launch) (hfl : l.stackTraces = false) (t1 t2 : Nat) (D : va_G) (cy : Nat → ClassId) (ad : Nat → Nat) (Xr : va_W) (S : SC) (x1 : Int32) (x2 : Int32) (r : (Unit ⊕ Nat)) (hf : fX3_requireAhead S x1 x2 = some r) : CT l t1 t2 D cy (wC cy ad Xr) yX3_requireAhead wsX3_requireAhead ({ frames := 7, cells := 2, slots := 12, locals := 110 } : Room) [.ref (ad 0), .int x1, .int x2] S (resU r) S := by
  refine CT.of (cc := cX3_requireAhead) (maxL := 3) (ret := none) (by decide +kernel) rfl (Nat.le_of_ble_eq_true rfl) ?_
  intro p e s m below meth c A ls X hr T hl hX htab
  obtain ⟨hx, hb, hml, hown, hts, hlk, hK, hA, hwA⟩ := id X
  have hl : lv_has ls 3 [(0, .ref (ad 0)), (1, .int x1), (2, .int x2)] := hl
  have hin_X0 : ∀ w ∈ u_ws RX0 TX0 13, w ∈ wsX3_requireAhead := fun w h => (List.mem_cons_of_mem _ (List.mem_append_left _ (List.mem_append_left _ (List.mem_append_right _ h))))
  have hin_X3 : ∀ w ∈ u_ws RX3 TX3 3, w ∈ wsX3_requireAhead := fun w h => (List.mem_cons_of_mem _ (List.mem_append_left _ (List.mem_append_left _ (List.mem_append_left _ (List.mem_append_right _ h)))))
  have hg_42 : ∀ w ∈ (vx_atS RX3 42 "java/lang/IllegalArgumentException" ["java/lang/RuntimeException", "java/lang/Exception"]).filter goodWord, w.before [.ref (ad 0), .int x1, .int x2].toArray s = true := fun w h => hts w (List.mem_cons_of_mem _ (List.mem_append_left _ (List.mem_append_right _ h)))
  have hg_69 : ∀ w ∈ (vx_atS RX3 69 "java/lang/IllegalStateException" ["java/lang/RuntimeException", "java/lang/Exception"]).filter goodWord, w.before [.ref (ad 0), .int x1, .int x2].toArray s = true := fun w h => hts w (List.mem_cons_of_mem _ (List.mem_append_right _ h))
  unfold fX3_requireAhead at hf
  refine lv_iload_n hx hb dX3_requireAhead_0 rfl (lv_at hl 1 rfl) ?_
  refine lv_iload_n hx hb dX3_requireAhead_1 rfl (lv_at hl 2 rfl) ?_
  refine lv_iconst (v := 3) hx hb dX3_requireAhead_2 (by decide) ?_
  obtain ⟨v2, h1, hf⟩ := bnd_inv hf
  refine cg_S (As := [.int x1, .int x2, .int 3]) (rest := []) X T (kX3_isOutside l D cy ad Xr S x1 x2 3 v2 h1) (va_cwS 3 hts gX3_requireAhead_X3_isOutside rfl rfl rfl (by decide +kernel) ⟨Nat.le_of_ble_eq_true rfl, Nat.le_of_ble_eq_true rfl⟩) rfl hl.1 rfl (Nat.le_of_ble_eq_true rfl) dX3_requireAhead_3 ⟨Nat.le_of_ble_eq_true rfl, Nat.le_of_ble_eq_true rfl⟩ (st2 := [.int v2]) (pc2 := 6) rfl rfl (fun H locs T => ?_)
  refine lv_if_eq (tgt := 19) hx hb dX3_requireAhead_6 (by decide) (fun hc => ?_) (fun hc => ?_)
  · replace hf := ifp hc hf
    refine lv_aload_n hx hb dX3_requireAhead_19 rfl (lv_at hl 0 rfl) ?_
    rcases (bndx_inv hf).symm with ⟨e9, h3, hf⟩ | ⟨v4, h3, hf⟩
    · refine qU hf ?_
      exact ct_Vx (k := e9) (q0 := 15) (ci := 3) (As := []) (rest := []) X hX T (kX3_requireAllPlaced l hfl t1 t2 D cy ad Xr S (.inr e9) h3) (cwV 0 hts gX3_requireAhead_X3_requireAllPlaced rfl rfl rfl (by decide +kernel) ⟨Nat.le_of_ble_eq_true rfl, Nat.le_of_ble_eq_true rfl⟩) rfl rfl rfl hl.1 rfl (Nat.le_of_ble_eq_true rfl) dX3_requireAhead_20 ⟨Nat.le_of_ble_eq_true rfl, Nat.le_of_ble_eq_true rfl⟩ htab (Nat.le_of_ble_eq_true rfl) (Nat.le_of_ble_eq_true rfl)
    refine ct_Vi (v := none) (q0 := 15) (ci := 3) (As := []) (rest := []) X hX T (kX3_requireAllPlaced l hfl t1 t2 D cy ad Xr S (.inl v4) h3) (cwV 0 hts gX3_requireAhead_X3_requireAllPlaced rfl rfl rfl (by decide +kernel) ⟨Nat.le_of_ble_eq_true rfl, Nat.le_of_ble_eq_true rfl⟩) rfl rfl rfl hl.1 rfl (Nat.le_of_ble_eq_true rfl) dX3_requireAhead_20 ⟨Nat.le_of_ble_eq_true rfl, Nat.le_of_ble_eq_true rfl⟩ (st2 := []) (pc2 := 23) (c2 := 1) (s2 := 6) rfl rfl rfl rfl (fun H locs T => ?_)
    refine lv_aload_n hx hb dX3_requireAhead_23 rfl (lv_at hl 0 rfl) ?_
    refine va_get (D := D) (ci := 3) (v := .ref (ad 1)) (C := RX3) (T := TX3) (N := 3) hx hb hts hin_X3 hown hK.1 T.1 15 rfl rfl 0 (by decide) (hts _ (List.mem_of_getElem? (i := 5) rfl)) (fun _ h9 => h9) rfl dX3_requireAhead_24 ?_
    refine va_getN (D := D) (ci := 0) (v := .int (S.1 6)) (C := RX0) (T := TX0) (N := 13) hx hb hts hin_X0 hown hK.1 T.1 14 rfl rfl 11 (by decide) (va_Nw.use rfl (hK.2 _ (List.mem_of_getElem? (i := 2) rfl))) (fun _ h9 => h9) rfl dX3_requireAhead_27 ?_
    refine lv_iconst (v := (-1)) hx hb dX3_requireAhead_30 (by decide) ?_
    refine lv_icmp_eq (tgt := 44) hx hb dX3_requireAhead_31 (by decide) (fun hc => ?_) (fun hc => ?_)
    · replace hf := ifp hc hf
      refine lv_iload_n hx hb dX3_requireAhead_44 rfl (lv_at hl 1 rfl) ?_
      refine lv_iconst (v := 3) hx hb dX3_requireAhead_45 (by decide) ?_
      refine lv_icmp_ne (tgt := 71) hx hb dX3_requireAhead_46 (by decide) (fun hc => ?_) (fun hc => ?_)
      · replace hf := ifn hc hf
        exact tf_v hf X T hr dX3_requireAhead_71 (Nat.le_of_ble_eq_true rfl) (Nat.le_of_ble_eq_true rfl)
      · replace hf := ifp hc hf
        refine lv_aload_n hx hb dX3_requireAhead_49 rfl (lv_at hl 0 rfl) ?_
        refine va_get (D := D) (ci := 3) (v := .ref (ad 1)) (C := RX3) (T := TX3) (N := 3) hx hb hts hin_X3 hown hK.1 T.1 15 rfl rfl 0 (by decide) (hts _ (List.mem_of_getElem? (i := 5) rfl)) (fun _ h9 => h9) rfl dX3_requireAhead_50 ?_
        refine va_getN (D := D) (ci := 0) (v := .int (S.1 0)) (C := RX0) (T := TX0) (N := 13) hx hb hts hin_X0 hown hK.1 T.1 14 rfl rfl 5 (by decide) (va_Nw.use rfl (hK.2 _ (List.mem_of_getElem? (i := 1) rfl))) (fun _ h9 => h9) rfl dX3_requireAhead_53 ?_
        refine lv_bipush (v := 8) hx hb dX3_requireAhead_56 (by decide) ?_
        refine lv_icmp_le (tgt := 71) hx hb dX3_requireAhead_58 (by decide) (fun hc => ?_) (fun hc => ?_)
        · replace hf := ifp hc hf
          exact tf_v hf X T hr dX3_requireAhead_71 (Nat.le_of_ble_eq_true rfl) (Nat.le_of_ble_eq_true rfl)
        · replace hf := ifn hc hf
          refine qU (Option.some.inj hf).symm ?_
          exact thr_S (ik := 65) (is := 153) (ic := 69) (k := 1) (text := "the board is too large to look so far ahead") (cls := "java/lang/IllegalStateException") X hX T hfl htab rfl (by decide +kernel) (hts _ (List.mem_of_getElem? (i := 3) rfl)) (hts _ (List.mem_of_getElem? (i := 4) rfl)) (List.mem_of_getElem? (i := 14) rfl) hg_69 (by decide +kernel) (by decide +kernel) hl.1 dX3_requireAhead_61 dX3_requireAhead_64 dX3_requireAhead_65 dX3_requireAhead_67 dX3_requireAhead_70 (Nat.le_of_ble_eq_true rfl) (Nat.le_of_ble_eq_true rfl) (Nat.le_of_ble_eq_true rfl) (Nat.le_of_ble_eq_true rfl) (Nat.le_of_ble_eq_true rfl) (Nat.le_of_ble_eq_true rfl)
    · replace hf := ifn hc hf
      refine qU (Option.some.inj hf).symm ?_
      exact thr_S (ik := 65) (is := 151) (ic := 69) (k := 1) (text := "the game is over") (cls := "java/lang/IllegalStateException") X hX T hfl htab rfl (by decide +kernel) (hts _ (List.mem_of_getElem? (i := 3) rfl)) (hts _ (List.mem_of_getElem? (i := 4) rfl)) (List.mem_of_getElem? (i := 13) rfl) hg_69 (by decide +kernel) (by decide +kernel) hl.1 dX3_requireAhead_34 dX3_requireAhead_37 dX3_requireAhead_38 dX3_requireAhead_40 dX3_requireAhead_43 (Nat.le_of_ble_eq_true rfl) (Nat.le_of_ble_eq_true rfl) (Nat.le_of_ble_eq_true rfl) (Nat.le_of_ble_eq_true rfl) (Nat.le_of_ble_eq_true rfl) (Nat.le_of_ble_eq_true rfl)
  · replace hf := ifn hc hf
    refine qU (Option.some.inj hf).symm ?_
    exact thr_S (ik := 38) (is := 149) (ic := 42) (k := 0) (text := "turns out of range") (cls := "java/lang/IllegalArgumentException") X hX T hfl htab rfl (by decide +kernel) (hts _ (List.mem_of_getElem? (i := 1) rfl)) (hts _ (List.mem_of_getElem? (i := 2) rfl)) (List.mem_of_getElem? (i := 12) rfl) hg_42 (by decide +kernel) (by decide +kernel) hl.1 dX3_requireAhead_9 dX3_requireAhead_12 dX3_requireAhead_13 dX3_requireAhead_15 dX3_requireAhead_18 (Nat.le_of_ble_eq_true rfl) (Nat.le_of_ble_eq_true rfl) (Nat.le_of_ble_eq_true rfl) (Nat.le_of_ble_eq_true rfl) (Nat.le_of_ble_eq_true rfl) (Nat.le_of_ble_eq_true rfl)

noncomputable def fX3_onTurn (S : SC) : Option Int32 :=
  bnd (fX0_mover S) fun v2 =>
  some v2
set_option maxHeartbeats 4000000 in
set_option maxRecDepth 100000 in
theorem kX3_onTurn (l : Launch) (D : va_G) (cy : Nat → ClassId) (ad : Nat → Nat) (Xr : va_W) (S : SC) (r : Int32) (hf : fX3_onTurn S = some r) : CG l D cy (wC cy ad Xr) yX3_onTurn wsX3_onTurn ({ frames := 2, cells := 0, slots := 0, locals := 40 } : Room) [.ref (ad 0)] S (some (.int r)) S := by
  refine CG.of (cc := cX3_onTurn) (maxL := 1) (ret := (some .int)) (by decide +kernel) rfl (Nat.le_of_ble_eq_true rfl) ?_
  intro p e s m below meth c A ls X hr T hl
  obtain ⟨hx, hb, hml, hown, hts, hlk, hK, hA, hwA⟩ := id X
  have hl : lv_has ls 1 [(0, .ref (ad 0))] := hl
  have hin_X3 : ∀ w ∈ u_ws RX3 TX3 3, w ∈ wsX3_onTurn := fun w h => (List.mem_cons_of_mem _ (List.mem_append_left _ (List.mem_append_right _ h)))
  unfold fX3_onTurn at hf
  refine lv_aload_n hx hb dX3_onTurn_0 rfl (lv_at hl 0 rfl) ?_
  refine va_get (D := D) (ci := 3) (v := .ref (ad 1)) (C := RX3) (T := TX3) (N := 3) hx hb hts hin_X3 hown hK.1 T.1 15 rfl rfl 0 (by decide) (hts _ (List.mem_of_getElem? (i := 1) rfl)) (fun _ h9 => h9) rfl dX3_onTurn_1 ?_
  obtain ⟨v2, h1, hf⟩ := bnd_inv hf
  refine cg_V (q0 := 14) (ci := 0) (As := []) (rest := []) X T (kX0_mover l D cy ad Xr S v2 h1) (cwV 0 hts gX3_onTurn_X0_mover rfl rfl rfl (by decide +kernel) ⟨Nat.le_of_ble_eq_true rfl, Nat.le_of_ble_eq_true rfl⟩) rfl rfl rfl hl.1 rfl (Nat.le_of_ble_eq_true rfl) dX3_onTurn_4 ⟨Nat.zero_le _, Nat.zero_le _⟩ (st2 := [.int v2]) (pc2 := 7) rfl rfl (fun H locs T => ?_)
  exact rf_i hf X T hr dX3_onTurn_7

noncomputable def fX3_winner (S : SC) : Option Int32 :=
  some (S.1 6)
set_option maxHeartbeats 4000000 in
set_option maxRecDepth 100000 in
theorem kX3_winner (l : Launch) (D : va_G) (cy : Nat → ClassId) (ad : Nat → Nat) (Xr : va_W) (S : SC) (r : Int32) (hf : fX3_winner S = some r) : CG l D cy (wC cy ad Xr) yX3_winner wsX3_winner ({ frames := 0, cells := 0, slots := 0, locals := 0 } : Room) [.ref (ad 0)] S (some (.int r)) S := by
  refine CG.of (cc := cX3_winner) (maxL := 1) (ret := (some .int)) (by decide +kernel) rfl (Nat.le_of_ble_eq_true rfl) ?_
  intro p e s m below meth c A ls X hr T hl
  obtain ⟨hx, hb, hml, hown, hts, hlk, hK, hA, hwA⟩ := id X
  have hl : lv_has ls 1 [(0, .ref (ad 0))] := hl
  have hin_X0 : ∀ w ∈ u_ws RX0 TX0 13, w ∈ wsX3_winner := fun w h => (List.mem_cons_of_mem _ (List.mem_append_right _ h))
  have hin_X3 : ∀ w ∈ u_ws RX3 TX3 3, w ∈ wsX3_winner := fun w h => (List.mem_cons_of_mem _ (List.mem_append_left _ (List.mem_append_right _ h)))
  unfold fX3_winner at hf
  refine lv_aload_n hx hb dX3_winner_0 rfl (lv_at hl 0 rfl) ?_
  refine va_get (D := D) (ci := 3) (v := .ref (ad 1)) (C := RX3) (T := TX3) (N := 3) hx hb hts hin_X3 hown hK.1 T.1 15 rfl rfl 0 (by decide) (hts _ (List.mem_of_getElem? (i := 1) rfl)) (fun _ h9 => h9) rfl dX3_winner_1 ?_
  refine va_getN (D := D) (ci := 0) (v := .int (S.1 6)) (C := RX0) (T := TX0) (N := 13) hx hb hts hin_X0 hown hK.1 T.1 14 rfl rfl 11 (by decide) (va_Nw.use rfl (hK.2 _ (List.mem_of_getElem? (i := 2) rfl))) (fun _ h9 => h9) rfl dX3_winner_4 ?_
  exact rf_i hf X T hr dX3_winner_7

noncomputable def fX3_played (S : SC) : Option Int32 :=
  some (S.1 5)
set_option maxHeartbeats 4000000 in
set_option maxRecDepth 100000 in
theorem kX3_played (l : Launch) (D : va_G) (cy : Nat → ClassId) (ad : Nat → Nat) (Xr : va_W) (S : SC) (r : Int32) (hf : fX3_played S = some r) : CG l D cy (wC cy ad Xr) yX3_played wsX3_played ({ frames := 0, cells := 0, slots := 0, locals := 0 } : Room) [.ref (ad 0)] S (some (.int r)) S := by
  refine CG.of (cc := cX3_played) (maxL := 1) (ret := (some .int)) (by decide +kernel) rfl (Nat.le_of_ble_eq_true rfl) ?_
  intro p e s m below meth c A ls X hr T hl
  obtain ⟨hx, hb, hml, hown, hts, hlk, hK, hA, hwA⟩ := id X
  have hl : lv_has ls 1 [(0, .ref (ad 0))] := hl
  have hin_X0 : ∀ w ∈ u_ws RX0 TX0 13, w ∈ wsX3_played := fun w h => (List.mem_cons_of_mem _ (List.mem_append_right _ h))
  have hin_X3 : ∀ w ∈ u_ws RX3 TX3 3, w ∈ wsX3_played := fun w h => (List.mem_cons_of_mem _ (List.mem_append_left _ (List.mem_append_right _ h)))
  unfold fX3_played at hf
  refine lv_aload_n hx hb dX3_played_0 rfl (lv_at hl 0 rfl) ?_
  refine va_get (D := D) (ci := 3) (v := .ref (ad 1)) (C := RX3) (T := TX3) (N := 3) hx hb hts hin_X3 hown hK.1 T.1 15 rfl rfl 0 (by decide) (hts _ (List.mem_of_getElem? (i := 1) rfl)) (fun _ h9 => h9) rfl dX3_played_1 ?_
  refine va_getN (D := D) (ci := 0) (v := .int (S.1 5)) (C := RX0) (T := TX0) (N := 13) hx hb hts hin_X0 hown hK.1 T.1 14 rfl rfl 10 (by decide) (va_Nw.use rfl (hK.2 _ (List.mem_of_getElem? (i := 3) rfl))) (fun _ h9 => h9) rfl dX3_played_4 ?_
  exact rf_i hf X T hr dX3_played_7

noncomputable def fX3_height (S : SC) (x1 : Int32) : Option (Int32 ⊕ Nat) :=
  bndx (fX3_requireCell S x1) fun v2 =>
  bnd (fX0_storeysOf S x1) fun v4 =>
  some (.inl v4)
set_option maxHeartbeats 4000000 in
set_option maxRecDepth 100000 in
theorem kX3_height (l : Launch) (hfl : l.stackTraces = false) (t1 t2 : Nat) (D : va_G) (cy : Nat → ClassId) (ad : Nat → Nat) (Xr : va_W) (S : SC) (x1 : Int32) (r : (Int32 ⊕ Nat)) (hf : fX3_height S x1 = some r) : CT l t1 t2 D cy (wC cy ad Xr) yX3_height wsX3_height ({ frames := 7, cells := 1, slots := 6, locals := 111 } : Room) [.ref (ad 0), .int x1] S (resI r) S := by
  refine CT.of (cc := cX3_height) (maxL := 2) (ret := (some .int)) (by decide +kernel) rfl (Nat.le_of_ble_eq_true rfl) ?_
  intro p e s m below meth c A ls X hr T hl hX htab
  obtain ⟨hx, hb, hml, hown, hts, hlk, hK, hA, hwA⟩ := id X
  have hl : lv_has ls 2 [(0, .ref (ad 0)), (1, .int x1)] := hl
  have hin_X3 : ∀ w ∈ u_ws RX3 TX3 3, w ∈ wsX3_height := fun w h => (List.mem_cons_of_mem _ (List.mem_append_left _ (List.mem_append_left _ (List.mem_append_right _ h))))
  unfold fX3_height at hf
  refine lv_aload_n hx hb dX3_height_0 rfl (lv_at hl 0 rfl) ?_
  refine lv_iload_n hx hb dX3_height_1 rfl (lv_at hl 1 rfl) ?_
  rcases (bndx_inv hf).symm with ⟨e9, h1, hf⟩ | ⟨v2, h1, hf⟩
  · refine qI hf ?_
    exact ct_Vx (k := e9) (q0 := 15) (ci := 3) (As := [.int x1]) (rest := []) X hX T (kX3_requireCell l hfl t1 t2 D cy ad Xr S x1 (.inr e9) h1) (cwV 1 hts gX3_height_X3_requireCell rfl rfl rfl (by decide +kernel) ⟨Nat.le_of_ble_eq_true rfl, Nat.le_of_ble_eq_true rfl⟩) rfl rfl rfl hl.1 rfl (Nat.le_of_ble_eq_true rfl) dX3_height_2 ⟨Nat.le_of_ble_eq_true rfl, Nat.le_of_ble_eq_true rfl⟩ htab (Nat.le_of_ble_eq_true rfl) (Nat.le_of_ble_eq_true rfl)
  refine ct_Vi (v := none) (q0 := 15) (ci := 3) (As := [.int x1]) (rest := []) X hX T (kX3_requireCell l hfl t1 t2 D cy ad Xr S x1 (.inl v2) h1) (cwV 1 hts gX3_height_X3_requireCell rfl rfl rfl (by decide +kernel) ⟨Nat.le_of_ble_eq_true rfl, Nat.le_of_ble_eq_true rfl⟩) rfl rfl rfl hl.1 rfl (Nat.le_of_ble_eq_true rfl) dX3_height_2 ⟨Nat.le_of_ble_eq_true rfl, Nat.le_of_ble_eq_true rfl⟩ (st2 := []) (pc2 := 5) (c2 := 1) (s2 := 6) rfl rfl rfl rfl (fun H locs T => ?_)
  refine lv_aload_n hx hb dX3_height_5 rfl (lv_at hl 0 rfl) ?_
  refine va_get (D := D) (ci := 3) (v := .ref (ad 1)) (C := RX3) (T := TX3) (N := 3) hx hb hts hin_X3 hown hK.1 T.1 15 rfl rfl 0 (by decide) (hts _ (List.mem_of_getElem? (i := 1) rfl)) (fun _ h9 => h9) rfl dX3_height_6 ?_
  refine lv_iload_n hx hb dX3_height_9 rfl (lv_at hl 1 rfl) ?_
  obtain ⟨v4, h3, hf⟩ := bnd_inv hf
  refine cg_V (q0 := 14) (ci := 0) (As := [.int x1]) (rest := []) X T (kX0_storeysOf l D cy ad Xr S x1 v4 h3) (cwV 1 hts gX3_height_X0_storeysOf rfl rfl rfl (by decide +kernel) ⟨Nat.le_of_ble_eq_true rfl, Nat.le_of_ble_eq_true rfl⟩) rfl rfl rfl hl.1 rfl (Nat.le_of_ble_eq_true rfl) dX3_height_10 ⟨Nat.le_of_ble_eq_true rfl, Nat.le_of_ble_eq_true rfl⟩ (st2 := [.int v4]) (pc2 := 13) rfl rfl (fun H locs T => ?_)
  exact tf_i hf X T hr dX3_height_13 (Nat.le_of_ble_eq_true rfl) (Nat.le_of_ble_eq_true rfl)

noncomputable def fX3_builderAt (S : SC) (x1 : Int32) : Option (Int32 ⊕ Nat) :=
  bndx (fX3_requireCell S x1) fun v2 =>
  bnd (fX0_holderOf S x1) fun v4 =>
  some (.inl v4)
set_option maxHeartbeats 4000000 in
set_option maxRecDepth 100000 in
theorem kX3_builderAt (l : Launch) (hfl : l.stackTraces = false) (t1 t2 : Nat) (D : va_G) (cy : Nat → ClassId) (ad : Nat → Nat) (Xr : va_W) (S : SC) (x1 : Int32) (r : (Int32 ⊕ Nat)) (hf : fX3_builderAt S x1 = some r) : CT l t1 t2 D cy (wC cy ad Xr) yX3_builderAt wsX3_builderAt ({ frames := 7, cells := 1, slots := 6, locals := 111 } : Room) [.ref (ad 0), .int x1] S (resI r) S := by
  refine CT.of (cc := cX3_builderAt) (maxL := 2) (ret := (some .int)) (by decide +kernel) rfl (Nat.le_of_ble_eq_true rfl) ?_
  intro p e s m below meth c A ls X hr T hl hX htab
  obtain ⟨hx, hb, hml, hown, hts, hlk, hK, hA, hwA⟩ := id X
  have hl : lv_has ls 2 [(0, .ref (ad 0)), (1, .int x1)] := hl
  have hin_X3 : ∀ w ∈ u_ws RX3 TX3 3, w ∈ wsX3_builderAt := fun w h => (List.mem_cons_of_mem _ (List.mem_append_left _ (List.mem_append_left _ (List.mem_append_right _ h))))
  unfold fX3_builderAt at hf
  refine lv_aload_n hx hb dX3_builderAt_0 rfl (lv_at hl 0 rfl) ?_
  refine lv_iload_n hx hb dX3_builderAt_1 rfl (lv_at hl 1 rfl) ?_
  rcases (bndx_inv hf).symm with ⟨e9, h1, hf⟩ | ⟨v2, h1, hf⟩
  · refine qI hf ?_
    exact ct_Vx (k := e9) (q0 := 15) (ci := 3) (As := [.int x1]) (rest := []) X hX T (kX3_requireCell l hfl t1 t2 D cy ad Xr S x1 (.inr e9) h1) (cwV 1 hts gX3_builderAt_X3_requireCell rfl rfl rfl (by decide +kernel) ⟨Nat.le_of_ble_eq_true rfl, Nat.le_of_ble_eq_true rfl⟩) rfl rfl rfl hl.1 rfl (Nat.le_of_ble_eq_true rfl) dX3_builderAt_2 ⟨Nat.le_of_ble_eq_true rfl, Nat.le_of_ble_eq_true rfl⟩ htab (Nat.le_of_ble_eq_true rfl) (Nat.le_of_ble_eq_true rfl)
  refine ct_Vi (v := none) (q0 := 15) (ci := 3) (As := [.int x1]) (rest := []) X hX T (kX3_requireCell l hfl t1 t2 D cy ad Xr S x1 (.inl v2) h1) (cwV 1 hts gX3_builderAt_X3_requireCell rfl rfl rfl (by decide +kernel) ⟨Nat.le_of_ble_eq_true rfl, Nat.le_of_ble_eq_true rfl⟩) rfl rfl rfl hl.1 rfl (Nat.le_of_ble_eq_true rfl) dX3_builderAt_2 ⟨Nat.le_of_ble_eq_true rfl, Nat.le_of_ble_eq_true rfl⟩ (st2 := []) (pc2 := 5) (c2 := 1) (s2 := 6) rfl rfl rfl rfl (fun H locs T => ?_)
  refine lv_aload_n hx hb dX3_builderAt_5 rfl (lv_at hl 0 rfl) ?_
  refine va_get (D := D) (ci := 3) (v := .ref (ad 1)) (C := RX3) (T := TX3) (N := 3) hx hb hts hin_X3 hown hK.1 T.1 15 rfl rfl 0 (by decide) (hts _ (List.mem_of_getElem? (i := 1) rfl)) (fun _ h9 => h9) rfl dX3_builderAt_6 ?_
  refine lv_iload_n hx hb dX3_builderAt_9 rfl (lv_at hl 1 rfl) ?_
  obtain ⟨v4, h3, hf⟩ := bnd_inv hf
  refine cg_V (q0 := 14) (ci := 0) (As := [.int x1]) (rest := []) X T (kX0_holderOf l D cy ad Xr S x1 v4 h3) (cwV 1 hts gX3_builderAt_X0_holderOf rfl rfl rfl (by decide +kernel) ⟨Nat.le_of_ble_eq_true rfl, Nat.le_of_ble_eq_true rfl⟩) rfl rfl rfl hl.1 rfl (Nat.le_of_ble_eq_true rfl) dX3_builderAt_10 ⟨Nat.le_of_ble_eq_true rfl, Nat.le_of_ble_eq_true rfl⟩ (st2 := [.int v4]) (pc2 := 13) rfl rfl (fun H locs T => ?_)
  exact tf_i hf X T hr dX3_builderAt_13 (Nat.le_of_ble_eq_true rfl) (Nat.le_of_ble_eq_true rfl)

noncomputable def fX3_reached (S : SC) (x1 : Int32) : Option (Int32 ⊕ Nat) :=
  bnd (fX3_isOutside S x1 0 1) fun v2 =>
  if v2 = 0 then
    bnd (fX0_storeysUnder S x1) fun v4 =>
    some (.inl v4)
  else
    some (.inr 2)
set_option maxHeartbeats 4000000 in
set_option maxRecDepth 100000 in
theorem kX3_reached (l : Launch) (hfl : l.stackTraces = false) (t1 t2 : Nat) (D : va_G) (cy : Nat → ClassId) (ad : Nat → Nat) (Xr : va_W) (S : SC) (x1 : Int32) (r : (Int32 ⊕ Nat)) (hf : fX3_reached S x1 = some r) : CT l t1 t2 D cy (wC cy ad Xr) yX3_reached wsX3_reached ({ frames := 6, cells := 1, slots := 6, locals := 90 } : Room) [.ref (ad 0), .int x1] S (resI r) S := by
  refine CT.of (cc := cX3_reached) (maxL := 2) (ret := (some .int)) (by decide +kernel) rfl (Nat.le_of_ble_eq_true rfl) ?_
  intro p e s m below meth c A ls X hr T hl hX htab
  obtain ⟨hx, hb, hml, hown, hts, hlk, hK, hA, hwA⟩ := id X
  have hl : lv_has ls 2 [(0, .ref (ad 0)), (1, .int x1)] := hl
  have hin_X3 : ∀ w ∈ u_ws RX3 TX3 3, w ∈ wsX3_reached := fun w h => (List.mem_cons_of_mem _ (List.mem_append_left _ (List.mem_append_left _ (List.mem_append_right _ h))))
  have hg_112 : ∀ w ∈ (vx_atS RX3 112 "java/lang/IndexOutOfBoundsException" ["java/lang/RuntimeException", "java/lang/Exception"]).filter goodWord, w.before [.ref (ad 0), .int x1].toArray s = true := fun w h => hts w (List.mem_cons_of_mem _ (List.mem_append_right _ h))
  unfold fX3_reached at hf
  refine lv_iload_n hx hb dX3_reached_0 rfl (lv_at hl 1 rfl) ?_
  refine lv_iconst (v := 0) hx hb dX3_reached_1 (by decide) ?_
  refine lv_iconst (v := 1) hx hb dX3_reached_2 (by decide) ?_
  obtain ⟨v2, h1, hf⟩ := bnd_inv hf
  refine cg_S (As := [.int x1, .int 0, .int 1]) (rest := []) X T (kX3_isOutside l D cy ad Xr S x1 0 1 v2 h1) (va_cwS 3 hts gX3_reached_X3_isOutside rfl rfl rfl (by decide +kernel) ⟨Nat.le_of_ble_eq_true rfl, Nat.le_of_ble_eq_true rfl⟩) rfl hl.1 rfl (Nat.le_of_ble_eq_true rfl) dX3_reached_3 ⟨Nat.le_of_ble_eq_true rfl, Nat.le_of_ble_eq_true rfl⟩ (st2 := [.int v2]) (pc2 := 6) rfl rfl (fun H locs T => ?_)
  refine lv_if_eq (tgt := 19) hx hb dX3_reached_6 (by decide) (fun hc => ?_) (fun hc => ?_)
  · replace hf := ifp hc hf
    refine lv_aload_n hx hb dX3_reached_19 rfl (lv_at hl 0 rfl) ?_
    refine va_get (D := D) (ci := 3) (v := .ref (ad 1)) (C := RX3) (T := TX3) (N := 3) hx hb hts hin_X3 hown hK.1 T.1 15 rfl rfl 0 (by decide) (hts _ (List.mem_of_getElem? (i := 3) rfl)) (fun _ h9 => h9) rfl dX3_reached_20 ?_
    refine lv_iload_n hx hb dX3_reached_23 rfl (lv_at hl 1 rfl) ?_
    obtain ⟨v4, h3, hf⟩ := bnd_inv hf
    refine cg_V (q0 := 14) (ci := 0) (As := [.int x1]) (rest := []) X T (kX0_storeysUnder l D cy ad Xr S x1 v4 h3) (cwV 1 hts gX3_reached_X0_storeysUnder rfl rfl rfl (by decide +kernel) ⟨Nat.le_of_ble_eq_true rfl, Nat.le_of_ble_eq_true rfl⟩) rfl rfl rfl hl.1 rfl (Nat.le_of_ble_eq_true rfl) dX3_reached_24 ⟨Nat.le_of_ble_eq_true rfl, Nat.le_of_ble_eq_true rfl⟩ (st2 := [.int v4]) (pc2 := 27) rfl rfl (fun H locs T => ?_)
    exact tf_i hf X T hr dX3_reached_27 (Nat.le_of_ble_eq_true rfl) (Nat.le_of_ble_eq_true rfl)
  · replace hf := ifn hc hf
    refine qI (Option.some.inj hf).symm ?_
    exact thr_S (ik := 108) (is := 140) (ic := 112) (k := 2) (text := "no such player") (cls := "java/lang/IndexOutOfBoundsException") X hX T hfl htab rfl (by decide +kernel) (hts _ (List.mem_of_getElem? (i := 1) rfl)) (hts _ (List.mem_of_getElem? (i := 2) rfl)) (List.mem_of_getElem? (i := 9) rfl) hg_112 (by decide +kernel) (by decide +kernel) hl.1 dX3_reached_9 dX3_reached_12 dX3_reached_13 dX3_reached_15 dX3_reached_18 (Nat.le_of_ble_eq_true rfl) (Nat.le_of_ble_eq_true rfl) (Nat.le_of_ble_eq_true rfl) (Nat.le_of_ble_eq_true rfl) (Nat.le_of_ble_eq_true rfl) (Nat.le_of_ble_eq_true rfl)
