noncomputable def fX0_destinationOf (S : SC) (x0 : Int32) : Option Int32 :=
  some ((x0 / 100) - (x0 / 100) / 100 * 100)
set_option maxHeartbeats 4000000 in
set_option maxRecDepth 100000 in
theorem kX0_destinationOf (l : Launch) (D : va_G) (cy : Nat → ClassId) (ad : Nat → Nat) (Xr : va_W) (S : SC) (x0 : Int32) (r : Int32) (hf : fX0_destinationOf S x0 = some r) : CG l D cy (wC cy ad Xr) yX0_destinationOf wsX0_destinationOf ({ frames := 0, cells := 0, slots := 0, locals := 0 } : Room) [.int x0] S (some (.int r)) S := by
  refine CG.of (cc := cX0_destinationOf) (maxL := 1) (ret := (some .int)) (by decide +kernel) rfl (Nat.le_of_ble_eq_true rfl) ?_
  intro p e s m below meth c A ls X hr T hl
  obtain ⟨hx, hb, hml, hown, hts, hlk, hK, hA, hwA⟩ := id X
  have hl : lv_has ls 1 [(0, .int x0)] := hl
  unfold fX0_destinationOf at hf
  refine lv_iload_n hx hb dX0_destinationOf_0 rfl (lv_at hl 0 rfl) ?_
  refine lv_bipush (v := 100) hx hb dX0_destinationOf_1 (by decide) ?_
  refine lv_idiv hx hb dX0_destinationOf_3 (by decide) ?_
  refine lv_bipush (v := 100) hx hb dX0_destinationOf_4 (by decide) ?_
  refine lv_irem hx hb dX0_destinationOf_6 (by decide) ?_
  exact rf_i hf X T hr dX0_destinationOf_7

noncomputable def fX0_builtCellOf (S : SC) (x0 : Int32) : Option Int32 :=
  nm (x0 - x0 / 100 * 100 : Int32) fun v1 =>
  if v1 = 99 then
    some (-1)
  else
    if (50 : Int32) ≤ v1 then
      some (v1 - 50)
    else
      some v1
set_option maxHeartbeats 4000000 in
set_option maxRecDepth 100000 in
theorem kX0_builtCellOf (l : Launch) (D : va_G) (cy : Nat → ClassId) (ad : Nat → Nat) (Xr : va_W) (S : SC) (x0 : Int32) (r : Int32) (hf : fX0_builtCellOf S x0 = some r) : CG l D cy (wC cy ad Xr) yX0_builtCellOf wsX0_builtCellOf ({ frames := 0, cells := 0, slots := 0, locals := 0 } : Room) [.int x0] S (some (.int r)) S := by
  refine CG.of (cc := cX0_builtCellOf) (maxL := 2) (ret := (some .int)) (by decide +kernel) rfl (Nat.le_of_ble_eq_true rfl) ?_
  intro p e s m below meth c A ls X hr T hl
  obtain ⟨hx, hb, hml, hown, hts, hlk, hK, hA, hwA⟩ := id X
  have hl : lv_has ls 2 [(0, .int x0)] := hl
  unfold fX0_builtCellOf at hf
  refine lv_iload_n hx hb dX0_builtCellOf_0 rfl (lv_at hl 0 rfl) ?_
  refine lv_bipush (v := 100) hx hb dX0_builtCellOf_1 (by decide) ?_
  refine lv_irem hx hb dX0_builtCellOf_3 (by decide) ?_
  refine lv_topi (fun v1 e_v1 => ?_)
  replace hf := nm_use hf e_v1
  refine lv_istore_n (lv' := [(1, .int v1), (0, .int x0)]) hx hb dX0_builtCellOf_4 rfl hl (by decide) rfl (fun ls hl => ?_)
  refine lv_iload_n hx hb dX0_builtCellOf_5 rfl (lv_at hl 0 rfl) ?_
  refine lv_bipush (v := 99) hx hb dX0_builtCellOf_6 (by decide) ?_
  refine lv_icmp_ne (tgt := 13) hx hb dX0_builtCellOf_8 (by decide) (fun hc => ?_) (fun hc => ?_)
  · replace hf := ifn hc hf
    refine lv_iload_n hx hb dX0_builtCellOf_13 rfl (lv_at hl 0 rfl) ?_
    refine lv_bipush (v := 50) hx hb dX0_builtCellOf_14 (by decide) ?_
    refine lv_icmp_ge (tgt := 23) hx hb dX0_builtCellOf_16 (by decide) (fun hc => ?_) (fun hc => ?_)
    · replace hf := ifp hc hf
      refine lv_iload_n hx hb dX0_builtCellOf_23 rfl (lv_at hl 0 rfl) ?_
      refine lv_bipush (v := 50) hx hb dX0_builtCellOf_24 (by decide) ?_
      refine lv_isub hx hb dX0_builtCellOf_26 ?_
      exact rf_i hf X T hr dX0_builtCellOf_27
    · replace hf := ifn hc hf
      refine lv_iload_n hx hb dX0_builtCellOf_19 rfl (lv_at hl 0 rfl) ?_
      refine lv_goto (tgt := 27) hx hb dX0_builtCellOf_20 (by decide) ?_
      exact rf_i hf X T hr dX0_builtCellOf_27
  · replace hf := ifp hc hf
    refine lv_iconst (v := (-1)) hx hb dX0_builtCellOf_11 (by decide) ?_
    exact rf_i hf X T hr dX0_builtCellOf_12

noncomputable def fX0_setStoreys (S : SC) (x1 : Int32) (x2 : Int32) : Option SC :=
  if x1 < 0 then
    some S
  else
    if (25 : Int32) ≤ x1 then
      some S
    else
      ck x1 25 <|
      nm (setA S 1 x1 x2 : SC) fun S1 =>
      some S1
set_option maxHeartbeats 4000000 in
set_option maxRecDepth 100000 in
theorem kX0_setStoreys (l : Launch) (D : va_G) (cy : Nat → ClassId) (ad : Nat → Nat) (Xr : va_W) (S : SC) (x1 : Int32) (x2 : Int32) (r : SC) (hf : fX0_setStoreys S x1 x2 = some r) : CG l D cy (wC cy ad Xr) yX0_setStoreys wsX0_setStoreys ({ frames := 0, cells := 0, slots := 0, locals := 0 } : Room) [.ref (ad 1), .int x1, .int x2] S none r := by
  refine CG.of (cc := cX0_setStoreys) (maxL := 3) (ret := none) (by decide +kernel) rfl (Nat.le_of_ble_eq_true rfl) ?_
  intro p e s m below meth c A ls X hr T hl
  obtain ⟨hx, hb, hml, hown, hts, hlk, hK, hA, hwA⟩ := id X
  have hl : lv_has ls 3 [(0, .ref (ad 1)), (1, .int x1), (2, .int x2)] := hl
  have hin_X0 : ∀ w ∈ u_ws RX0 TX0 13, w ∈ wsX0_setStoreys := fun w h => (List.mem_cons_of_mem _ (List.mem_append_right _ h))
  unfold fX0_setStoreys at hf
  refine lv_iload_n hx hb dX0_setStoreys_0 rfl (lv_at hl 1 rfl) ?_
  refine lv_if_lt (tgt := 20) hx hb dX0_setStoreys_1 (by decide) (fun hc => ?_) (fun hc => ?_)
  · replace hf := ifp hc hf
    exact rf_vw hf X T hr dX0_setStoreys_20
  · replace hf := ifn hc hf
    refine lv_iload_n hx hb dX0_setStoreys_4 rfl (lv_at hl 1 rfl) ?_
    refine lv_aload_n hx hb dX0_setStoreys_5 rfl (lv_at hl 0 rfl) ?_
    refine va_get (D := D) (ci := 0) (v := .ref (ad 3)) (C := RX0) (T := TX0) (N := 13) hx hb hts hin_X0 hown hK.1 T.1 14 rfl rfl 1 (by decide) (hts _ (List.mem_of_getElem? (i := 1) rfl)) (fun _ h9 => h9) rfl dX0_setStoreys_6 ?_
    refine va_alen (v := 25) hx hb hK.1 T.1 12 0 rfl rfl rfl dX0_setStoreys_9 ?_
    refine lv_icmp_ge (tgt := 20) hx hb dX0_setStoreys_10 (by decide) (fun hc => ?_) (fun hc => ?_)
    · replace hf := ifp hc hf
      exact rf_vw hf X T hr dX0_setStoreys_20
    · replace hf := ifn hc hf
      refine lv_aload_n hx hb dX0_setStoreys_13 rfl (lv_at hl 0 rfl) ?_
      refine va_get (D := D) (ci := 0) (v := .ref (ad 3)) (C := RX0) (T := TX0) (N := 13) hx hb hts hin_X0 hown hK.1 T.1 14 rfl rfl 1 (by decide) (hts _ (List.mem_of_getElem? (i := 1) rfl)) (fun _ h9 => h9) rfl dX0_setStoreys_14 ?_
      refine lv_iload_n hx hb dX0_setStoreys_17 rfl (lv_at hl 1 rfl) ?_
      refine lv_iload_n hx hb dX0_setStoreys_18 rfl (lv_at hl 2 rfl) ?_
      obtain ⟨hin, hf⟩ := ck_inv hf
      obtain ⟨S1, e_S1, hf⟩ := nm_inv hf
      refine va_iast hx hb hK.1 T.1 T.2.1 T.2.2 12 0 rfl rfl hin dX0_setStoreys_19 (fun H locs hP hD hS => ?_)
      have T : ST D (wC cy ad Xr) A s S1 H locs := ⟨by rw [e_S1]; exact hP, by rw [e_S1]; exact hD, hS⟩
      exact rf_vw hf X T hr dX0_setStoreys_20

noncomputable def fX0_put (S : SC) (x1 : Int32) (x2 : Int32) : Option SC :=
  nm (((2 : Int32) * (x1 / 10)) + (x1 - x1 / 10 * 10) : Int32) fun v1 =>
  if x2 < 0 then
    some S
  else
    if (25 : Int32) ≤ x2 then
      some S
    else
      if v1 < 0 then
        some S
      else
        if (4 : Int32) ≤ v1 then
          some S
        else
          ck x2 25 <|
          nm (setA S 2 x2 x1 : SC) fun S2 =>
          ck v1 4 <|
          nm (setA S2 3 v1 x2 : SC) fun S3 =>
          some S3
set_option maxHeartbeats 4000000 in
set_option maxRecDepth 100000 in
theorem kX0_put (l : Launch) (D : va_G) (cy : Nat → ClassId) (ad : Nat → Nat) (Xr : va_W) (S : SC) (x1 : Int32) (x2 : Int32) (r : SC) (hf : fX0_put S x1 x2 = some r) : CG l D cy (wC cy ad Xr) yX0_put wsX0_put ({ frames := 0, cells := 0, slots := 0, locals := 0 } : Room) [.ref (ad 1), .int x1, .int x2] S none r := by
  refine CG.of (cc := cX0_put) (maxL := 4) (ret := none) (by decide +kernel) rfl (Nat.le_of_ble_eq_true rfl) ?_
  intro p e s m below meth c A ls X hr T hl
  obtain ⟨hx, hb, hml, hown, hts, hlk, hK, hA, hwA⟩ := id X
  have hl : lv_has ls 4 [(0, .ref (ad 1)), (1, .int x1), (2, .int x2)] := hl
  have hin_X0 : ∀ w ∈ u_ws RX0 TX0 13, w ∈ wsX0_put := fun w h => (List.mem_cons_of_mem _ (List.mem_append_right _ h))
  unfold fX0_put at hf
  refine lv_iconst (v := 2) hx hb dX0_put_0 (by decide) ?_
  refine lv_iload_n hx hb dX0_put_1 rfl (lv_at hl 1 rfl) ?_
  refine lv_bipush (v := 10) hx hb dX0_put_2 (by decide) ?_
  refine lv_idiv hx hb dX0_put_4 (by decide) ?_
  refine lv_imul hx hb dX0_put_5 ?_
  refine lv_iload_n hx hb dX0_put_6 rfl (lv_at hl 1 rfl) ?_
  refine lv_bipush (v := 10) hx hb dX0_put_7 (by decide) ?_
  refine lv_irem hx hb dX0_put_9 (by decide) ?_
  refine lv_iadd hx hb dX0_put_10 ?_
  refine lv_topi (fun v1 e_v1 => ?_)
  replace hf := nm_use hf e_v1
  refine lv_istore_n (lv' := [(3, .int v1), (0, .ref (ad 1)), (1, .int x1), (2, .int x2)]) hx hb dX0_put_11 rfl hl (by decide) rfl (fun ls hl => ?_)
  refine lv_iload_n hx hb dX0_put_12 rfl (lv_at hl 3 rfl) ?_
  refine lv_if_lt (tgt := 52) hx hb dX0_put_13 (by decide) (fun hc => ?_) (fun hc => ?_)
  · replace hf := ifp hc hf
    exact rf_vw hf X T hr dX0_put_52
  · replace hf := ifn hc hf
    refine lv_iload_n hx hb dX0_put_16 rfl (lv_at hl 3 rfl) ?_
    refine lv_aload_n hx hb dX0_put_17 rfl (lv_at hl 1 rfl) ?_
    refine va_get (D := D) (ci := 0) (v := .ref (ad 4)) (C := RX0) (T := TX0) (N := 13) hx hb hts hin_X0 hown hK.1 T.1 14 rfl rfl 2 (by decide) (hts _ (List.mem_of_getElem? (i := 1) rfl)) (fun _ h9 => h9) rfl dX0_put_18 ?_
    refine va_alen (v := 25) hx hb hK.1 T.1 11 0 rfl rfl rfl dX0_put_21 ?_
    refine lv_icmp_ge (tgt := 52) hx hb dX0_put_22 (by decide) (fun hc => ?_) (fun hc => ?_)
    · replace hf := ifp hc hf
      exact rf_vw hf X T hr dX0_put_52
    · replace hf := ifn hc hf
      refine lv_iload_n hx hb dX0_put_25 rfl (lv_at hl 0 rfl) ?_
      refine lv_if_lt (tgt := 52) hx hb dX0_put_26 (by decide) (fun hc => ?_) (fun hc => ?_)
      · replace hf := ifp hc hf
        exact rf_vw hf X T hr dX0_put_52
      · replace hf := ifn hc hf
        refine lv_iload_n hx hb dX0_put_29 rfl (lv_at hl 0 rfl) ?_
        refine lv_aload_n hx hb dX0_put_30 rfl (lv_at hl 1 rfl) ?_
        refine va_get (D := D) (ci := 0) (v := .ref (ad 5)) (C := RX0) (T := TX0) (N := 13) hx hb hts hin_X0 hown hK.1 T.1 14 rfl rfl 3 (by decide) (hts _ (List.mem_of_getElem? (i := 2) rfl)) (fun _ h9 => h9) rfl dX0_put_31 ?_
        refine va_alen (v := 4) hx hb hK.1 T.1 10 0 rfl rfl rfl dX0_put_34 ?_
        refine lv_icmp_ge (tgt := 52) hx hb dX0_put_35 (by decide) (fun hc => ?_) (fun hc => ?_)
        · replace hf := ifp hc hf
          exact rf_vw hf X T hr dX0_put_52
        · replace hf := ifn hc hf
          refine lv_aload_n hx hb dX0_put_38 rfl (lv_at hl 1 rfl) ?_
          refine va_get (D := D) (ci := 0) (v := .ref (ad 4)) (C := RX0) (T := TX0) (N := 13) hx hb hts hin_X0 hown hK.1 T.1 14 rfl rfl 2 (by decide) (hts _ (List.mem_of_getElem? (i := 1) rfl)) (fun _ h9 => h9) rfl dX0_put_39 ?_
          refine lv_iload_n hx hb dX0_put_42 rfl (lv_at hl 3 rfl) ?_
          refine lv_iload_n hx hb dX0_put_43 rfl (lv_at hl 2 rfl) ?_
          obtain ⟨hin, hf⟩ := ck_inv hf
          obtain ⟨S2, e_S2, hf⟩ := nm_inv hf
          refine va_iast hx hb hK.1 T.1 T.2.1 T.2.2 11 0 rfl rfl hin dX0_put_44 (fun H locs hP hD hS => ?_)
          have T : ST D (wC cy ad Xr) A s S2 H locs := ⟨by rw [e_S2]; exact hP, by rw [e_S2]; exact hD, hS⟩
          refine lv_aload_n hx hb dX0_put_45 rfl (lv_at hl 1 rfl) ?_
          refine va_get (D := D) (ci := 0) (v := .ref (ad 5)) (C := RX0) (T := TX0) (N := 13) hx hb hts hin_X0 hown hK.1 T.1 14 rfl rfl 3 (by decide) (hts _ (List.mem_of_getElem? (i := 2) rfl)) (fun _ h9 => h9) rfl dX0_put_46 ?_
          refine lv_iload_n hx hb dX0_put_49 rfl (lv_at hl 0 rfl) ?_
          refine lv_iload_n hx hb dX0_put_50 rfl (lv_at hl 3 rfl) ?_
          obtain ⟨hin, hf⟩ := ck_inv hf
          obtain ⟨S3, e_S3, hf⟩ := nm_inv hf
          refine va_iast hx hb hK.1 T.1 T.2.1 T.2.2 10 0 rfl rfl hin dX0_put_51 (fun H locs hP hD hS => ?_)
          have T : ST D (wC cy ad Xr) A s S3 H locs := ⟨by rw [e_S3]; exact hP, by rw [e_S3]; exact hD, hS⟩
          exact rf_vw hf X T hr dX0_put_52

noncomputable def fX0_clear (S : SC) (x1 : Int32) : Option SC :=
  if x1 < 0 then
    some S
  else
    if (25 : Int32) ≤ x1 then
      some S
    else
      ck x1 25 <|
      nm (setA S 2 x1 (-1) : SC) fun S1 =>
      some S1
set_option maxHeartbeats 4000000 in
set_option maxRecDepth 100000 in
theorem kX0_clear (l : Launch) (D : va_G) (cy : Nat → ClassId) (ad : Nat → Nat) (Xr : va_W) (S : SC) (x1 : Int32) (r : SC) (hf : fX0_clear S x1 = some r) : CG l D cy (wC cy ad Xr) yX0_clear wsX0_clear ({ frames := 0, cells := 0, slots := 0, locals := 0 } : Room) [.ref (ad 1), .int x1] S none r := by
  refine CG.of (cc := cX0_clear) (maxL := 2) (ret := none) (by decide +kernel) rfl (Nat.le_of_ble_eq_true rfl) ?_
  intro p e s m below meth c A ls X hr T hl
  obtain ⟨hx, hb, hml, hown, hts, hlk, hK, hA, hwA⟩ := id X
  have hl : lv_has ls 2 [(0, .ref (ad 1)), (1, .int x1)] := hl
  have hin_X0 : ∀ w ∈ u_ws RX0 TX0 13, w ∈ wsX0_clear := fun w h => (List.mem_cons_of_mem _ (List.mem_append_right _ h))
  unfold fX0_clear at hf
  refine lv_iload_n hx hb dX0_clear_0 rfl (lv_at hl 1 rfl) ?_
  refine lv_if_lt (tgt := 20) hx hb dX0_clear_1 (by decide) (fun hc => ?_) (fun hc => ?_)
  · replace hf := ifp hc hf
    exact rf_vw hf X T hr dX0_clear_20
  · replace hf := ifn hc hf
    refine lv_iload_n hx hb dX0_clear_4 rfl (lv_at hl 1 rfl) ?_
    refine lv_aload_n hx hb dX0_clear_5 rfl (lv_at hl 0 rfl) ?_
    refine va_get (D := D) (ci := 0) (v := .ref (ad 4)) (C := RX0) (T := TX0) (N := 13) hx hb hts hin_X0 hown hK.1 T.1 14 rfl rfl 2 (by decide) (hts _ (List.mem_of_getElem? (i := 1) rfl)) (fun _ h9 => h9) rfl dX0_clear_6 ?_
    refine va_alen (v := 25) hx hb hK.1 T.1 11 0 rfl rfl rfl dX0_clear_9 ?_
    refine lv_icmp_ge (tgt := 20) hx hb dX0_clear_10 (by decide) (fun hc => ?_) (fun hc => ?_)
    · replace hf := ifp hc hf
      exact rf_vw hf X T hr dX0_clear_20
    · replace hf := ifn hc hf
      refine lv_aload_n hx hb dX0_clear_13 rfl (lv_at hl 0 rfl) ?_
      refine va_get (D := D) (ci := 0) (v := .ref (ad 4)) (C := RX0) (T := TX0) (N := 13) hx hb hts hin_X0 hown hK.1 T.1 14 rfl rfl 2 (by decide) (hts _ (List.mem_of_getElem? (i := 1) rfl)) (fun _ h9 => h9) rfl dX0_clear_14 ?_
      refine lv_iload_n hx hb dX0_clear_17 rfl (lv_at hl 1 rfl) ?_
      refine lv_iconst (v := (-1)) hx hb dX0_clear_18 (by decide) ?_
      obtain ⟨hin, hf⟩ := ck_inv hf
      obtain ⟨S1, e_S1, hf⟩ := nm_inv hf
      refine va_iast hx hb hK.1 T.1 T.2.1 T.2.2 11 0 rfl rfl hin dX0_clear_19 (fun H locs hP hD hS => ?_)
      have T : ST D (wC cy ad Xr) A s S1 H locs := ⟨by rw [e_S1]; exact hP, by rw [e_S1]; exact hD, hS⟩
      exact rf_vw hf X T hr dX0_clear_20

noncomputable def fX0_carry (S : SC) (x1 : Int32) (x2 : Int32) (x3 : Int32) : Option SC :=
  bnd (fX0_holderOf S x1) fun v2 =>
  bnd (fX0_holderOf S x2) fun v4 =>
  bnd (fX0_clear S x1) fun S6 =>
  bnd (fX0_put S6 v2 x2) fun S8 =>
  if x3 = (-1) then
    some S8
  else
    bnd (fX0_put S8 v4 x3) fun S10 =>
    some S10
set_option maxHeartbeats 4000000 in
set_option maxRecDepth 100000 in
theorem kX0_carry (l : Launch) (D : va_G) (cy : Nat → ClassId) (ad : Nat → Nat) (Xr : va_W) (S : SC) (x1 : Int32) (x2 : Int32) (x3 : Int32) (r : SC) (hf : fX0_carry S x1 x2 x3 = some r) : CG l D cy (wC cy ad Xr) yX0_carry wsX0_carry ({ frames := 1, cells := 0, slots := 0, locals := 23 } : Room) [.ref (ad 1), .int x1, .int x2, .int x3] S none r := by
  refine CG.of (cc := cX0_carry) (maxL := 6) (ret := none) (by decide +kernel) rfl (Nat.le_of_ble_eq_true rfl) ?_
  intro p e s m below meth c A ls X hr T hl
  obtain ⟨hx, hb, hml, hown, hts, hlk, hK, hA, hwA⟩ := id X
  have hl : lv_has ls 6 [(0, .ref (ad 1)), (1, .int x1), (2, .int x2), (3, .int x3)] := hl
  unfold fX0_carry at hf
  refine lv_aload_n hx hb dX0_carry_0 rfl (lv_at hl 0 rfl) ?_
  refine lv_iload_n hx hb dX0_carry_1 rfl (lv_at hl 1 rfl) ?_
  obtain ⟨v2, h1, hf⟩ := bnd_inv hf
  refine cg_V (q0 := 14) (ci := 0) (As := [.int x1]) (rest := []) X T (kX0_holderOf l D cy ad Xr S x1 v2 h1) (cwV 1 hts gX0_carry_X0_holderOf rfl rfl rfl (by decide +kernel) ⟨Nat.le_of_ble_eq_true rfl, Nat.le_of_ble_eq_true rfl⟩) rfl rfl rfl hl.1 rfl (Nat.le_of_ble_eq_true rfl) dX0_carry_2 ⟨Nat.zero_le _, Nat.zero_le _⟩ (st2 := [.int v2]) (pc2 := 5) rfl rfl (fun H locs T => ?_)
  refine lv_istore (lv' := [(4, .int v2), (0, .ref (ad 1)), (1, .int x1), (2, .int x2), (3, .int x3)]) hx hb dX0_carry_5 hl (by decide) rfl (fun ls hl => ?_)
  refine lv_aload_n hx hb dX0_carry_7 rfl (lv_at hl 1 rfl) ?_
  refine lv_iload_n hx hb dX0_carry_8 rfl (lv_at hl 3 rfl) ?_
  obtain ⟨v4, h3, hf⟩ := bnd_inv hf
  refine cg_V (q0 := 14) (ci := 0) (As := [.int x2]) (rest := []) X T (kX0_holderOf l D cy ad Xr S x2 v4 h3) (cwV 1 hts gX0_carry_X0_holderOf rfl rfl rfl (by decide +kernel) ⟨Nat.le_of_ble_eq_true rfl, Nat.le_of_ble_eq_true rfl⟩) rfl rfl rfl hl.1 rfl (Nat.le_of_ble_eq_true rfl) dX0_carry_9 ⟨Nat.zero_le _, Nat.zero_le _⟩ (st2 := [.int v4]) (pc2 := 12) rfl rfl (fun H locs T => ?_)
  refine lv_istore (lv' := [(5, .int v4), (4, .int v2), (0, .ref (ad 1)), (1, .int x1), (2, .int x2), (3, .int x3)]) hx hb dX0_carry_12 hl (by decide) rfl (fun ls hl => ?_)
  refine lv_aload_n hx hb dX0_carry_14 rfl (lv_at hl 2 rfl) ?_
  refine lv_iload_n hx hb dX0_carry_15 rfl (lv_at hl 3 rfl) ?_
  obtain ⟨S6, h5, hf⟩ := bnd_inv hf
  refine cg_V (q0 := 14) (ci := 0) (As := [.int x1]) (rest := []) X T (kX0_clear l D cy ad Xr S x1 S6 h5) (cwV 1 hts gX0_carry_X0_clear rfl rfl rfl (by decide +kernel) ⟨Nat.le_of_ble_eq_true rfl, Nat.le_of_ble_eq_true rfl⟩) rfl rfl rfl hl.1 rfl (Nat.le_of_ble_eq_true rfl) dX0_carry_16 ⟨Nat.zero_le _, Nat.zero_le _⟩ (st2 := []) (pc2 := 19) rfl rfl (fun H locs T => ?_)
  refine lv_aload_n hx hb dX0_carry_19 rfl (lv_at hl 2 rfl) ?_
  refine lv_iload hx hb dX0_carry_20 (lv_at hl 1 rfl) ?_
  refine lv_iload_n hx hb dX0_carry_22 rfl (lv_at hl 4 rfl) ?_
  obtain ⟨S8, h7, hf⟩ := bnd_inv hf
  refine cg_V (q0 := 14) (ci := 0) (As := [.int v2, .int x2]) (rest := []) X T (kX0_put l D cy ad Xr S6 v2 x2 S8 h7) (cwV 2 hts gX0_carry_X0_put rfl rfl rfl (by decide +kernel) ⟨Nat.le_of_ble_eq_true rfl, Nat.le_of_ble_eq_true rfl⟩) rfl rfl rfl hl.1 rfl (Nat.le_of_ble_eq_true rfl) dX0_carry_23 ⟨Nat.zero_le _, Nat.zero_le _⟩ (st2 := []) (pc2 := 26) rfl rfl (fun H locs T => ?_)
  refine lv_iload_n hx hb dX0_carry_26 rfl (lv_at hl 5 rfl) ?_
  refine lv_iconst (v := (-1)) hx hb dX0_carry_27 (by decide) ?_
  refine lv_icmp_eq (tgt := 38) hx hb dX0_carry_28 (by decide) (fun hc => ?_) (fun hc => ?_)
  · replace hf := ifp hc hf
    exact rf_vw hf X T hr dX0_carry_38
  · replace hf := ifn hc hf
    refine lv_aload_n hx hb dX0_carry_31 rfl (lv_at hl 2 rfl) ?_
    refine lv_iload hx hb dX0_carry_32 (lv_at hl 0 rfl) ?_
    refine lv_iload_n hx hb dX0_carry_34 rfl (lv_at hl 5 rfl) ?_
    obtain ⟨S10, h9, hf⟩ := bnd_inv hf
    refine cg_V (q0 := 14) (ci := 0) (As := [.int v4, .int x3]) (rest := []) X T (kX0_put l D cy ad Xr S8 v4 x3 S10 h9) (cwV 2 hts gX0_carry_X0_put rfl rfl rfl (by decide +kernel) ⟨Nat.le_of_ble_eq_true rfl, Nat.le_of_ble_eq_true rfl⟩) rfl rfl rfl hl.1 rfl (Nat.le_of_ble_eq_true rfl) dX0_carry_35 ⟨Nat.zero_le _, Nat.zero_le _⟩ (st2 := []) (pc2 := 38) rfl rfl (fun H locs T => ?_)
    exact rf_vw hf X T hr dX0_carry_38

noncomputable def fX0_carryBack_j36 (y1 : Int32) (y4 : Int32) (S_36 : SC) : Option SC :=
  bnd (fX0_put S_36 y4 y1) fun S2 =>
  some S2
noncomputable def fX0_carryBack (S : SC) (x1 : Int32) (x2 : Int32) (x3 : Int32) : Option SC :=
  bnd (fX0_holderOf S x2) fun v4 =>
  bnd (fX0_holderOf S x3) fun v6 =>
  bnd (fX0_clear S x2) fun S8 =>
  if x3 = (-1) then
    fX0_carryBack_j36 x1 v4 S8
  else
    bnd (fX0_clear S8 x3) fun S10 =>
    bnd (fX0_put S10 v6 x2) fun S12 =>
    fX0_carryBack_j36 x1 v4 S12
set_option maxHeartbeats 4000000 in
set_option maxRecDepth 100000 in
theorem kX0_carryBack (l : Launch) (D : va_G) (cy : Nat → ClassId) (ad : Nat → Nat) (Xr : va_W) (S : SC) (x1 : Int32) (x2 : Int32) (x3 : Int32) (r : SC) (hf : fX0_carryBack S x1 x2 x3 = some r) : CG l D cy (wC cy ad Xr) yX0_carryBack wsX0_carryBack ({ frames := 1, cells := 0, slots := 0, locals := 23 } : Room) [.ref (ad 1), .int x1, .int x2, .int x3] S none r := by
  refine CG.of (cc := cX0_carryBack) (maxL := 6) (ret := none) (by decide +kernel) rfl (Nat.le_of_ble_eq_true rfl) ?_
  intro p e s m below meth c A ls X hr T hl
  obtain ⟨hx, hb, hml, hown, hts, hlk, hK, hA, hwA⟩ := id X
  have hl : lv_has ls 6 [(0, .ref (ad 1)), (1, .int x1), (2, .int x2), (3, .int x3)] := hl
  unfold fX0_carryBack at hf
  have j_36 : ∀ (y1 : Int32) (y4 : Int32) (S_36 : SC) (H : Heap) (locs : List Loc) (ls : Array Slot), fX0_carryBack_j36 y1 y4 S_36 = some r → ST D (wC cy ad Xr) A s S_36 H locs → lv_has ls 6 [(0, .ref (ad 1)), (1, .int y1), (4, .int y4)] → W p l e ({ frames := 1, cells := 0, slots := 0, locals := 23 } : Room) s m [.ref (ad 1), .int x1, .int x2, .int x3].toArray below meth c H locs 0 0 (MQ below (QG D (wC cy ad Xr) A none r) [.ref (ad 1), .int x1, .int x2, .int x3].toArray s 0 0 A) (F0 m 36 ls []) := by
    intro y1 y4 S_36 H locs ls hf T hl
    unfold fX0_carryBack_j36 at hf
    refine lv_aload_n hx hb dX0_carryBack_36 rfl (lv_at hl 0 rfl) ?_
    refine lv_iload hx hb dX0_carryBack_37 (lv_at hl 2 rfl) ?_
    refine lv_iload_n hx hb dX0_carryBack_39 rfl (lv_at hl 1 rfl) ?_
    obtain ⟨S2, h1, hf⟩ := bnd_inv hf
    refine cg_V (q0 := 14) (ci := 0) (As := [.int y4, .int y1]) (rest := []) X T (kX0_put l D cy ad Xr S_36 y4 y1 S2 h1) (cwV 2 hts gX0_carryBack_X0_put rfl rfl rfl (by decide +kernel) ⟨Nat.le_of_ble_eq_true rfl, Nat.le_of_ble_eq_true rfl⟩) rfl rfl rfl hl.1 rfl (Nat.le_of_ble_eq_true rfl) dX0_carryBack_40 ⟨Nat.zero_le _, Nat.zero_le _⟩ (st2 := []) (pc2 := 43) rfl rfl (fun H locs T => ?_)
    exact rf_vw hf X T hr dX0_carryBack_43
  refine lv_aload_n hx hb dX0_carryBack_0 rfl (lv_at hl 0 rfl) ?_
  refine lv_iload_n hx hb dX0_carryBack_1 rfl (lv_at hl 2 rfl) ?_
  obtain ⟨v4, h3, hf⟩ := bnd_inv hf
  refine cg_V (q0 := 14) (ci := 0) (As := [.int x2]) (rest := []) X T (kX0_holderOf l D cy ad Xr S x2 v4 h3) (cwV 1 hts gX0_carryBack_X0_holderOf rfl rfl rfl (by decide +kernel) ⟨Nat.le_of_ble_eq_true rfl, Nat.le_of_ble_eq_true rfl⟩) rfl rfl rfl hl.1 rfl (Nat.le_of_ble_eq_true rfl) dX0_carryBack_2 ⟨Nat.zero_le _, Nat.zero_le _⟩ (st2 := [.int v4]) (pc2 := 5) rfl rfl (fun H locs T => ?_)
  refine lv_istore (lv' := [(4, .int v4), (0, .ref (ad 1)), (1, .int x1), (2, .int x2), (3, .int x3)]) hx hb dX0_carryBack_5 hl (by decide) rfl (fun ls hl => ?_)
  refine lv_aload_n hx hb dX0_carryBack_7 rfl (lv_at hl 1 rfl) ?_
  refine lv_iload_n hx hb dX0_carryBack_8 rfl (lv_at hl 4 rfl) ?_
  obtain ⟨v6, h5, hf⟩ := bnd_inv hf
  refine cg_V (q0 := 14) (ci := 0) (As := [.int x3]) (rest := []) X T (kX0_holderOf l D cy ad Xr S x3 v6 h5) (cwV 1 hts gX0_carryBack_X0_holderOf rfl rfl rfl (by decide +kernel) ⟨Nat.le_of_ble_eq_true rfl, Nat.le_of_ble_eq_true rfl⟩) rfl rfl rfl hl.1 rfl (Nat.le_of_ble_eq_true rfl) dX0_carryBack_9 ⟨Nat.zero_le _, Nat.zero_le _⟩ (st2 := [.int v6]) (pc2 := 12) rfl rfl (fun H locs T => ?_)
  refine lv_istore (lv' := [(5, .int v6), (4, .int v4), (0, .ref (ad 1)), (1, .int x1), (2, .int x2), (3, .int x3)]) hx hb dX0_carryBack_12 hl (by decide) rfl (fun ls hl => ?_)
  refine lv_aload_n hx hb dX0_carryBack_14 rfl (lv_at hl 2 rfl) ?_
  refine lv_iload_n hx hb dX0_carryBack_15 rfl (lv_at hl 4 rfl) ?_
  obtain ⟨S8, h7, hf⟩ := bnd_inv hf
  refine cg_V (q0 := 14) (ci := 0) (As := [.int x2]) (rest := []) X T (kX0_clear l D cy ad Xr S x2 S8 h7) (cwV 1 hts gX0_carryBack_X0_clear rfl rfl rfl (by decide +kernel) ⟨Nat.le_of_ble_eq_true rfl, Nat.le_of_ble_eq_true rfl⟩) rfl rfl rfl hl.1 rfl (Nat.le_of_ble_eq_true rfl) dX0_carryBack_16 ⟨Nat.zero_le _, Nat.zero_le _⟩ (st2 := []) (pc2 := 19) rfl rfl (fun H locs T => ?_)
  refine lv_iload_n hx hb dX0_carryBack_19 rfl (lv_at hl 5 rfl) ?_
  refine lv_iconst (v := (-1)) hx hb dX0_carryBack_20 (by decide) ?_
  refine lv_icmp_eq (tgt := 36) hx hb dX0_carryBack_21 (by decide) (fun hc => ?_) (fun hc => ?_)
  · replace hf := ifp hc hf
    exact j_36 x1 v4 S8 _ _ _ hf T (lv_sub hl [2, 3, 1] rfl)
  · replace hf := ifn hc hf
    refine lv_aload_n hx hb dX0_carryBack_24 rfl (lv_at hl 2 rfl) ?_
    refine lv_iload_n hx hb dX0_carryBack_25 rfl (lv_at hl 5 rfl) ?_
    obtain ⟨S10, h9, hf⟩ := bnd_inv hf
    refine cg_V (q0 := 14) (ci := 0) (As := [.int x3]) (rest := []) X T (kX0_clear l D cy ad Xr S8 x3 S10 h9) (cwV 1 hts gX0_carryBack_X0_clear rfl rfl rfl (by decide +kernel) ⟨Nat.le_of_ble_eq_true rfl, Nat.le_of_ble_eq_true rfl⟩) rfl rfl rfl hl.1 rfl (Nat.le_of_ble_eq_true rfl) dX0_carryBack_26 ⟨Nat.zero_le _, Nat.zero_le _⟩ (st2 := []) (pc2 := 29) rfl rfl (fun H locs T => ?_)
    refine lv_aload_n hx hb dX0_carryBack_29 rfl (lv_at hl 2 rfl) ?_
    refine lv_iload hx hb dX0_carryBack_30 (lv_at hl 0 rfl) ?_
    refine lv_iload_n hx hb dX0_carryBack_32 rfl (lv_at hl 4 rfl) ?_
    obtain ⟨S12, h11, hf⟩ := bnd_inv hf
    refine cg_V (q0 := 14) (ci := 0) (As := [.int v6, .int x2]) (rest := []) X T (kX0_put l D cy ad Xr S10 v6 x2 S12 h11) (cwV 2 hts gX0_carryBack_X0_put rfl rfl rfl (by decide +kernel) ⟨Nat.le_of_ble_eq_true rfl, Nat.le_of_ble_eq_true rfl⟩) rfl rfl rfl hl.1 rfl (Nat.le_of_ble_eq_true rfl) dX0_carryBack_33 ⟨Nat.zero_le _, Nat.zero_le _⟩ (st2 := []) (pc2 := 36) rfl rfl (fun H locs T => ?_)
    exact j_36 x1 v4 S12 _ _ _ hf T (lv_sub hl [2, 3, 1] rfl)

noncomputable def fX0_remember_j90 (z1 : Int32) (z2 : Int32) (S_90 : SC) : Option SC :=
  ck z1 505 <|
  nm (setA S_90 4 z1 z2 : SC) fun S1 =>
  some S1
noncomputable def fX0_remember (S : SC) (x1 : Int32) (x2 : Int32) (x3 : Int32) : Option SC :=
  nm ((S.1 5) * 5 : Int32) fun v2 =>
  if v2 < 0 then
    some S
  else
    if (505 : Int32) < v2 + 5 then
      some S
    else
      ck v2 505 <|
      nm (setA S 4 v2 x1 : SC) fun S3 =>
      ck (v2 + 1) 505 <|
      nm (setA S3 4 (v2 + 1) x2 : SC) fun S4 =>
      ck (v2 + 2) 505 <|
      nm (setA S4 4 (v2 + 2) x3 : SC) fun S5 =>
      bnd (fX0_builtCellOf S5 x1) fun v7 =>
      bnd (fX0_storeysOf S5 v7) fun v9 =>
      ck (v2 + 3) 505 <|
      nm (setA S5 4 (v2 + 3) v9 : SC) fun S10 =>
      if S10.1 7 = 0 then
        fX0_remember_j90 (v2 + 4) 0 S10
      else
        fX0_remember_j90 (v2 + 4) 1 S10
set_option maxHeartbeats 4000000 in
set_option maxRecDepth 100000 in
theorem kX0_remember (l : Launch) (D : va_G) (cy : Nat → ClassId) (ad : Nat → Nat) (Xr : va_W) (S : SC) (x1 : Int32) (x2 : Int32) (x3 : Int32) (r : SC) (hf : fX0_remember S x1 x2 x3 = some r) : CG l D cy (wC cy ad Xr) yX0_remember wsX0_remember ({ frames := 1, cells := 0, slots := 0, locals := 21 } : Room) [.ref (ad 1), .int x1, .int x2, .int x3] S none r := by
  refine CG.of (cc := cX0_remember) (maxL := 5) (ret := none) (by decide +kernel) rfl (Nat.le_of_ble_eq_true rfl) ?_
  intro p e s m below meth c A ls X hr T hl
  obtain ⟨hx, hb, hml, hown, hts, hlk, hK, hA, hwA⟩ := id X
  have hl : lv_has ls 5 [(0, .ref (ad 1)), (1, .int x1), (2, .int x2), (3, .int x3)] := hl
  have hin_X0 : ∀ w ∈ u_ws RX0 TX0 13, w ∈ wsX0_remember := fun w h => (List.mem_cons_of_mem _ (List.mem_append_right _ h))
  unfold fX0_remember at hf
  have j_90 : ∀ (z1 : Int32) (z2 : Int32) (S_90 : SC) (H : Heap) (locs : List Loc) (ls : Array Slot), fX0_remember_j90 z1 z2 S_90 = some r → ST D (wC cy ad Xr) A s S_90 H locs → lv_has ls 5 [] → W p l e ({ frames := 1, cells := 0, slots := 0, locals := 21 } : Room) s m [.ref (ad 1), .int x1, .int x2, .int x3].toArray below meth c H locs 0 0 (MQ below (QG D (wC cy ad Xr) A none r) [.ref (ad 1), .int x1, .int x2, .int x3].toArray s 0 0 A) (F0 m 90 ls [.int z2, .int z1, .ref (ad 6)]) := by
    intro z1 z2 S_90 H locs ls hf T hl
    unfold fX0_remember_j90 at hf
    obtain ⟨hin, hf⟩ := ck_inv hf
    obtain ⟨S1, e_S1, hf⟩ := nm_inv hf
    refine va_iast hx hb hK.1 T.1 T.2.1 T.2.2 9 0 rfl rfl hin dX0_remember_90 (fun H locs hP hD hS => ?_)
    have T : ST D (wC cy ad Xr) A s S1 H locs := ⟨by rw [e_S1]; exact hP, by rw [e_S1]; exact hD, hS⟩
    exact rf_vw hf X T hr dX0_remember_91
  refine lv_aload_n hx hb dX0_remember_0 rfl (lv_at hl 0 rfl) ?_
  refine va_get (D := D) (ci := 0) (v := .int (S.1 5)) (C := RX0) (T := TX0) (N := 13) hx hb hts hin_X0 hown hK.1 T.1 14 rfl rfl 10 (by decide) (hts _ (List.mem_of_getElem? (i := 1) rfl)) (fun _ h9 => h9) rfl dX0_remember_1 ?_
  refine lv_iconst (v := 5) hx hb dX0_remember_4 (by decide) ?_
  refine lv_imul hx hb dX0_remember_5 ?_
  refine lv_topi (fun v2 e_v2 => ?_)
  replace hf := nm_use hf e_v2
  refine lv_istore (lv' := [(4, .int v2), (0, .ref (ad 1)), (1, .int x1), (2, .int x2), (3, .int x3)]) hx hb dX0_remember_6 hl (by decide) rfl (fun ls hl => ?_)
  refine lv_iload hx hb dX0_remember_8 (lv_at hl 0 rfl) ?_
  refine lv_if_lt (tgt := 91) hx hb dX0_remember_10 (by decide) (fun hc => ?_) (fun hc => ?_)
  · replace hf := ifp hc hf
    exact rf_vw hf X T hr dX0_remember_91
  · replace hf := ifn hc hf
    refine lv_iload hx hb dX0_remember_13 (lv_at hl 0 rfl) ?_
    refine lv_iconst (v := 5) hx hb dX0_remember_15 (by decide) ?_
    refine lv_iadd hx hb dX0_remember_16 ?_
    refine lv_aload_n hx hb dX0_remember_17 rfl (lv_at hl 1 rfl) ?_
    refine va_get (D := D) (ci := 0) (v := .ref (ad 6)) (C := RX0) (T := TX0) (N := 13) hx hb hts hin_X0 hown hK.1 T.1 14 rfl rfl 4 (by decide) (hts _ (List.mem_of_getElem? (i := 2) rfl)) (fun _ h9 => h9) rfl dX0_remember_18 ?_
    refine va_alen (v := 505) hx hb hK.1 T.1 9 0 rfl rfl rfl dX0_remember_21 ?_
    refine lv_icmp_gt (tgt := 91) hx hb dX0_remember_22 (by decide) (fun hc => ?_) (fun hc => ?_)
    · replace hf := ifp hc hf
      exact rf_vw hf X T hr dX0_remember_91
    · replace hf := ifn hc hf
      refine lv_aload_n hx hb dX0_remember_25 rfl (lv_at hl 1 rfl) ?_
      refine va_get (D := D) (ci := 0) (v := .ref (ad 6)) (C := RX0) (T := TX0) (N := 13) hx hb hts hin_X0 hown hK.1 T.1 14 rfl rfl 4 (by decide) (hts _ (List.mem_of_getElem? (i := 2) rfl)) (fun _ h9 => h9) rfl dX0_remember_26 ?_
      refine lv_iload hx hb dX0_remember_29 (lv_at hl 0 rfl) ?_
      refine lv_iload_n hx hb dX0_remember_31 rfl (lv_at hl 2 rfl) ?_
      obtain ⟨hin, hf⟩ := ck_inv hf
      obtain ⟨S3, e_S3, hf⟩ := nm_inv hf
      refine va_iast hx hb hK.1 T.1 T.2.1 T.2.2 9 0 rfl rfl hin dX0_remember_32 (fun H locs hP hD hS => ?_)
      have T : ST D (wC cy ad Xr) A s S3 H locs := ⟨by rw [e_S3]; exact hP, by rw [e_S3]; exact hD, hS⟩
      refine lv_aload_n hx hb dX0_remember_33 rfl (lv_at hl 1 rfl) ?_
      refine va_get (D := D) (ci := 0) (v := .ref (ad 6)) (C := RX0) (T := TX0) (N := 13) hx hb hts hin_X0 hown hK.1 T.1 14 rfl rfl 4 (by decide) (hts _ (List.mem_of_getElem? (i := 2) rfl)) (fun _ h9 => h9) rfl dX0_remember_34 ?_
      refine lv_iload hx hb dX0_remember_37 (lv_at hl 0 rfl) ?_
      refine lv_iconst (v := 1) hx hb dX0_remember_39 (by decide) ?_
      refine lv_iadd hx hb dX0_remember_40 ?_
      refine lv_iload_n hx hb dX0_remember_41 rfl (lv_at hl 3 rfl) ?_
      obtain ⟨hin, hf⟩ := ck_inv hf
      obtain ⟨S4, e_S4, hf⟩ := nm_inv hf
      refine va_iast hx hb hK.1 T.1 T.2.1 T.2.2 9 0 rfl rfl hin dX0_remember_42 (fun H locs hP hD hS => ?_)
      have T : ST D (wC cy ad Xr) A s S4 H locs := ⟨by rw [e_S4]; exact hP, by rw [e_S4]; exact hD, hS⟩
      refine lv_aload_n hx hb dX0_remember_43 rfl (lv_at hl 1 rfl) ?_
      refine va_get (D := D) (ci := 0) (v := .ref (ad 6)) (C := RX0) (T := TX0) (N := 13) hx hb hts hin_X0 hown hK.1 T.1 14 rfl rfl 4 (by decide) (hts _ (List.mem_of_getElem? (i := 2) rfl)) (fun _ h9 => h9) rfl dX0_remember_44 ?_
      refine lv_iload hx hb dX0_remember_47 (lv_at hl 0 rfl) ?_
      refine lv_iconst (v := 2) hx hb dX0_remember_49 (by decide) ?_
      refine lv_iadd hx hb dX0_remember_50 ?_
      refine lv_iload_n hx hb dX0_remember_51 rfl (lv_at hl 4 rfl) ?_
      obtain ⟨hin, hf⟩ := ck_inv hf
      obtain ⟨S5, e_S5, hf⟩ := nm_inv hf
      refine va_iast hx hb hK.1 T.1 T.2.1 T.2.2 9 0 rfl rfl hin dX0_remember_52 (fun H locs hP hD hS => ?_)
      have T : ST D (wC cy ad Xr) A s S5 H locs := ⟨by rw [e_S5]; exact hP, by rw [e_S5]; exact hD, hS⟩
      refine lv_aload_n hx hb dX0_remember_53 rfl (lv_at hl 1 rfl) ?_
      refine va_get (D := D) (ci := 0) (v := .ref (ad 6)) (C := RX0) (T := TX0) (N := 13) hx hb hts hin_X0 hown hK.1 T.1 14 rfl rfl 4 (by decide) (hts _ (List.mem_of_getElem? (i := 2) rfl)) (fun _ h9 => h9) rfl dX0_remember_54 ?_
      refine lv_iload hx hb dX0_remember_57 (lv_at hl 0 rfl) ?_
      refine lv_iconst (v := 3) hx hb dX0_remember_59 (by decide) ?_
      refine lv_iadd hx hb dX0_remember_60 ?_
      refine lv_aload_n hx hb dX0_remember_61 rfl (lv_at hl 1 rfl) ?_
      refine lv_iload_n hx hb dX0_remember_62 rfl (lv_at hl 2 rfl) ?_
      obtain ⟨v7, h6, hf⟩ := bnd_inv hf
      refine cg_S (As := [.int x1]) (rest := [.ref (ad 1), .int (v2 + 3), .ref (ad 6)]) X T (kX0_builtCellOf l D cy ad Xr S5 x1 v7 h6) (va_cwS 1 hts gX0_remember_X0_builtCellOf rfl rfl rfl (by decide +kernel) ⟨Nat.le_of_ble_eq_true rfl, Nat.le_of_ble_eq_true rfl⟩) rfl hl.1 rfl (Nat.le_of_ble_eq_true rfl) dX0_remember_63 ⟨Nat.zero_le _, Nat.zero_le _⟩ (st2 := [.int v7, .ref (ad 1), .int (v2 + 3), .ref (ad 6)]) (pc2 := 66) rfl rfl (fun H locs T => ?_)
      obtain ⟨v9, h8, hf⟩ := bnd_inv hf
      refine cg_V (q0 := 14) (ci := 0) (As := [.int v7]) (rest := [.int (v2 + 3), .ref (ad 6)]) X T (kX0_storeysOf l D cy ad Xr S5 v7 v9 h8) (cwV 1 hts gX0_remember_X0_storeysOf rfl rfl rfl (by decide +kernel) ⟨Nat.le_of_ble_eq_true rfl, Nat.le_of_ble_eq_true rfl⟩) rfl rfl rfl hl.1 rfl (Nat.le_of_ble_eq_true rfl) dX0_remember_66 ⟨Nat.zero_le _, Nat.zero_le _⟩ (st2 := [.int v9, .int (v2 + 3), .ref (ad 6)]) (pc2 := 69) rfl rfl (fun H locs T => ?_)
      obtain ⟨hin, hf⟩ := ck_inv hf
      obtain ⟨S10, e_S10, hf⟩ := nm_inv hf
      refine va_iast hx hb hK.1 T.1 T.2.1 T.2.2 9 0 rfl rfl hin dX0_remember_69 (fun H locs hP hD hS => ?_)
      have T : ST D (wC cy ad Xr) A s S10 H locs := ⟨by rw [e_S10]; exact hP, by rw [e_S10]; exact hD, hS⟩
      refine lv_aload_n hx hb dX0_remember_70 rfl (lv_at hl 1 rfl) ?_
      refine va_get (D := D) (ci := 0) (v := .ref (ad 6)) (C := RX0) (T := TX0) (N := 13) hx hb hts hin_X0 hown hK.1 T.1 14 rfl rfl 4 (by decide) (hts _ (List.mem_of_getElem? (i := 2) rfl)) (fun _ h9 => h9) rfl dX0_remember_71 ?_
      refine lv_iload hx hb dX0_remember_74 (lv_at hl 0 rfl) ?_
      refine lv_iconst (v := 4) hx hb dX0_remember_76 (by decide) ?_
      refine lv_iadd hx hb dX0_remember_77 ?_
      refine lv_aload_n hx hb dX0_remember_78 rfl (lv_at hl 1 rfl) ?_
      refine va_get (D := D) (ci := 0) (v := .int (S10.1 7)) (C := RX0) (T := TX0) (N := 13) hx hb hts hin_X0 hown hK.1 T.1 14 rfl rfl 12 (by decide) (hts _ (List.mem_of_getElem? (i := 3) rfl)) (fun _ h9 => h9) rfl dX0_remember_79 ?_
      refine lv_if_eq (tgt := 89) hx hb dX0_remember_82 (by decide) (fun hc => ?_) (fun hc => ?_)
      · replace hf := ifp hc hf
        refine lv_iconst (v := 0) hx hb dX0_remember_89 (by decide) ?_
        exact j_90 (v2 + 4) 0 S10 _ _ _ hf T (lv_sub hl [] rfl)
      · replace hf := ifn hc hf
        refine lv_iconst (v := 1) hx hb dX0_remember_85 (by decide) ?_
        refine lv_goto (tgt := 90) hx hb dX0_remember_86 (by decide) ?_
        exact j_90 (v2 + 4) 1 S10 _ _ _ hf T (lv_sub hl [] rfl)

noncomputable def fX0_addBuilder_j16 (y1 : Int32) (z0 : Int32) (S_16 : SC) : Option SC :=
  nm ((S_16.1 4) - (z0 * (S_16.1 1)) : Int32) fun v1 =>
  bnd (fX0_put S_16 (((10 : Int32) * z0) + v1) y1) fun S3 =>
  nm (setS S3 4 ((S3.1 4) + 1) : SC) fun S4 =>
  bnd (fX0_isSet S4) fun v6 =>
  if v6 = 0 then
    some S4
  else
    bnd (fX0_hasTurn S4 0) fun v8 =>
    if v8 = 0 then
      nm (setS S4 6 1 : SC) fun S9 =>
      some S9
    else
      some S4
noncomputable def fX0_addBuilder (S : SC) (x1 : Int32) : Option SC :=
  if S.1 1 ≤ S.1 4 then
    fX0_addBuilder_j16 x1 1 S
  else
    fX0_addBuilder_j16 x1 0 S
set_option maxHeartbeats 4000000 in
set_option maxRecDepth 100000 in
theorem kX0_addBuilder (l : Launch) (D : va_G) (cy : Nat → ClassId) (ad : Nat → Nat) (Xr : va_W) (S : SC) (x1 : Int32) (r : SC) (hf : fX0_addBuilder S x1 = some r) : CG l D cy (wC cy ad Xr) yX0_addBuilder wsX0_addBuilder ({ frames := 4, cells := 0, slots := 0, locals := 100 } : Room) [.ref (ad 1), .int x1] S none r := by
  refine CG.of (cc := cX0_addBuilder) (maxL := 4) (ret := none) (by decide +kernel) rfl (Nat.le_of_ble_eq_true rfl) ?_
  intro p e s m below meth c A ls X hr T hl
  obtain ⟨hx, hb, hml, hown, hts, hlk, hK, hA, hwA⟩ := id X
  have hl : lv_has ls 4 [(0, .ref (ad 1)), (1, .int x1)] := hl
  have hin_X0 : ∀ w ∈ u_ws RX0 TX0 13, w ∈ wsX0_addBuilder := fun w h => (List.mem_cons_of_mem _ (List.mem_append_right _ h))
  unfold fX0_addBuilder at hf
  have j_16 : ∀ (y1 : Int32) (z0 : Int32) (S_16 : SC) (H : Heap) (locs : List Loc) (ls : Array Slot), fX0_addBuilder_j16 y1 z0 S_16 = some r → ST D (wC cy ad Xr) A s S_16 H locs → lv_has ls 4 [(0, .ref (ad 1)), (1, .int y1)] → W p l e ({ frames := 4, cells := 0, slots := 0, locals := 100 } : Room) s m [.ref (ad 1), .int x1].toArray below meth c H locs 0 0 (MQ below (QG D (wC cy ad Xr) A none r) [.ref (ad 1), .int x1].toArray s 0 0 A) (F0 m 16 ls [.int z0]) := by
    intro y1 z0 S_16 H locs ls hf T hl
    unfold fX0_addBuilder_j16 at hf
    refine lv_istore_n (lv' := [(2, .int z0), (0, .ref (ad 1)), (1, .int y1)]) hx hb dX0_addBuilder_16 rfl hl (by decide) rfl (fun ls hl => ?_)
    refine lv_aload_n hx hb dX0_addBuilder_17 rfl (lv_at hl 1 rfl) ?_
    refine va_get (D := D) (ci := 0) (v := .int (S_16.1 4)) (C := RX0) (T := TX0) (N := 13) hx hb hts hin_X0 hown hK.1 T.1 14 rfl rfl 9 (by decide) (hts _ (List.mem_of_getElem? (i := 1) rfl)) (fun _ h9 => h9) rfl dX0_addBuilder_18 ?_
    refine lv_iload_n hx hb dX0_addBuilder_21 rfl (lv_at hl 0 rfl) ?_
    refine lv_aload_n hx hb dX0_addBuilder_22 rfl (lv_at hl 1 rfl) ?_
    refine va_get (D := D) (ci := 0) (v := .int (S_16.1 1)) (C := RX0) (T := TX0) (N := 13) hx hb hts hin_X0 hown hK.1 T.1 14 rfl rfl 6 (by decide) (hts _ (List.mem_of_getElem? (i := 2) rfl)) (fun _ h9 => h9) rfl dX0_addBuilder_23 ?_
    refine lv_imul hx hb dX0_addBuilder_26 ?_
    refine lv_isub hx hb dX0_addBuilder_27 ?_
    refine lv_topi (fun v1 e_v1 => ?_)
    replace hf := nm_use hf e_v1
    refine lv_istore_n (lv' := [(3, .int v1), (2, .int z0), (0, .ref (ad 1)), (1, .int y1)]) hx hb dX0_addBuilder_28 rfl hl (by decide) rfl (fun ls hl => ?_)
    refine lv_aload_n hx hb dX0_addBuilder_29 rfl (lv_at hl 2 rfl) ?_
    refine lv_bipush (v := 10) hx hb dX0_addBuilder_30 (by decide) ?_
    refine lv_iload_n hx hb dX0_addBuilder_32 rfl (lv_at hl 1 rfl) ?_
    refine lv_imul hx hb dX0_addBuilder_33 ?_
    refine lv_iload_n hx hb dX0_addBuilder_34 rfl (lv_at hl 0 rfl) ?_
    refine lv_iadd hx hb dX0_addBuilder_35 ?_
    refine lv_iload_n hx hb dX0_addBuilder_36 rfl (lv_at hl 3 rfl) ?_
    obtain ⟨S3, h2, hf⟩ := bnd_inv hf
    refine cg_V (q0 := 14) (ci := 0) (As := [.int (((10 : Int32) * z0) + v1), .int y1]) (rest := []) X T (kX0_put l D cy ad Xr S_16 (((10 : Int32) * z0) + v1) y1 S3 h2) (cwV 2 hts gX0_addBuilder_X0_put rfl rfl rfl (by decide +kernel) ⟨Nat.le_of_ble_eq_true rfl, Nat.le_of_ble_eq_true rfl⟩) rfl rfl rfl hl.1 rfl (Nat.le_of_ble_eq_true rfl) dX0_addBuilder_37 ⟨Nat.zero_le _, Nat.zero_le _⟩ (st2 := []) (pc2 := 40) rfl rfl (fun H locs T => ?_)
    refine lv_aload_n hx hb dX0_addBuilder_40 rfl (lv_at hl 2 rfl) ?_
    refine lv_dup hx hb dX0_addBuilder_41 rfl ?_
    refine va_get (D := D) (ci := 0) (v := .int (S3.1 4)) (C := RX0) (T := TX0) (N := 13) hx hb hts hin_X0 hown hK.1 T.1 14 rfl rfl 9 (by decide) (hts _ (List.mem_of_getElem? (i := 1) rfl)) (fun _ h9 => h9) rfl dX0_addBuilder_42 ?_
    refine lv_iconst (v := 1) hx hb dX0_addBuilder_45 (by decide) ?_
    refine lv_iadd hx hb dX0_addBuilder_46 ?_
    obtain ⟨S4, e_S4, hf⟩ := nm_inv hf
    refine va_put (D := D) (ci := 0) (v := .int ((S3.1 4) + 1)) (ty := .int) (C := RX0) (T := TX0) (N := 13) hx hb hts hin_X0 tyX0 tyX0_ok nmX0 hown hK.1 T.1 T.2.1 T.2.2 14 rfl rfl 9 (by decide) (hts _ (List.mem_of_getElem? (i := 1) rfl)) (fun _ h9 => h9) rfl (by decide +kernel) rfl rfl (Nat.le_of_ble_eq_true rfl) dX0_addBuilder_47 (fun H locs hP hD hS => ?_)
    have T : ST D (wC cy ad Xr) A s S4 H locs := ⟨by rw [e_S4]; exact hP, by rw [e_S4]; exact hD, hS⟩
    refine lv_aload_n hx hb dX0_addBuilder_50 rfl (lv_at hl 2 rfl) ?_
    obtain ⟨v6, h5, hf⟩ := bnd_inv hf
    refine cg_V (q0 := 14) (ci := 0) (As := []) (rest := []) X T (kX0_isSet l D cy ad Xr S4 v6 h5) (cwV 0 hts gX0_addBuilder_X0_isSet rfl rfl rfl (by decide +kernel) ⟨Nat.le_of_ble_eq_true rfl, Nat.le_of_ble_eq_true rfl⟩) rfl rfl rfl hl.1 rfl (Nat.le_of_ble_eq_true rfl) dX0_addBuilder_51 ⟨Nat.zero_le _, Nat.zero_le _⟩ (st2 := [.int v6]) (pc2 := 54) rfl rfl (fun H locs T => ?_)
    refine lv_if_eq (tgt := 70) hx hb dX0_addBuilder_54 (by decide) (fun hc => ?_) (fun hc => ?_)
    · replace hf := ifp hc hf
      exact rf_vw hf X T hr dX0_addBuilder_70
    · replace hf := ifn hc hf
      refine lv_aload_n hx hb dX0_addBuilder_57 rfl (lv_at hl 2 rfl) ?_
      refine lv_iconst (v := 0) hx hb dX0_addBuilder_58 (by decide) ?_
      obtain ⟨v8, h7, hf⟩ := bnd_inv hf
      refine cg_V (q0 := 14) (ci := 0) (As := [.int 0]) (rest := []) X T (kX0_hasTurn l D cy ad Xr S4 0 v8 h7) (cwV 1 hts gX0_addBuilder_X0_hasTurn rfl rfl rfl (by decide +kernel) ⟨Nat.le_of_ble_eq_true rfl, Nat.le_of_ble_eq_true rfl⟩) rfl rfl rfl hl.1 rfl (Nat.le_of_ble_eq_true rfl) dX0_addBuilder_59 ⟨Nat.zero_le _, Nat.zero_le _⟩ (st2 := [.int v8]) (pc2 := 62) rfl rfl (fun H locs T => ?_)
      refine lv_if_ne (tgt := 70) hx hb dX0_addBuilder_62 (by decide) (fun hc => ?_) (fun hc => ?_)
      · replace hf := ifn hc hf
        exact rf_vw hf X T hr dX0_addBuilder_70
      · replace hf := ifp hc hf
        refine lv_aload_n hx hb dX0_addBuilder_65 rfl (lv_at hl 2 rfl) ?_
        refine lv_iconst (v := 1) hx hb dX0_addBuilder_66 (by decide) ?_
        obtain ⟨S9, e_S9, hf⟩ := nm_inv hf
        refine va_put (D := D) (ci := 0) (v := .int 1) (ty := .int) (C := RX0) (T := TX0) (N := 13) hx hb hts hin_X0 tyX0 tyX0_ok nmX0 hown hK.1 T.1 T.2.1 T.2.2 14 rfl rfl 11 (by decide) (hts _ (List.mem_of_getElem? (i := 3) rfl)) (fun _ h9 => h9) rfl (by decide +kernel) rfl rfl (Nat.le_of_ble_eq_true rfl) dX0_addBuilder_67 (fun H locs hP hD hS => ?_)
        have T : ST D (wC cy ad Xr) A s S9 H locs := ⟨by rw [e_S9]; exact hP, by rw [e_S9]; exact hD, hS⟩
        exact rf_vw hf X T hr dX0_addBuilder_70
  refine lv_aload_n hx hb dX0_addBuilder_0 rfl (lv_at hl 0 rfl) ?_
  refine va_get (D := D) (ci := 0) (v := .int (S.1 4)) (C := RX0) (T := TX0) (N := 13) hx hb hts hin_X0 hown hK.1 T.1 14 rfl rfl 9 (by decide) (hts _ (List.mem_of_getElem? (i := 1) rfl)) (fun _ h9 => h9) rfl dX0_addBuilder_1 ?_
  refine lv_aload_n hx hb dX0_addBuilder_4 rfl (lv_at hl 0 rfl) ?_
  refine va_get (D := D) (ci := 0) (v := .int (S.1 1)) (C := RX0) (T := TX0) (N := 13) hx hb hts hin_X0 hown hK.1 T.1 14 rfl rfl 6 (by decide) (hts _ (List.mem_of_getElem? (i := 2) rfl)) (fun _ h9 => h9) rfl dX0_addBuilder_5 ?_
  refine lv_icmp_ge (tgt := 15) hx hb dX0_addBuilder_8 (by decide) (fun hc => ?_) (fun hc => ?_)
  · replace hf := ifp hc hf
    refine lv_iconst (v := 1) hx hb dX0_addBuilder_15 (by decide) ?_
    exact j_16 x1 1 S _ _ _ hf T (lv_sub hl [0, 1] rfl)
  · replace hf := ifn hc hf
    refine lv_iconst (v := 0) hx hb dX0_addBuilder_11 (by decide) ?_
    refine lv_goto (tgt := 16) hx hb dX0_addBuilder_12 (by decide) ?_
    exact j_16 x1 0 S _ _ _ hf T (lv_sub hl [0, 1] rfl)

noncomputable def fX0_perform_j157 (y2 : Int32) (S_157 : SC) : Option SC :=
  nm (setS S_157 6 y2 : SC) fun S1 =>
  some S1
noncomputable def fX0_perform_j140 (y2 : Int32) (y5 : Int32) (S_140 : SC) : Option SC :=
  if y5 = 99 then
    fX0_perform_j157 y2 S_140
  else
    bnd (fX0_hasTurn S_140 ((1 : Int32) - y2)) fun v3 =>
    if v3 = 0 then
      fX0_perform_j157 y2 S_140
    else
      some S_140
noncomputable def fX0_perform_j77 (y2 : Int32) (y3 : Int32) (y4 : Int32) (y5 : Int32) (y6 : Int32) (z1 : Int32) (S_77 : SC) : Option SC :=
  cp (z1 = 0 ∨ z1 = 1) <|
  nm (setS S_77 7 z1 : SC) fun S4 =>
  bnd (fX0_carry S4 y3 y4 y6) fun S6 =>
  nm (setS S6 5 ((S6.1 5) + 1) : SC) fun S7 =>
  if (50 : Int32) ≤ y5 then
    if (99 : Int32) ≤ y5 then
      fX0_perform_j140 y2 y5 S7
    else
      bnd (fX0_setStoreys S7 (y5 - 50) 4) fun S9 =>
      fX0_perform_j140 y2 y5 S9
  else
    bnd (fX0_storeysOf S7 y5) fun v11 =>
    bnd (fX0_setStoreys S7 y5 (v11 + 1)) fun S13 =>
    fX0_perform_j140 y2 y5 S13
noncomputable def fX0_perform_j76 (y2 : Int32) (y3 : Int32) (y4 : Int32) (y5 : Int32) (y6 : Int32) (S_76 : SC) : Option SC :=
  fX0_perform_j77 y2 y3 y4 y5 y6 0 S_76
noncomputable def fX0_perform (S : SC) (x1 : Int32) : Option SC :=
  nm ((S.1 5) - (S.1 5) / 2 * 2 : Int32) fun v14 =>
  bnd (fX0_spotOf S v14 (x1 / 10000)) fun v16 =>
  bnd (fX0_destinationOf S x1) fun v18 =>
  nm (x1 - x1 / 100 * 100 : Int32) fun v19 =>
  bnd (fX0_asideOf S v14 v16 v18) fun v21 =>
  bnd (fX0_remember S x1 v16 v21) fun S23 =>
  bnd (fX0_powerOf S23 v14) fun v25 =>
  if v25 = 4 then
    bnd (fX0_storeysOf S23 v18) fun v27 =>
    bnd (fX0_storeysOf S23 v16) fun v29 =>
    if v27 ≤ v29 then
      fX0_perform_j76 v14 v16 v18 v19 v21 S23
    else
      fX0_perform_j77 v14 v16 v18 v19 v21 1 S23
  else
    fX0_perform_j76 v14 v16 v18 v19 v21 S23
set_option maxHeartbeats 4000000 in
set_option maxRecDepth 100000 in
theorem kX0_perform (l : Launch) (D : va_G) (cy : Nat → ClassId) (ad : Nat → Nat) (Xr : va_W) (S : SC) (x1 : Int32) (r : SC) (hf : fX0_perform S x1 = some r) : CG l D cy (wC cy ad Xr) yX0_perform wsX0_perform ({ frames := 4, cells := 0, slots := 0, locals := 100 } : Room) [.ref (ad 1), .int x1] S none r := by
  refine CG.of (cc := cX0_perform) (maxL := 7) (ret := none) (by decide +kernel) rfl (Nat.le_of_ble_eq_true rfl) ?_
  intro p e s m below meth c A ls X hr T hl
  obtain ⟨hx, hb, hml, hown, hts, hlk, hK, hA, hwA⟩ := id X
  have hl : lv_has ls 7 [(0, .ref (ad 1)), (1, .int x1)] := hl
  have hin_X0 : ∀ w ∈ u_ws RX0 TX0 13, w ∈ wsX0_perform := fun w h => (List.mem_cons_of_mem _ (List.mem_append_right _ h))
  unfold fX0_perform at hf
  have j_157 : ∀ (y2 : Int32) (S_157 : SC) (H : Heap) (locs : List Loc) (ls : Array Slot), fX0_perform_j157 y2 S_157 = some r → ST D (wC cy ad Xr) A s S_157 H locs → lv_has ls 7 [(0, .ref (ad 1)), (2, .int y2)] → W p l e ({ frames := 4, cells := 0, slots := 0, locals := 100 } : Room) s m [.ref (ad 1), .int x1].toArray below meth c H locs 0 0 (MQ below (QG D (wC cy ad Xr) A none r) [.ref (ad 1), .int x1].toArray s 0 0 A) (F0 m 157 ls []) := by
    intro y2 S_157 H locs ls hf T hl
    unfold fX0_perform_j157 at hf
    refine lv_aload_n hx hb dX0_perform_157 rfl (lv_at hl 0 rfl) ?_
    refine lv_iload_n hx hb dX0_perform_158 rfl (lv_at hl 1 rfl) ?_
    obtain ⟨S1, e_S1, hf⟩ := nm_inv hf
    refine va_put (D := D) (ci := 0) (v := .int y2) (ty := .int) (C := RX0) (T := TX0) (N := 13) hx hb hts hin_X0 tyX0 tyX0_ok nmX0 hown hK.1 T.1 T.2.1 T.2.2 14 rfl rfl 11 (by decide) (hts _ (List.mem_of_getElem? (i := 3) rfl)) (fun _ h9 => h9) rfl (by decide +kernel) rfl rfl (Nat.le_of_ble_eq_true rfl) dX0_perform_159 (fun H locs hP hD hS => ?_)
    have T : ST D (wC cy ad Xr) A s S1 H locs := ⟨by rw [e_S1]; exact hP, by rw [e_S1]; exact hD, hS⟩
    exact rf_vw hf X T hr dX0_perform_162
  have j_140 : ∀ (y2 : Int32) (y5 : Int32) (S_140 : SC) (H : Heap) (locs : List Loc) (ls : Array Slot), fX0_perform_j140 y2 y5 S_140 = some r → ST D (wC cy ad Xr) A s S_140 H locs → lv_has ls 7 [(0, .ref (ad 1)), (2, .int y2), (5, .int y5)] → W p l e ({ frames := 4, cells := 0, slots := 0, locals := 100 } : Room) s m [.ref (ad 1), .int x1].toArray below meth c H locs 0 0 (MQ below (QG D (wC cy ad Xr) A none r) [.ref (ad 1), .int x1].toArray s 0 0 A) (F0 m 140 ls []) := by
    intro y2 y5 S_140 H locs ls hf T hl
    unfold fX0_perform_j140 at hf
    refine lv_iload hx hb dX0_perform_140 (lv_at hl 2 rfl) ?_
    refine lv_bipush (v := 99) hx hb dX0_perform_142 (by decide) ?_
    refine lv_icmp_eq (tgt := 157) hx hb dX0_perform_144 (by decide) (fun hc => ?_) (fun hc => ?_)
    · replace hf := ifp hc hf
      exact j_157 y2 S_140 _ _ _ hf T (lv_sub hl [0, 1] rfl)
    · replace hf := ifn hc hf
      refine lv_aload_n hx hb dX0_perform_147 rfl (lv_at hl 0 rfl) ?_
      refine lv_iconst (v := 1) hx hb dX0_perform_148 (by decide) ?_
      refine lv_iload_n hx hb dX0_perform_149 rfl (lv_at hl 1 rfl) ?_
      refine lv_isub hx hb dX0_perform_150 ?_
      obtain ⟨v3, h2, hf⟩ := bnd_inv hf
      refine cg_V (q0 := 14) (ci := 0) (As := [.int ((1 : Int32) - y2)]) (rest := []) X T (kX0_hasTurn l D cy ad Xr S_140 ((1 : Int32) - y2) v3 h2) (cwV 1 hts gX0_perform_X0_hasTurn rfl rfl rfl (by decide +kernel) ⟨Nat.le_of_ble_eq_true rfl, Nat.le_of_ble_eq_true rfl⟩) rfl rfl rfl hl.1 rfl (Nat.le_of_ble_eq_true rfl) dX0_perform_151 ⟨Nat.zero_le _, Nat.zero_le _⟩ (st2 := [.int v3]) (pc2 := 154) rfl rfl (fun H locs T => ?_)
      refine lv_if_ne (tgt := 162) hx hb dX0_perform_154 (by decide) (fun hc => ?_) (fun hc => ?_)
      · replace hf := ifn hc hf
        exact rf_vw hf X T hr dX0_perform_162
      · replace hf := ifp hc hf
        exact j_157 y2 S_140 _ _ _ hf T (lv_sub hl [0, 1] rfl)
  have j_77 : ∀ (y2 : Int32) (y3 : Int32) (y4 : Int32) (y5 : Int32) (y6 : Int32) (z1 : Int32) (S_77 : SC) (H : Heap) (locs : List Loc) (ls : Array Slot), fX0_perform_j77 y2 y3 y4 y5 y6 z1 S_77 = some r → ST D (wC cy ad Xr) A s S_77 H locs → lv_has ls 7 [(0, .ref (ad 1)), (2, .int y2), (3, .int y3), (4, .int y4), (5, .int y5), (6, .int y6)] → W p l e ({ frames := 4, cells := 0, slots := 0, locals := 100 } : Room) s m [.ref (ad 1), .int x1].toArray below meth c H locs 0 0 (MQ below (QG D (wC cy ad Xr) A none r) [.ref (ad 1), .int x1].toArray s 0 0 A) (F0 m 77 ls [.int z1, .ref (ad 1)]) := by
    intro y2 y3 y4 y5 y6 z1 S_77 H locs ls hf T hl
    unfold fX0_perform_j77 at hf
    obtain ⟨hz1, hf⟩ := cp_inv hf
    obtain ⟨S4, e_S4, hf⟩ := nm_inv hf
    refine va_put (D := D) (ci := 0) (v := .int z1) (ty := .boolean) (C := RX0) (T := TX0) (N := 13) hx hb hts hin_X0 tyX0 tyX0_ok nmX0 hown hK.1 T.1 T.2.1 T.2.2 14 rfl rfl 12 (by decide) (hts _ (List.mem_of_getElem? (i := 2) rfl)) (fun _ h9 => h9) rfl (by decide +kernel) (nz_n hz1) (nz_f hz1) (Nat.le_of_ble_eq_true rfl) dX0_perform_77 (fun H locs hP hD hS => ?_)
    have T : ST D (wC cy ad Xr) A s S4 H locs := ⟨by rw [e_S4]; exact hP, by rw [e_S4]; exact hD, hS⟩
    refine lv_aload_n hx hb dX0_perform_80 rfl (lv_at hl 0 rfl) ?_
    refine lv_iload_n hx hb dX0_perform_81 rfl (lv_at hl 2 rfl) ?_
    refine lv_iload hx hb dX0_perform_82 (lv_at hl 3 rfl) ?_
    refine lv_iload hx hb dX0_perform_84 (lv_at hl 5 rfl) ?_
    obtain ⟨S6, h5, hf⟩ := bnd_inv hf
    refine cg_V (q0 := 14) (ci := 0) (As := [.int y3, .int y4, .int y6]) (rest := []) X T (kX0_carry l D cy ad Xr S4 y3 y4 y6 S6 h5) (cwV 3 hts gX0_perform_X0_carry rfl rfl rfl (by decide +kernel) ⟨Nat.le_of_ble_eq_true rfl, Nat.le_of_ble_eq_true rfl⟩) rfl rfl rfl hl.1 rfl (Nat.le_of_ble_eq_true rfl) dX0_perform_86 ⟨Nat.zero_le _, Nat.zero_le _⟩ (st2 := []) (pc2 := 89) rfl rfl (fun H locs T => ?_)
    refine lv_aload_n hx hb dX0_perform_89 rfl (lv_at hl 0 rfl) ?_
    refine lv_dup hx hb dX0_perform_90 rfl ?_
    refine va_get (D := D) (ci := 0) (v := .int (S6.1 5)) (C := RX0) (T := TX0) (N := 13) hx hb hts hin_X0 hown hK.1 T.1 14 rfl rfl 10 (by decide) (hts _ (List.mem_of_getElem? (i := 1) rfl)) (fun _ h9 => h9) rfl dX0_perform_91 ?_
    refine lv_iconst (v := 1) hx hb dX0_perform_94 (by decide) ?_
    refine lv_iadd hx hb dX0_perform_95 ?_
    obtain ⟨S7, e_S7, hf⟩ := nm_inv hf
    refine va_put (D := D) (ci := 0) (v := .int ((S6.1 5) + 1)) (ty := .int) (C := RX0) (T := TX0) (N := 13) hx hb hts hin_X0 tyX0 tyX0_ok nmX0 hown hK.1 T.1 T.2.1 T.2.2 14 rfl rfl 10 (by decide) (hts _ (List.mem_of_getElem? (i := 1) rfl)) (fun _ h9 => h9) rfl (by decide +kernel) rfl rfl (Nat.le_of_ble_eq_true rfl) dX0_perform_96 (fun H locs hP hD hS => ?_)
    have T : ST D (wC cy ad Xr) A s S7 H locs := ⟨by rw [e_S7]; exact hP, by rw [e_S7]; exact hD, hS⟩
    refine lv_iload hx hb dX0_perform_99 (lv_at hl 4 rfl) ?_
    refine lv_bipush (v := 50) hx hb dX0_perform_101 (by decide) ?_
    refine lv_icmp_ge (tgt := 123) hx hb dX0_perform_103 (by decide) (fun hc => ?_) (fun hc => ?_)
    · replace hf := ifp hc hf
      refine lv_iload hx hb dX0_perform_123 (lv_at hl 4 rfl) ?_
      refine lv_bipush (v := 99) hx hb dX0_perform_125 (by decide) ?_
      refine lv_icmp_ge (tgt := 140) hx hb dX0_perform_127 (by decide) (fun hc => ?_) (fun hc => ?_)
      · replace hf := ifp hc hf
        exact j_140 y2 y5 S7 _ _ _ hf T (lv_sub hl [0, 1, 4] rfl)
      · replace hf := ifn hc hf
        refine lv_aload_n hx hb dX0_perform_130 rfl (lv_at hl 0 rfl) ?_
        refine lv_iload hx hb dX0_perform_131 (lv_at hl 4 rfl) ?_
        refine lv_bipush (v := 50) hx hb dX0_perform_133 (by decide) ?_
        refine lv_isub hx hb dX0_perform_135 ?_
        refine lv_iconst (v := 4) hx hb dX0_perform_136 (by decide) ?_
        obtain ⟨S9, h8, hf⟩ := bnd_inv hf
        refine cg_V (q0 := 14) (ci := 0) (As := [.int (y5 - 50), .int 4]) (rest := []) X T (kX0_setStoreys l D cy ad Xr S7 (y5 - 50) 4 S9 h8) (cwV 2 hts gX0_perform_X0_setStoreys rfl rfl rfl (by decide +kernel) ⟨Nat.le_of_ble_eq_true rfl, Nat.le_of_ble_eq_true rfl⟩) rfl rfl rfl hl.1 rfl (Nat.le_of_ble_eq_true rfl) dX0_perform_137 ⟨Nat.zero_le _, Nat.zero_le _⟩ (st2 := []) (pc2 := 140) rfl rfl (fun H locs T => ?_)
        exact j_140 y2 y5 S9 _ _ _ hf T (lv_sub hl [0, 1, 4] rfl)
    · replace hf := ifn hc hf
      refine lv_aload_n hx hb dX0_perform_106 rfl (lv_at hl 0 rfl) ?_
      refine lv_iload hx hb dX0_perform_107 (lv_at hl 4 rfl) ?_
      refine lv_aload_n hx hb dX0_perform_109 rfl (lv_at hl 0 rfl) ?_
      refine lv_iload hx hb dX0_perform_110 (lv_at hl 4 rfl) ?_
      obtain ⟨v11, h10, hf⟩ := bnd_inv hf
      refine cg_V (q0 := 14) (ci := 0) (As := [.int y5]) (rest := [.int y5, .ref (ad 1)]) X T (kX0_storeysOf l D cy ad Xr S7 y5 v11 h10) (cwV 1 hts gX0_perform_X0_storeysOf rfl rfl rfl (by decide +kernel) ⟨Nat.le_of_ble_eq_true rfl, Nat.le_of_ble_eq_true rfl⟩) rfl rfl rfl hl.1 rfl (Nat.le_of_ble_eq_true rfl) dX0_perform_112 ⟨Nat.zero_le _, Nat.zero_le _⟩ (st2 := [.int v11, .int y5, .ref (ad 1)]) (pc2 := 115) rfl rfl (fun H locs T => ?_)
      refine lv_iconst (v := 1) hx hb dX0_perform_115 (by decide) ?_
      refine lv_iadd hx hb dX0_perform_116 ?_
      obtain ⟨S13, h12, hf⟩ := bnd_inv hf
      refine cg_V (q0 := 14) (ci := 0) (As := [.int y5, .int (v11 + 1)]) (rest := []) X T (kX0_setStoreys l D cy ad Xr S7 y5 (v11 + 1) S13 h12) (cwV 2 hts gX0_perform_X0_setStoreys rfl rfl rfl (by decide +kernel) ⟨Nat.le_of_ble_eq_true rfl, Nat.le_of_ble_eq_true rfl⟩) rfl rfl rfl hl.1 rfl (Nat.le_of_ble_eq_true rfl) dX0_perform_117 ⟨Nat.zero_le _, Nat.zero_le _⟩ (st2 := []) (pc2 := 120) rfl rfl (fun H locs T => ?_)
      refine lv_goto (tgt := 140) hx hb dX0_perform_120 (by decide) ?_
      exact j_140 y2 y5 S13 _ _ _ hf T (lv_sub hl [0, 1, 4] rfl)
  have j_76 : ∀ (y2 : Int32) (y3 : Int32) (y4 : Int32) (y5 : Int32) (y6 : Int32) (S_76 : SC) (H : Heap) (locs : List Loc) (ls : Array Slot), fX0_perform_j76 y2 y3 y4 y5 y6 S_76 = some r → ST D (wC cy ad Xr) A s S_76 H locs → lv_has ls 7 [(0, .ref (ad 1)), (2, .int y2), (3, .int y3), (4, .int y4), (5, .int y5), (6, .int y6)] → W p l e ({ frames := 4, cells := 0, slots := 0, locals := 100 } : Room) s m [.ref (ad 1), .int x1].toArray below meth c H locs 0 0 (MQ below (QG D (wC cy ad Xr) A none r) [.ref (ad 1), .int x1].toArray s 0 0 A) (F0 m 76 ls [.ref (ad 1)]) := by
    intro y2 y3 y4 y5 y6 S_76 H locs ls hf T hl
    unfold fX0_perform_j76 at hf
    refine lv_iconst (v := 0) hx hb dX0_perform_76 (by decide) ?_
    exact j_77 y2 y3 y4 y5 y6 0 S_76 _ _ _ hf T (lv_sub hl [0, 1, 2, 3, 4, 5] rfl)
  refine lv_aload_n hx hb dX0_perform_0 rfl (lv_at hl 0 rfl) ?_
  refine va_get (D := D) (ci := 0) (v := .int (S.1 5)) (C := RX0) (T := TX0) (N := 13) hx hb hts hin_X0 hown hK.1 T.1 14 rfl rfl 10 (by decide) (hts _ (List.mem_of_getElem? (i := 1) rfl)) (fun _ h9 => h9) rfl dX0_perform_1 ?_
  refine lv_iconst (v := 2) hx hb dX0_perform_4 (by decide) ?_
  refine lv_irem hx hb dX0_perform_5 (by decide) ?_
  refine lv_topi (fun v14 e_v14 => ?_)
  replace hf := nm_use hf e_v14
  refine lv_istore_n (lv' := [(2, .int v14), (0, .ref (ad 1)), (1, .int x1)]) hx hb dX0_perform_6 rfl hl (by decide) rfl (fun ls hl => ?_)
  refine lv_aload_n hx hb dX0_perform_7 rfl (lv_at hl 1 rfl) ?_
  refine lv_iload_n hx hb dX0_perform_8 rfl (lv_at hl 0 rfl) ?_
  refine lv_iload_n hx hb dX0_perform_9 rfl (lv_at hl 2 rfl) ?_
  refine lv_sipush (v := 10000) hx hb dX0_perform_10 (by decide) ?_
  refine lv_idiv hx hb dX0_perform_13 (by decide) ?_
  obtain ⟨v16, h15, hf⟩ := bnd_inv hf
  refine cg_V (q0 := 14) (ci := 0) (As := [.int v14, .int (x1 / 10000)]) (rest := []) X T (kX0_spotOf l D cy ad Xr S v14 (x1 / 10000) v16 h15) (cwV 2 hts gX0_perform_X0_spotOf rfl rfl rfl (by decide +kernel) ⟨Nat.le_of_ble_eq_true rfl, Nat.le_of_ble_eq_true rfl⟩) rfl rfl rfl hl.1 rfl (Nat.le_of_ble_eq_true rfl) dX0_perform_14 ⟨Nat.zero_le _, Nat.zero_le _⟩ (st2 := [.int v16]) (pc2 := 17) rfl rfl (fun H locs T => ?_)
  refine lv_istore_n (lv' := [(3, .int v16), (2, .int v14), (0, .ref (ad 1)), (1, .int x1)]) hx hb dX0_perform_17 rfl hl (by decide) rfl (fun ls hl => ?_)
  refine lv_iload_n hx hb dX0_perform_18 rfl (lv_at hl 3 rfl) ?_
  obtain ⟨v18, h17, hf⟩ := bnd_inv hf
  refine cg_S (As := [.int x1]) (rest := []) X T (kX0_destinationOf l D cy ad Xr S x1 v18 h17) (va_cwS 1 hts gX0_perform_X0_destinationOf rfl rfl rfl (by decide +kernel) ⟨Nat.le_of_ble_eq_true rfl, Nat.le_of_ble_eq_true rfl⟩) rfl hl.1 rfl (Nat.le_of_ble_eq_true rfl) dX0_perform_19 ⟨Nat.zero_le _, Nat.zero_le _⟩ (st2 := [.int v18]) (pc2 := 22) rfl rfl (fun H locs T => ?_)
  refine lv_istore (lv' := [(4, .int v18), (3, .int v16), (2, .int v14), (0, .ref (ad 1)), (1, .int x1)]) hx hb dX0_perform_22 hl (by decide) rfl (fun ls hl => ?_)
  refine lv_iload_n hx hb dX0_perform_24 rfl (lv_at hl 4 rfl) ?_
  refine lv_bipush (v := 100) hx hb dX0_perform_25 (by decide) ?_
  refine lv_irem hx hb dX0_perform_27 (by decide) ?_
  refine lv_topi (fun v19 e_v19 => ?_)
  replace hf := nm_use hf e_v19
  refine lv_istore (lv' := [(5, .int v19), (4, .int v18), (3, .int v16), (2, .int v14), (0, .ref (ad 1)), (1, .int x1)]) hx hb dX0_perform_28 hl (by decide) rfl (fun ls hl => ?_)
  refine lv_aload_n hx hb dX0_perform_30 rfl (lv_at hl 4 rfl) ?_
  refine lv_iload_n hx hb dX0_perform_31 rfl (lv_at hl 3 rfl) ?_
  refine lv_iload_n hx hb dX0_perform_32 rfl (lv_at hl 2 rfl) ?_
  refine lv_iload hx hb dX0_perform_33 (lv_at hl 1 rfl) ?_
  obtain ⟨v21, h20, hf⟩ := bnd_inv hf
  refine cg_V (q0 := 14) (ci := 0) (As := [.int v14, .int v16, .int v18]) (rest := []) X T (kX0_asideOf l D cy ad Xr S v14 v16 v18 v21 h20) (cwV 3 hts gX0_perform_X0_asideOf rfl rfl rfl (by decide +kernel) ⟨Nat.le_of_ble_eq_true rfl, Nat.le_of_ble_eq_true rfl⟩) rfl rfl rfl hl.1 rfl (Nat.le_of_ble_eq_true rfl) dX0_perform_35 ⟨Nat.zero_le _, Nat.zero_le _⟩ (st2 := [.int v21]) (pc2 := 38) rfl rfl (fun H locs T => ?_)
  refine lv_istore (lv' := [(6, .int v21), (5, .int v19), (4, .int v18), (3, .int v16), (2, .int v14), (0, .ref (ad 1)), (1, .int x1)]) hx hb dX0_perform_38 hl (by decide) rfl (fun ls hl => ?_)
  refine lv_aload_n hx hb dX0_perform_40 rfl (lv_at hl 5 rfl) ?_
  refine lv_iload_n hx hb dX0_perform_41 rfl (lv_at hl 6 rfl) ?_
  refine lv_iload_n hx hb dX0_perform_42 rfl (lv_at hl 3 rfl) ?_
  refine lv_iload hx hb dX0_perform_43 (lv_at hl 0 rfl) ?_
  obtain ⟨S23, h22, hf⟩ := bnd_inv hf
  refine cg_V (q0 := 14) (ci := 0) (As := [.int x1, .int v16, .int v21]) (rest := []) X T (kX0_remember l D cy ad Xr S x1 v16 v21 S23 h22) (cwV 3 hts gX0_perform_X0_remember rfl rfl rfl (by decide +kernel) ⟨Nat.le_of_ble_eq_true rfl, Nat.le_of_ble_eq_true rfl⟩) rfl rfl rfl hl.1 rfl (Nat.le_of_ble_eq_true rfl) dX0_perform_45 ⟨Nat.zero_le _, Nat.zero_le _⟩ (st2 := []) (pc2 := 48) rfl rfl (fun H locs T => ?_)
  refine lv_aload_n hx hb dX0_perform_48 rfl (lv_at hl 5 rfl) ?_
  refine lv_aload_n hx hb dX0_perform_49 rfl (lv_at hl 5 rfl) ?_
  refine lv_iload_n hx hb dX0_perform_50 rfl (lv_at hl 4 rfl) ?_
  obtain ⟨v25, h24, hf⟩ := bnd_inv hf
  refine cg_V (q0 := 14) (ci := 0) (As := [.int v14]) (rest := [.ref (ad 1)]) X T (kX0_powerOf l D cy ad Xr S23 v14 v25 h24) (cwV 1 hts gX0_perform_X0_powerOf rfl rfl rfl (by decide +kernel) ⟨Nat.le_of_ble_eq_true rfl, Nat.le_of_ble_eq_true rfl⟩) rfl rfl rfl hl.1 rfl (Nat.le_of_ble_eq_true rfl) dX0_perform_51 ⟨Nat.zero_le _, Nat.zero_le _⟩ (st2 := [.int v25, .ref (ad 1)]) (pc2 := 54) rfl rfl (fun H locs T => ?_)
  refine lv_iconst (v := 4) hx hb dX0_perform_54 (by decide) ?_
  refine lv_icmp_ne (tgt := 76) hx hb dX0_perform_55 (by decide) (fun hc => ?_) (fun hc => ?_)
  · replace hf := ifn hc hf
    exact j_76 v14 v16 v18 v19 v21 S23 _ _ _ hf T (lv_sub hl [5, 4, 3, 2, 1, 0] rfl)
  · replace hf := ifp hc hf
    refine lv_aload_n hx hb dX0_perform_58 rfl (lv_at hl 5 rfl) ?_
    refine lv_iload hx hb dX0_perform_59 (lv_at hl 2 rfl) ?_
    obtain ⟨v27, h26, hf⟩ := bnd_inv hf
    refine cg_V (q0 := 14) (ci := 0) (As := [.int v18]) (rest := [.ref (ad 1)]) X T (kX0_storeysOf l D cy ad Xr S23 v18 v27 h26) (cwV 1 hts gX0_perform_X0_storeysOf rfl rfl rfl (by decide +kernel) ⟨Nat.le_of_ble_eq_true rfl, Nat.le_of_ble_eq_true rfl⟩) rfl rfl rfl hl.1 rfl (Nat.le_of_ble_eq_true rfl) dX0_perform_61 ⟨Nat.zero_le _, Nat.zero_le _⟩ (st2 := [.int v27, .ref (ad 1)]) (pc2 := 64) rfl rfl (fun H locs T => ?_)
    refine lv_aload_n hx hb dX0_perform_64 rfl (lv_at hl 5 rfl) ?_
    refine lv_iload_n hx hb dX0_perform_65 rfl (lv_at hl 3 rfl) ?_
    obtain ⟨v29, h28, hf⟩ := bnd_inv hf
    refine cg_V (q0 := 14) (ci := 0) (As := [.int v16]) (rest := [.int v27, .ref (ad 1)]) X T (kX0_storeysOf l D cy ad Xr S23 v16 v29 h28) (cwV 1 hts gX0_perform_X0_storeysOf rfl rfl rfl (by decide +kernel) ⟨Nat.le_of_ble_eq_true rfl, Nat.le_of_ble_eq_true rfl⟩) rfl rfl rfl hl.1 rfl (Nat.le_of_ble_eq_true rfl) dX0_perform_66 ⟨Nat.zero_le _, Nat.zero_le _⟩ (st2 := [.int v29, .int v27, .ref (ad 1)]) (pc2 := 69) rfl rfl (fun H locs T => ?_)
    refine lv_icmp_le (tgt := 76) hx hb dX0_perform_69 (by decide) (fun hc => ?_) (fun hc => ?_)
    · replace hf := ifp hc hf
      exact j_76 v14 v16 v18 v19 v21 S23 _ _ _ hf T (lv_sub hl [5, 4, 3, 2, 1, 0] rfl)
    · replace hf := ifn hc hf
      refine lv_iconst (v := 1) hx hb dX0_perform_72 (by decide) ?_
      refine lv_goto (tgt := 77) hx hb dX0_perform_73 (by decide) ?_
      exact j_77 v14 v16 v18 v19 v21 1 S23 _ _ _ hf T (lv_sub hl [5, 4, 3, 2, 1, 0] rfl)

noncomputable def fX0_undo_j81 (y1 : Int32) (y2 : Int32) (z1 : Int32) (S_81 : SC) : Option SC :=
  cp (z1 = 0 ∨ z1 = 1) <|
  nm (setS S_81 7 z1 : SC) fun S1 =>
  ck (y1 + 1) 505 <|
  bnd (fX0_destinationOf S1 y2) fun v3 =>
  ck (y1 + 2) 505 <|
  bnd (fX0_carryBack S1 (S1.2 4 (y1 + 1).toNatClampNeg) v3 (S1.2 4 (y1 + 2).toNatClampNeg)) fun S5 =>
  some S5
noncomputable def fX0_undo (S : SC) : Option SC :=
  nm (((S.1 5) - 1) * 5 : Int32) fun v6 =>
  if v6 < 0 then
    some S
  else
    if v6 + 5 ≤ 505 then
      nm (setS S 5 ((S.1 5) - 1) : SC) fun S7 =>
      nm (setS S7 6 (-1) : SC) fun S8 =>
      ck v6 505 <|
      nm (S8.2 4 v6.toNatClampNeg : Int32) fun v9 =>
      bnd (fX0_builtCellOf S8 v9) fun v11 =>
      ck (v6 + 3) 505 <|
      bnd (fX0_setStoreys S8 v11 (S8.2 4 (v6 + 3).toNatClampNeg)) fun S13 =>
      ck (v6 + 4) 505 <|
      if S13.2 4 (v6 + 4).toNatClampNeg = 1 then
        fX0_undo_j81 v6 v9 1 S13
      else
        fX0_undo_j81 v6 v9 0 S13
    else
      some S
set_option maxHeartbeats 4000000 in
set_option maxRecDepth 100000 in
theorem kX0_undo (l : Launch) (D : va_G) (cy : Nat → ClassId) (ad : Nat → Nat) (Xr : va_W) (S : SC) (r : SC) (hf : fX0_undo S = some r) : CG l D cy (wC cy ad Xr) yX0_undo wsX0_undo ({ frames := 2, cells := 0, slots := 0, locals := 48 } : Room) [.ref (ad 1)] S none r := by
  refine CG.of (cc := cX0_undo) (maxL := 3) (ret := none) (by decide +kernel) rfl (Nat.le_of_ble_eq_true rfl) ?_
  intro p e s m below meth c A ls X hr T hl
  obtain ⟨hx, hb, hml, hown, hts, hlk, hK, hA, hwA⟩ := id X
  have hl : lv_has ls 3 [(0, .ref (ad 1))] := hl
  have hin_X0 : ∀ w ∈ u_ws RX0 TX0 13, w ∈ wsX0_undo := fun w h => (List.mem_cons_of_mem _ (List.mem_append_right _ h))
  unfold fX0_undo at hf
  have j_81 : ∀ (y1 : Int32) (y2 : Int32) (z1 : Int32) (S_81 : SC) (H : Heap) (locs : List Loc) (ls : Array Slot), fX0_undo_j81 y1 y2 z1 S_81 = some r → ST D (wC cy ad Xr) A s S_81 H locs → lv_has ls 3 [(0, .ref (ad 1)), (1, .int y1), (2, .int y2)] → W p l e ({ frames := 2, cells := 0, slots := 0, locals := 48 } : Room) s m [.ref (ad 1)].toArray below meth c H locs 0 0 (MQ below (QG D (wC cy ad Xr) A none r) [.ref (ad 1)].toArray s 0 0 A) (F0 m 81 ls [.int z1, .ref (ad 1)]) := by
    intro y1 y2 z1 S_81 H locs ls hf T hl
    unfold fX0_undo_j81 at hf
    obtain ⟨hz1, hf⟩ := cp_inv hf
    obtain ⟨S1, e_S1, hf⟩ := nm_inv hf
    refine va_put (D := D) (ci := 0) (v := .int z1) (ty := .boolean) (C := RX0) (T := TX0) (N := 13) hx hb hts hin_X0 tyX0 tyX0_ok nmX0 hown hK.1 T.1 T.2.1 T.2.2 14 rfl rfl 12 (by decide) (hts _ (List.mem_of_getElem? (i := 4) rfl)) (fun _ h9 => h9) rfl (by decide +kernel) (nz_n hz1) (nz_f hz1) (Nat.le_of_ble_eq_true rfl) dX0_undo_81 (fun H locs hP hD hS => ?_)
    have T : ST D (wC cy ad Xr) A s S1 H locs := ⟨by rw [e_S1]; exact hP, by rw [e_S1]; exact hD, hS⟩
    refine lv_aload_n hx hb dX0_undo_84 rfl (lv_at hl 0 rfl) ?_
    refine lv_aload_n hx hb dX0_undo_85 rfl (lv_at hl 0 rfl) ?_
    refine va_get (D := D) (ci := 0) (v := .ref (ad 6)) (C := RX0) (T := TX0) (N := 13) hx hb hts hin_X0 hown hK.1 T.1 14 rfl rfl 4 (by decide) (hts _ (List.mem_of_getElem? (i := 2) rfl)) (fun _ h9 => h9) rfl dX0_undo_86 ?_
    refine lv_iload_n hx hb dX0_undo_89 rfl (lv_at hl 1 rfl) ?_
    refine lv_iconst (v := 1) hx hb dX0_undo_90 (by decide) ?_
    refine lv_iadd hx hb dX0_undo_91 ?_
    obtain ⟨hin, hf⟩ := ck_inv hf
    refine va_iald hx hb hK.1 T.1 9 0 rfl rfl hin dX0_undo_92 ?_
    refine lv_iload_n hx hb dX0_undo_93 rfl (lv_at hl 2 rfl) ?_
    obtain ⟨v3, h2, hf⟩ := bnd_inv hf
    refine cg_S (As := [.int y2]) (rest := [.int (S1.2 4 (y1 + 1).toNatClampNeg), .ref (ad 1)]) X T (kX0_destinationOf l D cy ad Xr S1 y2 v3 h2) (va_cwS 1 hts gX0_undo_X0_destinationOf rfl rfl rfl (by decide +kernel) ⟨Nat.le_of_ble_eq_true rfl, Nat.le_of_ble_eq_true rfl⟩) rfl hl.1 rfl (Nat.le_of_ble_eq_true rfl) dX0_undo_94 ⟨Nat.zero_le _, Nat.zero_le _⟩ (st2 := [.int v3, .int (S1.2 4 (y1 + 1).toNatClampNeg), .ref (ad 1)]) (pc2 := 97) rfl rfl (fun H locs T => ?_)
    refine lv_aload_n hx hb dX0_undo_97 rfl (lv_at hl 0 rfl) ?_
    refine va_get (D := D) (ci := 0) (v := .ref (ad 6)) (C := RX0) (T := TX0) (N := 13) hx hb hts hin_X0 hown hK.1 T.1 14 rfl rfl 4 (by decide) (hts _ (List.mem_of_getElem? (i := 2) rfl)) (fun _ h9 => h9) rfl dX0_undo_98 ?_
    refine lv_iload_n hx hb dX0_undo_101 rfl (lv_at hl 1 rfl) ?_
    refine lv_iconst (v := 2) hx hb dX0_undo_102 (by decide) ?_
    refine lv_iadd hx hb dX0_undo_103 ?_
    obtain ⟨hin, hf⟩ := ck_inv hf
    refine va_iald hx hb hK.1 T.1 9 0 rfl rfl hin dX0_undo_104 ?_
    obtain ⟨S5, h4, hf⟩ := bnd_inv hf
    refine cg_V (q0 := 14) (ci := 0) (As := [.int (S1.2 4 (y1 + 1).toNatClampNeg), .int v3, .int (S1.2 4 (y1 + 2).toNatClampNeg)]) (rest := []) X T (kX0_carryBack l D cy ad Xr S1 (S1.2 4 (y1 + 1).toNatClampNeg) v3 (S1.2 4 (y1 + 2).toNatClampNeg) S5 h4) (cwV 3 hts gX0_undo_X0_carryBack rfl rfl rfl (by decide +kernel) ⟨Nat.le_of_ble_eq_true rfl, Nat.le_of_ble_eq_true rfl⟩) rfl rfl rfl hl.1 rfl (Nat.le_of_ble_eq_true rfl) dX0_undo_105 ⟨Nat.zero_le _, Nat.zero_le _⟩ (st2 := []) (pc2 := 108) rfl rfl (fun H locs T => ?_)
    exact rf_vw hf X T hr dX0_undo_108
  refine lv_aload_n hx hb dX0_undo_0 rfl (lv_at hl 0 rfl) ?_
  refine va_get (D := D) (ci := 0) (v := .int (S.1 5)) (C := RX0) (T := TX0) (N := 13) hx hb hts hin_X0 hown hK.1 T.1 14 rfl rfl 10 (by decide) (hts _ (List.mem_of_getElem? (i := 1) rfl)) (fun _ h9 => h9) rfl dX0_undo_1 ?_
  refine lv_iconst (v := 1) hx hb dX0_undo_4 (by decide) ?_
  refine lv_isub hx hb dX0_undo_5 ?_
  refine lv_iconst (v := 5) hx hb dX0_undo_6 (by decide) ?_
  refine lv_imul hx hb dX0_undo_7 ?_
  refine lv_topi (fun v6 e_v6 => ?_)
  replace hf := nm_use hf e_v6
  refine lv_istore_n (lv' := [(1, .int v6), (0, .ref (ad 1))]) hx hb dX0_undo_8 rfl hl (by decide) rfl (fun ls hl => ?_)
  refine lv_iload_n hx hb dX0_undo_9 rfl (lv_at hl 0 rfl) ?_
  refine lv_if_lt (tgt := 24) hx hb dX0_undo_10 (by decide) (fun hc => ?_) (fun hc => ?_)
  · replace hf := ifp hc hf
    exact rf_vw hf X T hr dX0_undo_24
  · replace hf := ifn hc hf
    refine lv_iload_n hx hb dX0_undo_13 rfl (lv_at hl 0 rfl) ?_
    refine lv_iconst (v := 5) hx hb dX0_undo_14 (by decide) ?_
    refine lv_iadd hx hb dX0_undo_15 ?_
    refine lv_aload_n hx hb dX0_undo_16 rfl (lv_at hl 1 rfl) ?_
    refine va_get (D := D) (ci := 0) (v := .ref (ad 6)) (C := RX0) (T := TX0) (N := 13) hx hb hts hin_X0 hown hK.1 T.1 14 rfl rfl 4 (by decide) (hts _ (List.mem_of_getElem? (i := 2) rfl)) (fun _ h9 => h9) rfl dX0_undo_17 ?_
    refine va_alen (v := 505) hx hb hK.1 T.1 9 0 rfl rfl rfl dX0_undo_20 ?_
    refine lv_icmp_le (tgt := 25) hx hb dX0_undo_21 (by decide) (fun hc => ?_) (fun hc => ?_)
    · replace hf := ifp hc hf
      refine lv_aload_n hx hb dX0_undo_25 rfl (lv_at hl 1 rfl) ?_
      refine lv_dup hx hb dX0_undo_26 rfl ?_
      refine va_get (D := D) (ci := 0) (v := .int (S.1 5)) (C := RX0) (T := TX0) (N := 13) hx hb hts hin_X0 hown hK.1 T.1 14 rfl rfl 10 (by decide) (hts _ (List.mem_of_getElem? (i := 1) rfl)) (fun _ h9 => h9) rfl dX0_undo_27 ?_
      refine lv_iconst (v := 1) hx hb dX0_undo_30 (by decide) ?_
      refine lv_isub hx hb dX0_undo_31 ?_
      obtain ⟨S7, e_S7, hf⟩ := nm_inv hf
      refine va_put (D := D) (ci := 0) (v := .int ((S.1 5) - 1)) (ty := .int) (C := RX0) (T := TX0) (N := 13) hx hb hts hin_X0 tyX0 tyX0_ok nmX0 hown hK.1 T.1 T.2.1 T.2.2 14 rfl rfl 10 (by decide) (hts _ (List.mem_of_getElem? (i := 1) rfl)) (fun _ h9 => h9) rfl (by decide +kernel) rfl rfl (Nat.le_of_ble_eq_true rfl) dX0_undo_32 (fun H locs hP hD hS => ?_)
      have T : ST D (wC cy ad Xr) A s S7 H locs := ⟨by rw [e_S7]; exact hP, by rw [e_S7]; exact hD, hS⟩
      refine lv_aload_n hx hb dX0_undo_35 rfl (lv_at hl 1 rfl) ?_
      refine lv_iconst (v := (-1)) hx hb dX0_undo_36 (by decide) ?_
      obtain ⟨S8, e_S8, hf⟩ := nm_inv hf
      refine va_put (D := D) (ci := 0) (v := .int (-1)) (ty := .int) (C := RX0) (T := TX0) (N := 13) hx hb hts hin_X0 tyX0 tyX0_ok nmX0 hown hK.1 T.1 T.2.1 T.2.2 14 rfl rfl 11 (by decide) (hts _ (List.mem_of_getElem? (i := 3) rfl)) (fun _ h9 => h9) rfl (by decide +kernel) rfl rfl (Nat.le_of_ble_eq_true rfl) dX0_undo_37 (fun H locs hP hD hS => ?_)
      have T : ST D (wC cy ad Xr) A s S8 H locs := ⟨by rw [e_S8]; exact hP, by rw [e_S8]; exact hD, hS⟩
      refine lv_aload_n hx hb dX0_undo_40 rfl (lv_at hl 1 rfl) ?_
      refine va_get (D := D) (ci := 0) (v := .ref (ad 6)) (C := RX0) (T := TX0) (N := 13) hx hb hts hin_X0 hown hK.1 T.1 14 rfl rfl 4 (by decide) (hts _ (List.mem_of_getElem? (i := 2) rfl)) (fun _ h9 => h9) rfl dX0_undo_41 ?_
      refine lv_iload_n hx hb dX0_undo_44 rfl (lv_at hl 0 rfl) ?_
      obtain ⟨hin, hf⟩ := ck_inv hf
      refine va_iald hx hb hK.1 T.1 9 0 rfl rfl hin dX0_undo_45 ?_
      refine lv_topi (fun v9 e_v9 => ?_)
      replace hf := nm_use hf e_v9
      refine lv_istore_n (lv' := [(2, .int v9), (1, .int v6), (0, .ref (ad 1))]) hx hb dX0_undo_46 rfl hl (by decide) rfl (fun ls hl => ?_)
      refine lv_aload_n hx hb dX0_undo_47 rfl (lv_at hl 2 rfl) ?_
      refine lv_iload_n hx hb dX0_undo_48 rfl (lv_at hl 0 rfl) ?_
      obtain ⟨v11, h10, hf⟩ := bnd_inv hf
      refine cg_S (As := [.int v9]) (rest := [.ref (ad 1)]) X T (kX0_builtCellOf l D cy ad Xr S8 v9 v11 h10) (va_cwS 1 hts gX0_undo_X0_builtCellOf rfl rfl rfl (by decide +kernel) ⟨Nat.le_of_ble_eq_true rfl, Nat.le_of_ble_eq_true rfl⟩) rfl hl.1 rfl (Nat.le_of_ble_eq_true rfl) dX0_undo_49 ⟨Nat.zero_le _, Nat.zero_le _⟩ (st2 := [.int v11, .ref (ad 1)]) (pc2 := 52) rfl rfl (fun H locs T => ?_)
      refine lv_aload_n hx hb dX0_undo_52 rfl (lv_at hl 2 rfl) ?_
      refine va_get (D := D) (ci := 0) (v := .ref (ad 6)) (C := RX0) (T := TX0) (N := 13) hx hb hts hin_X0 hown hK.1 T.1 14 rfl rfl 4 (by decide) (hts _ (List.mem_of_getElem? (i := 2) rfl)) (fun _ h9 => h9) rfl dX0_undo_53 ?_
      refine lv_iload_n hx hb dX0_undo_56 rfl (lv_at hl 1 rfl) ?_
      refine lv_iconst (v := 3) hx hb dX0_undo_57 (by decide) ?_
      refine lv_iadd hx hb dX0_undo_58 ?_
      obtain ⟨hin, hf⟩ := ck_inv hf
      refine va_iald hx hb hK.1 T.1 9 0 rfl rfl hin dX0_undo_59 ?_
      obtain ⟨S13, h12, hf⟩ := bnd_inv hf
      refine cg_V (q0 := 14) (ci := 0) (As := [.int v11, .int (S8.2 4 (v6 + 3).toNatClampNeg)]) (rest := []) X T (kX0_setStoreys l D cy ad Xr S8 v11 (S8.2 4 (v6 + 3).toNatClampNeg) S13 h12) (cwV 2 hts gX0_undo_X0_setStoreys rfl rfl rfl (by decide +kernel) ⟨Nat.le_of_ble_eq_true rfl, Nat.le_of_ble_eq_true rfl⟩) rfl rfl rfl hl.1 rfl (Nat.le_of_ble_eq_true rfl) dX0_undo_60 ⟨Nat.zero_le _, Nat.zero_le _⟩ (st2 := []) (pc2 := 63) rfl rfl (fun H locs T => ?_)
      refine lv_aload_n hx hb dX0_undo_63 rfl (lv_at hl 2 rfl) ?_
      refine lv_aload_n hx hb dX0_undo_64 rfl (lv_at hl 2 rfl) ?_
      refine va_get (D := D) (ci := 0) (v := .ref (ad 6)) (C := RX0) (T := TX0) (N := 13) hx hb hts hin_X0 hown hK.1 T.1 14 rfl rfl 4 (by decide) (hts _ (List.mem_of_getElem? (i := 2) rfl)) (fun _ h9 => h9) rfl dX0_undo_65 ?_
      refine lv_iload_n hx hb dX0_undo_68 rfl (lv_at hl 1 rfl) ?_
      refine lv_iconst (v := 4) hx hb dX0_undo_69 (by decide) ?_
      refine lv_iadd hx hb dX0_undo_70 ?_
      obtain ⟨hin, hf⟩ := ck_inv hf
      refine va_iald hx hb hK.1 T.1 9 0 rfl rfl hin dX0_undo_71 ?_
      refine lv_iconst (v := 1) hx hb dX0_undo_72 (by decide) ?_
      refine lv_icmp_ne (tgt := 80) hx hb dX0_undo_73 (by decide) (fun hc => ?_) (fun hc => ?_)
      · replace hf := ifn hc hf
        refine lv_iconst (v := 0) hx hb dX0_undo_80 (by decide) ?_
        exact j_81 v6 v9 0 S13 _ _ _ hf T (lv_sub hl [2, 1, 0] rfl)
      · replace hf := ifp hc hf
        refine lv_iconst (v := 1) hx hb dX0_undo_76 (by decide) ?_
        refine lv_goto (tgt := 81) hx hb dX0_undo_77 (by decide) ?_
        exact j_81 v6 v9 1 S13 _ _ _ hf T (lv_sub hl [2, 1, 0] rfl)
    · replace hf := ifn hc hf
      exact rf_vw hf X T hr dX0_undo_24
