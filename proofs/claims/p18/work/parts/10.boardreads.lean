noncomputable def fX0_storeysOf (S : SC) (x1 : Int32) : Option Int32 :=
  if x1 < 0 then
    some 0
  else
    if (25 : Int32) ≤ x1 then
      some 0
    else
      ck x1 25 <|
      some (S.2 1 x1.toNatClampNeg)
set_option maxHeartbeats 4000000 in
set_option maxRecDepth 100000 in
theorem kX0_storeysOf (l : Launch) (D : va_G) (cy : Nat → ClassId) (ad : Nat → Nat) (Xr : va_W) (S : SC) (x1 : Int32) (r : Int32) (hf : fX0_storeysOf S x1 = some r) : CG l D cy (wC cy ad Xr) yX0_storeysOf wsX0_storeysOf ({ frames := 0, cells := 0, slots := 0, locals := 0 } : Room) [.ref (ad 1), .int x1] S (some (.int r)) S := by
  refine CG.of (cc := cX0_storeysOf) (maxL := 2) (ret := (some .int)) (by decide +kernel) rfl (Nat.le_of_ble_eq_true rfl) ?_
  intro p e s m below meth c A ls X hr T hl
  obtain ⟨hx, hb, hml, hown, hts, hlk, hK, hA, hwA⟩ := id X
  have hl : lv_has ls 2 [(0, .ref (ad 1)), (1, .int x1)] := hl
  have hin_X0 : ∀ w ∈ u_ws RX0 TX0 13, w ∈ wsX0_storeysOf := fun w h => (List.mem_cons_of_mem _ (List.mem_append_right _ h))
  unfold fX0_storeysOf at hf
  refine lv_iload_n hx hb dX0_storeysOf_0 rfl (lv_at hl 1 rfl) ?_
  refine lv_if_lt (tgt := 22) hx hb dX0_storeysOf_1 (by decide) (fun hc => ?_) (fun hc => ?_)
  · replace hf := ifp hc hf
    refine lv_iconst (v := 0) hx hb dX0_storeysOf_22 (by decide) ?_
    exact rf_i hf X T hr dX0_storeysOf_23
  · replace hf := ifn hc hf
    refine lv_iload_n hx hb dX0_storeysOf_4 rfl (lv_at hl 1 rfl) ?_
    refine lv_aload_n hx hb dX0_storeysOf_5 rfl (lv_at hl 0 rfl) ?_
    refine va_get (D := D) (ci := 0) (v := .ref (ad 3)) (C := RX0) (T := TX0) (N := 13) hx hb hts hin_X0 hown hK.1 T.1 14 rfl rfl 1 (by decide) (hts _ (List.mem_of_getElem? (i := 1) rfl)) (fun _ h9 => h9) rfl dX0_storeysOf_6 ?_
    refine va_alen (v := 25) hx hb hK.1 T.1 12 0 rfl rfl rfl dX0_storeysOf_9 ?_
    refine lv_icmp_ge (tgt := 22) hx hb dX0_storeysOf_10 (by decide) (fun hc => ?_) (fun hc => ?_)
    · replace hf := ifp hc hf
      refine lv_iconst (v := 0) hx hb dX0_storeysOf_22 (by decide) ?_
      exact rf_i hf X T hr dX0_storeysOf_23
    · replace hf := ifn hc hf
      refine lv_aload_n hx hb dX0_storeysOf_13 rfl (lv_at hl 0 rfl) ?_
      refine va_get (D := D) (ci := 0) (v := .ref (ad 3)) (C := RX0) (T := TX0) (N := 13) hx hb hts hin_X0 hown hK.1 T.1 14 rfl rfl 1 (by decide) (hts _ (List.mem_of_getElem? (i := 1) rfl)) (fun _ h9 => h9) rfl dX0_storeysOf_14 ?_
      refine lv_iload_n hx hb dX0_storeysOf_17 rfl (lv_at hl 1 rfl) ?_
      obtain ⟨hin, hf⟩ := ck_inv hf
      refine va_iald hx hb hK.1 T.1 12 0 rfl rfl hin dX0_storeysOf_18 ?_
      refine lv_goto (tgt := 23) hx hb dX0_storeysOf_19 (by decide) ?_
      exact rf_i hf X T hr dX0_storeysOf_23

noncomputable def fX0_holderOf (S : SC) (x1 : Int32) : Option Int32 :=
  if x1 < 0 then
    some (-1)
  else
    if (25 : Int32) ≤ x1 then
      some (-1)
    else
      ck x1 25 <|
      some (S.2 2 x1.toNatClampNeg)
set_option maxHeartbeats 4000000 in
set_option maxRecDepth 100000 in
theorem kX0_holderOf (l : Launch) (D : va_G) (cy : Nat → ClassId) (ad : Nat → Nat) (Xr : va_W) (S : SC) (x1 : Int32) (r : Int32) (hf : fX0_holderOf S x1 = some r) : CG l D cy (wC cy ad Xr) yX0_holderOf wsX0_holderOf ({ frames := 0, cells := 0, slots := 0, locals := 0 } : Room) [.ref (ad 1), .int x1] S (some (.int r)) S := by
  refine CG.of (cc := cX0_holderOf) (maxL := 2) (ret := (some .int)) (by decide +kernel) rfl (Nat.le_of_ble_eq_true rfl) ?_
  intro p e s m below meth c A ls X hr T hl
  obtain ⟨hx, hb, hml, hown, hts, hlk, hK, hA, hwA⟩ := id X
  have hl : lv_has ls 2 [(0, .ref (ad 1)), (1, .int x1)] := hl
  have hin_X0 : ∀ w ∈ u_ws RX0 TX0 13, w ∈ wsX0_holderOf := fun w h => (List.mem_cons_of_mem _ (List.mem_append_right _ h))
  unfold fX0_holderOf at hf
  refine lv_iload_n hx hb dX0_holderOf_0 rfl (lv_at hl 1 rfl) ?_
  refine lv_if_lt (tgt := 22) hx hb dX0_holderOf_1 (by decide) (fun hc => ?_) (fun hc => ?_)
  · replace hf := ifp hc hf
    refine lv_iconst (v := (-1)) hx hb dX0_holderOf_22 (by decide) ?_
    exact rf_i hf X T hr dX0_holderOf_23
  · replace hf := ifn hc hf
    refine lv_iload_n hx hb dX0_holderOf_4 rfl (lv_at hl 1 rfl) ?_
    refine lv_aload_n hx hb dX0_holderOf_5 rfl (lv_at hl 0 rfl) ?_
    refine va_get (D := D) (ci := 0) (v := .ref (ad 4)) (C := RX0) (T := TX0) (N := 13) hx hb hts hin_X0 hown hK.1 T.1 14 rfl rfl 2 (by decide) (hts _ (List.mem_of_getElem? (i := 1) rfl)) (fun _ h9 => h9) rfl dX0_holderOf_6 ?_
    refine va_alen (v := 25) hx hb hK.1 T.1 11 0 rfl rfl rfl dX0_holderOf_9 ?_
    refine lv_icmp_ge (tgt := 22) hx hb dX0_holderOf_10 (by decide) (fun hc => ?_) (fun hc => ?_)
    · replace hf := ifp hc hf
      refine lv_iconst (v := (-1)) hx hb dX0_holderOf_22 (by decide) ?_
      exact rf_i hf X T hr dX0_holderOf_23
    · replace hf := ifn hc hf
      refine lv_aload_n hx hb dX0_holderOf_13 rfl (lv_at hl 0 rfl) ?_
      refine va_get (D := D) (ci := 0) (v := .ref (ad 4)) (C := RX0) (T := TX0) (N := 13) hx hb hts hin_X0 hown hK.1 T.1 14 rfl rfl 2 (by decide) (hts _ (List.mem_of_getElem? (i := 1) rfl)) (fun _ h9 => h9) rfl dX0_holderOf_14 ?_
      refine lv_iload_n hx hb dX0_holderOf_17 rfl (lv_at hl 1 rfl) ?_
      obtain ⟨hin, hf⟩ := ck_inv hf
      refine va_iald hx hb hK.1 T.1 11 0 rfl rfl hin dX0_holderOf_18 ?_
      refine lv_goto (tgt := 23) hx hb dX0_holderOf_19 (by decide) ?_
      exact rf_i hf X T hr dX0_holderOf_23

noncomputable def fX0_isOpen (S : SC) (x1 : Int32) : Option Int32 :=
  if x1 < 0 then
    some 0
  else
    if (25 : Int32) ≤ x1 then
      some 0
    else
      ck x1 25 <|
      if S.2 2 x1.toNatClampNeg = (-1) then
        ck x1 25 <|
        if (4 : Int32) ≤ S.2 1 x1.toNatClampNeg then
          some 0
        else
          some 1
      else
        some 0
set_option maxHeartbeats 4000000 in
set_option maxRecDepth 100000 in
theorem kX0_isOpen (l : Launch) (D : va_G) (cy : Nat → ClassId) (ad : Nat → Nat) (Xr : va_W) (S : SC) (x1 : Int32) (r : Int32) (hf : fX0_isOpen S x1 = some r) : CG l D cy (wC cy ad Xr) yX0_isOpen wsX0_isOpen ({ frames := 0, cells := 0, slots := 0, locals := 0 } : Room) [.ref (ad 1), .int x1] S (some (.int r)) S := by
  refine CG.of (cc := cX0_isOpen) (maxL := 2) (ret := (some .boolean)) (by decide +kernel) rfl (Nat.le_of_ble_eq_true rfl) ?_
  intro p e s m below meth c A ls X hr T hl
  obtain ⟨hx, hb, hml, hown, hts, hlk, hK, hA, hwA⟩ := id X
  have hl : lv_has ls 2 [(0, .ref (ad 1)), (1, .int x1)] := hl
  have hin_X0 : ∀ w ∈ u_ws RX0 TX0 13, w ∈ wsX0_isOpen := fun w h => (List.mem_cons_of_mem _ (List.mem_append_right _ h))
  unfold fX0_isOpen at hf
  refine lv_iload_n hx hb dX0_isOpen_0 rfl (lv_at hl 1 rfl) ?_
  refine lv_if_lt (tgt := 34) hx hb dX0_isOpen_1 (by decide) (fun hc => ?_) (fun hc => ?_)
  · replace hf := ifp hc hf
    refine lv_iconst (v := 0) hx hb dX0_isOpen_34 (by decide) ?_
    exact rf_z hf X T hr (Or.inl rfl) dX0_isOpen_35
  · replace hf := ifn hc hf
    refine lv_iload_n hx hb dX0_isOpen_4 rfl (lv_at hl 1 rfl) ?_
    refine lv_bipush (v := 25) hx hb dX0_isOpen_5 (by decide) ?_
    refine lv_icmp_ge (tgt := 34) hx hb dX0_isOpen_7 (by decide) (fun hc => ?_) (fun hc => ?_)
    · replace hf := ifp hc hf
      refine lv_iconst (v := 0) hx hb dX0_isOpen_34 (by decide) ?_
      exact rf_z hf X T hr (Or.inl rfl) dX0_isOpen_35
    · replace hf := ifn hc hf
      refine lv_aload_n hx hb dX0_isOpen_10 rfl (lv_at hl 0 rfl) ?_
      refine va_get (D := D) (ci := 0) (v := .ref (ad 4)) (C := RX0) (T := TX0) (N := 13) hx hb hts hin_X0 hown hK.1 T.1 14 rfl rfl 2 (by decide) (hts _ (List.mem_of_getElem? (i := 1) rfl)) (fun _ h9 => h9) rfl dX0_isOpen_11 ?_
      refine lv_iload_n hx hb dX0_isOpen_14 rfl (lv_at hl 1 rfl) ?_
      obtain ⟨hin, hf⟩ := ck_inv hf
      refine va_iald hx hb hK.1 T.1 11 0 rfl rfl hin dX0_isOpen_15 ?_
      refine lv_iconst (v := (-1)) hx hb dX0_isOpen_16 (by decide) ?_
      refine lv_icmp_ne (tgt := 34) hx hb dX0_isOpen_17 (by decide) (fun hc => ?_) (fun hc => ?_)
      · replace hf := ifn hc hf
        refine lv_iconst (v := 0) hx hb dX0_isOpen_34 (by decide) ?_
        exact rf_z hf X T hr (Or.inl rfl) dX0_isOpen_35
      · replace hf := ifp hc hf
        refine lv_aload_n hx hb dX0_isOpen_20 rfl (lv_at hl 0 rfl) ?_
        refine va_get (D := D) (ci := 0) (v := .ref (ad 3)) (C := RX0) (T := TX0) (N := 13) hx hb hts hin_X0 hown hK.1 T.1 14 rfl rfl 1 (by decide) (hts _ (List.mem_of_getElem? (i := 2) rfl)) (fun _ h9 => h9) rfl dX0_isOpen_21 ?_
        refine lv_iload_n hx hb dX0_isOpen_24 rfl (lv_at hl 1 rfl) ?_
        obtain ⟨hin, hf⟩ := ck_inv hf
        refine va_iald hx hb hK.1 T.1 12 0 rfl rfl hin dX0_isOpen_25 ?_
        refine lv_iconst (v := 4) hx hb dX0_isOpen_26 (by decide) ?_
        refine lv_icmp_ge (tgt := 34) hx hb dX0_isOpen_27 (by decide) (fun hc => ?_) (fun hc => ?_)
        · replace hf := ifp hc hf
          refine lv_iconst (v := 0) hx hb dX0_isOpen_34 (by decide) ?_
          exact rf_z hf X T hr (Or.inl rfl) dX0_isOpen_35
        · replace hf := ifn hc hf
          refine lv_iconst (v := 1) hx hb dX0_isOpen_30 (by decide) ?_
          refine lv_goto (tgt := 35) hx hb dX0_isOpen_31 (by decide) ?_
          exact rf_z hf X T hr (Or.inr rfl) dX0_isOpen_35

noncomputable def fX0_isSet (S : SC) : Option Int32 :=
  if S.1 4 = (2 : Int32) * (S.1 1) then
    some 1
  else
    some 0
set_option maxHeartbeats 4000000 in
set_option maxRecDepth 100000 in
theorem kX0_isSet (l : Launch) (D : va_G) (cy : Nat → ClassId) (ad : Nat → Nat) (Xr : va_W) (S : SC) (r : Int32) (hf : fX0_isSet S = some r) : CG l D cy (wC cy ad Xr) yX0_isSet wsX0_isSet ({ frames := 0, cells := 0, slots := 0, locals := 0 } : Room) [.ref (ad 1)] S (some (.int r)) S := by
  refine CG.of (cc := cX0_isSet) (maxL := 1) (ret := (some .boolean)) (by decide +kernel) rfl (Nat.le_of_ble_eq_true rfl) ?_
  intro p e s m below meth c A ls X hr T hl
  obtain ⟨hx, hb, hml, hown, hts, hlk, hK, hA, hwA⟩ := id X
  have hl : lv_has ls 1 [(0, .ref (ad 1))] := hl
  have hin_X0 : ∀ w ∈ u_ws RX0 TX0 13, w ∈ wsX0_isSet := fun w h => (List.mem_cons_of_mem _ (List.mem_append_right _ h))
  unfold fX0_isSet at hf
  refine lv_aload_n hx hb dX0_isSet_0 rfl (lv_at hl 0 rfl) ?_
  refine va_get (D := D) (ci := 0) (v := .int (S.1 4)) (C := RX0) (T := TX0) (N := 13) hx hb hts hin_X0 hown hK.1 T.1 14 rfl rfl 9 (by decide) (hts _ (List.mem_of_getElem? (i := 1) rfl)) (fun _ h9 => h9) rfl dX0_isSet_1 ?_
  refine lv_iconst (v := 2) hx hb dX0_isSet_4 (by decide) ?_
  refine lv_aload_n hx hb dX0_isSet_5 rfl (lv_at hl 0 rfl) ?_
  refine va_get (D := D) (ci := 0) (v := .int (S.1 1)) (C := RX0) (T := TX0) (N := 13) hx hb hts hin_X0 hown hK.1 T.1 14 rfl rfl 6 (by decide) (hts _ (List.mem_of_getElem? (i := 2) rfl)) (fun _ h9 => h9) rfl dX0_isSet_6 ?_
  refine lv_imul hx hb dX0_isSet_9 ?_
  refine lv_icmp_ne (tgt := 17) hx hb dX0_isSet_10 (by decide) (fun hc => ?_) (fun hc => ?_)
  · replace hf := ifn hc hf
    refine lv_iconst (v := 0) hx hb dX0_isSet_17 (by decide) ?_
    exact rf_z hf X T hr (Or.inl rfl) dX0_isSet_18
  · replace hf := ifp hc hf
    refine lv_iconst (v := 1) hx hb dX0_isSet_13 (by decide) ?_
    refine lv_goto (tgt := 18) hx hb dX0_isSet_14 (by decide) ?_
    exact rf_z hf X T hr (Or.inr rfl) dX0_isSet_18

noncomputable def fX0_mover (S : SC) : Option Int32 :=
  if S.1 6 = (-1) then
    bnd (fX0_isSet S) fun v2 =>
    if v2 = 0 then
      if S.1 1 ≤ S.1 4 then
        some 1
      else
        some 0
    else
      some ((S.1 5) - (S.1 5) / 2 * 2)
  else
    some (-1)
set_option maxHeartbeats 4000000 in
set_option maxRecDepth 100000 in
theorem kX0_mover (l : Launch) (D : va_G) (cy : Nat → ClassId) (ad : Nat → Nat) (Xr : va_W) (S : SC) (r : Int32) (hf : fX0_mover S = some r) : CG l D cy (wC cy ad Xr) yX0_mover wsX0_mover ({ frames := 1, cells := 0, slots := 0, locals := 20 } : Room) [.ref (ad 1)] S (some (.int r)) S := by
  refine CG.of (cc := cX0_mover) (maxL := 1) (ret := (some .int)) (by decide +kernel) rfl (Nat.le_of_ble_eq_true rfl) ?_
  intro p e s m below meth c A ls X hr T hl
  obtain ⟨hx, hb, hml, hown, hts, hlk, hK, hA, hwA⟩ := id X
  have hl : lv_has ls 1 [(0, .ref (ad 1))] := hl
  have hin_X0 : ∀ w ∈ u_ws RX0 TX0 13, w ∈ wsX0_mover := fun w h => (List.mem_cons_of_mem _ (List.mem_append_right _ h))
  unfold fX0_mover at hf
  refine lv_aload_n hx hb dX0_mover_0 rfl (lv_at hl 0 rfl) ?_
  refine va_get (D := D) (ci := 0) (v := .int (S.1 6)) (C := RX0) (T := TX0) (N := 13) hx hb hts hin_X0 hown hK.1 T.1 14 rfl rfl 11 (by decide) (hts _ (List.mem_of_getElem? (i := 1) rfl)) (fun _ h9 => h9) rfl dX0_mover_1 ?_
  refine lv_iconst (v := (-1)) hx hb dX0_mover_4 (by decide) ?_
  refine lv_icmp_eq (tgt := 10) hx hb dX0_mover_5 (by decide) (fun hc => ?_) (fun hc => ?_)
  · replace hf := ifp hc hf
    refine lv_aload_n hx hb dX0_mover_10 rfl (lv_at hl 0 rfl) ?_
    obtain ⟨v2, h1, hf⟩ := bnd_inv hf
    refine cg_V (q0 := 14) (ci := 0) (As := []) (rest := []) X T (kX0_isSet l D cy ad Xr S v2 h1) (cwV 0 hts gX0_mover_X0_isSet rfl rfl rfl (by decide +kernel) ⟨Nat.le_of_ble_eq_true rfl, Nat.le_of_ble_eq_true rfl⟩) rfl rfl rfl hl.1 rfl (Nat.le_of_ble_eq_true rfl) dX0_mover_11 ⟨Nat.zero_le _, Nat.zero_le _⟩ (st2 := [.int v2]) (pc2 := 14) rfl rfl (fun H locs T => ?_)
    refine lv_if_eq (tgt := 24) hx hb dX0_mover_14 (by decide) (fun hc => ?_) (fun hc => ?_)
    · replace hf := ifp hc hf
      refine lv_aload_n hx hb dX0_mover_24 rfl (lv_at hl 0 rfl) ?_
      refine va_get (D := D) (ci := 0) (v := .int (S.1 4)) (C := RX0) (T := TX0) (N := 13) hx hb hts hin_X0 hown hK.1 T.1 14 rfl rfl 9 (by decide) (hts _ (List.mem_of_getElem? (i := 3) rfl)) (fun _ h9 => h9) rfl dX0_mover_25 ?_
      refine lv_aload_n hx hb dX0_mover_28 rfl (lv_at hl 0 rfl) ?_
      refine va_get (D := D) (ci := 0) (v := .int (S.1 1)) (C := RX0) (T := TX0) (N := 13) hx hb hts hin_X0 hown hK.1 T.1 14 rfl rfl 6 (by decide) (hts _ (List.mem_of_getElem? (i := 4) rfl)) (fun _ h9 => h9) rfl dX0_mover_29 ?_
      refine lv_icmp_ge (tgt := 39) hx hb dX0_mover_32 (by decide) (fun hc => ?_) (fun hc => ?_)
      · replace hf := ifp hc hf
        refine lv_iconst (v := 1) hx hb dX0_mover_39 (by decide) ?_
        exact rf_i hf X T hr dX0_mover_40
      · replace hf := ifn hc hf
        refine lv_iconst (v := 0) hx hb dX0_mover_35 (by decide) ?_
        refine lv_goto (tgt := 40) hx hb dX0_mover_36 (by decide) ?_
        exact rf_i hf X T hr dX0_mover_40
    · replace hf := ifn hc hf
      refine lv_aload_n hx hb dX0_mover_17 rfl (lv_at hl 0 rfl) ?_
      refine va_get (D := D) (ci := 0) (v := .int (S.1 5)) (C := RX0) (T := TX0) (N := 13) hx hb hts hin_X0 hown hK.1 T.1 14 rfl rfl 10 (by decide) (hts _ (List.mem_of_getElem? (i := 2) rfl)) (fun _ h9 => h9) rfl dX0_mover_18 ?_
      refine lv_iconst (v := 2) hx hb dX0_mover_21 (by decide) ?_
      refine lv_irem hx hb dX0_mover_22 (by decide) ?_
      exact rf_i hf X T hr dX0_mover_23
  · replace hf := ifn hc hf
    refine lv_iconst (v := (-1)) hx hb dX0_mover_8 (by decide) ?_
    exact rf_i hf X T hr dX0_mover_9

noncomputable def fX0_powerOf (S : SC) (x1 : Int32) : Option Int32 :=
  if x1 = 0 then
    some (S.1 2)
  else
    some (S.1 3)
set_option maxHeartbeats 4000000 in
set_option maxRecDepth 100000 in
theorem kX0_powerOf (l : Launch) (D : va_G) (cy : Nat → ClassId) (ad : Nat → Nat) (Xr : va_W) (S : SC) (x1 : Int32) (r : Int32) (hf : fX0_powerOf S x1 = some r) : CG l D cy (wC cy ad Xr) yX0_powerOf wsX0_powerOf ({ frames := 0, cells := 0, slots := 0, locals := 0 } : Room) [.ref (ad 1), .int x1] S (some (.int r)) S := by
  refine CG.of (cc := cX0_powerOf) (maxL := 2) (ret := (some .int)) (by decide +kernel) rfl (Nat.le_of_ble_eq_true rfl) ?_
  intro p e s m below meth c A ls X hr T hl
  obtain ⟨hx, hb, hml, hown, hts, hlk, hK, hA, hwA⟩ := id X
  have hl : lv_has ls 2 [(0, .ref (ad 1)), (1, .int x1)] := hl
  have hin_X0 : ∀ w ∈ u_ws RX0 TX0 13, w ∈ wsX0_powerOf := fun w h => (List.mem_cons_of_mem _ (List.mem_append_right _ h))
  unfold fX0_powerOf at hf
  refine lv_iload_n hx hb dX0_powerOf_0 rfl (lv_at hl 1 rfl) ?_
  refine lv_if_ne (tgt := 11) hx hb dX0_powerOf_1 (by decide) (fun hc => ?_) (fun hc => ?_)
  · replace hf := ifn hc hf
    refine lv_aload_n hx hb dX0_powerOf_11 rfl (lv_at hl 0 rfl) ?_
    refine va_get (D := D) (ci := 0) (v := .int (S.1 3)) (C := RX0) (T := TX0) (N := 13) hx hb hts hin_X0 hown hK.1 T.1 14 rfl rfl 8 (by decide) (hts _ (List.mem_of_getElem? (i := 2) rfl)) (fun _ h9 => h9) rfl dX0_powerOf_12 ?_
    exact rf_i hf X T hr dX0_powerOf_15
  · replace hf := ifp hc hf
    refine lv_aload_n hx hb dX0_powerOf_4 rfl (lv_at hl 0 rfl) ?_
    refine va_get (D := D) (ci := 0) (v := .int (S.1 2)) (C := RX0) (T := TX0) (N := 13) hx hb hts hin_X0 hown hK.1 T.1 14 rfl rfl 7 (by decide) (hts _ (List.mem_of_getElem? (i := 1) rfl)) (fun _ h9 => h9) rfl dX0_powerOf_5 ?_
    refine lv_goto (tgt := 15) hx hb dX0_powerOf_8 (by decide) ?_
    exact rf_i hf X T hr dX0_powerOf_15

noncomputable def fX0_spotOf (S : SC) (x1 : Int32) (x2 : Int32) : Option Int32 :=
  nm (((2 : Int32) * x1) + x2 : Int32) fun v1 =>
  if v1 < 0 then
    some (-1)
  else
    if (4 : Int32) ≤ v1 then
      some (-1)
    else
      ck v1 4 <|
      some (S.2 3 v1.toNatClampNeg)
set_option maxHeartbeats 4000000 in
set_option maxRecDepth 100000 in
theorem kX0_spotOf (l : Launch) (D : va_G) (cy : Nat → ClassId) (ad : Nat → Nat) (Xr : va_W) (S : SC) (x1 : Int32) (x2 : Int32) (r : Int32) (hf : fX0_spotOf S x1 x2 = some r) : CG l D cy (wC cy ad Xr) yX0_spotOf wsX0_spotOf ({ frames := 0, cells := 0, slots := 0, locals := 0 } : Room) [.ref (ad 1), .int x1, .int x2] S (some (.int r)) S := by
  refine CG.of (cc := cX0_spotOf) (maxL := 4) (ret := (some .int)) (by decide +kernel) rfl (Nat.le_of_ble_eq_true rfl) ?_
  intro p e s m below meth c A ls X hr T hl
  obtain ⟨hx, hb, hml, hown, hts, hlk, hK, hA, hwA⟩ := id X
  have hl : lv_has ls 4 [(0, .ref (ad 1)), (1, .int x1), (2, .int x2)] := hl
  have hin_X0 : ∀ w ∈ u_ws RX0 TX0 13, w ∈ wsX0_spotOf := fun w h => (List.mem_cons_of_mem _ (List.mem_append_right _ h))
  unfold fX0_spotOf at hf
  refine lv_iconst (v := 2) hx hb dX0_spotOf_0 (by decide) ?_
  refine lv_iload_n hx hb dX0_spotOf_1 rfl (lv_at hl 1 rfl) ?_
  refine lv_imul hx hb dX0_spotOf_2 ?_
  refine lv_iload_n hx hb dX0_spotOf_3 rfl (lv_at hl 2 rfl) ?_
  refine lv_iadd hx hb dX0_spotOf_4 ?_
  refine lv_topi (fun v1 e_v1 => ?_)
  replace hf := nm_use hf e_v1
  refine lv_istore_n (lv' := [(3, .int v1), (0, .ref (ad 1)), (1, .int x1), (2, .int x2)]) hx hb dX0_spotOf_5 rfl hl (by decide) rfl (fun ls hl => ?_)
  refine lv_iload_n hx hb dX0_spotOf_6 rfl (lv_at hl 0 rfl) ?_
  refine lv_if_lt (tgt := 28) hx hb dX0_spotOf_7 (by decide) (fun hc => ?_) (fun hc => ?_)
  · replace hf := ifp hc hf
    refine lv_iconst (v := (-1)) hx hb dX0_spotOf_28 (by decide) ?_
    exact rf_i hf X T hr dX0_spotOf_29
  · replace hf := ifn hc hf
    refine lv_iload_n hx hb dX0_spotOf_10 rfl (lv_at hl 0 rfl) ?_
    refine lv_aload_n hx hb dX0_spotOf_11 rfl (lv_at hl 1 rfl) ?_
    refine va_get (D := D) (ci := 0) (v := .ref (ad 5)) (C := RX0) (T := TX0) (N := 13) hx hb hts hin_X0 hown hK.1 T.1 14 rfl rfl 3 (by decide) (hts _ (List.mem_of_getElem? (i := 1) rfl)) (fun _ h9 => h9) rfl dX0_spotOf_12 ?_
    refine va_alen (v := 4) hx hb hK.1 T.1 10 0 rfl rfl rfl dX0_spotOf_15 ?_
    refine lv_icmp_ge (tgt := 28) hx hb dX0_spotOf_16 (by decide) (fun hc => ?_) (fun hc => ?_)
    · replace hf := ifp hc hf
      refine lv_iconst (v := (-1)) hx hb dX0_spotOf_28 (by decide) ?_
      exact rf_i hf X T hr dX0_spotOf_29
    · replace hf := ifn hc hf
      refine lv_aload_n hx hb dX0_spotOf_19 rfl (lv_at hl 1 rfl) ?_
      refine va_get (D := D) (ci := 0) (v := .ref (ad 5)) (C := RX0) (T := TX0) (N := 13) hx hb hts hin_X0 hown hK.1 T.1 14 rfl rfl 3 (by decide) (hts _ (List.mem_of_getElem? (i := 1) rfl)) (fun _ h9 => h9) rfl dX0_spotOf_20 ?_
      refine lv_iload_n hx hb dX0_spotOf_23 rfl (lv_at hl 0 rfl) ?_
      obtain ⟨hin, hf⟩ := ck_inv hf
      refine va_iald hx hb hK.1 T.1 10 0 rfl rfl hin dX0_spotOf_24 ?_
      refine lv_goto (tgt := 29) hx hb dX0_spotOf_25 (by decide) ?_
      exact rf_i hf X T hr dX0_spotOf_29

noncomputable def fX0_neighbourOf (S : SC) (x1 : Int32) (x2 : Int32) : Option Int32 :=
  nm ((x1 * 8) + x2 : Int32) fun v1 =>
  if v1 < 0 then
    some (-1)
  else
    if (200 : Int32) ≤ v1 then
      some (-1)
    else
      ck v1 200 <|
      some (S.2 0 v1.toNatClampNeg)
set_option maxHeartbeats 4000000 in
set_option maxRecDepth 100000 in
theorem kX0_neighbourOf (l : Launch) (D : va_G) (cy : Nat → ClassId) (ad : Nat → Nat) (Xr : va_W) (S : SC) (x1 : Int32) (x2 : Int32) (r : Int32) (hf : fX0_neighbourOf S x1 x2 = some r) : CG l D cy (wC cy ad Xr) yX0_neighbourOf wsX0_neighbourOf ({ frames := 0, cells := 0, slots := 0, locals := 0 } : Room) [.ref (ad 1), .int x1, .int x2] S (some (.int r)) S := by
  refine CG.of (cc := cX0_neighbourOf) (maxL := 4) (ret := (some .int)) (by decide +kernel) rfl (Nat.le_of_ble_eq_true rfl) ?_
  intro p e s m below meth c A ls X hr T hl
  obtain ⟨hx, hb, hml, hown, hts, hlk, hK, hA, hwA⟩ := id X
  have hl : lv_has ls 4 [(0, .ref (ad 1)), (1, .int x1), (2, .int x2)] := hl
  have hin_X0 : ∀ w ∈ u_ws RX0 TX0 13, w ∈ wsX0_neighbourOf := fun w h => (List.mem_cons_of_mem _ (List.mem_append_right _ h))
  unfold fX0_neighbourOf at hf
  refine lv_iload_n hx hb dX0_neighbourOf_0 rfl (lv_at hl 1 rfl) ?_
  refine lv_bipush (v := 8) hx hb dX0_neighbourOf_1 (by decide) ?_
  refine lv_imul hx hb dX0_neighbourOf_3 ?_
  refine lv_iload_n hx hb dX0_neighbourOf_4 rfl (lv_at hl 2 rfl) ?_
  refine lv_iadd hx hb dX0_neighbourOf_5 ?_
  refine lv_topi (fun v1 e_v1 => ?_)
  replace hf := nm_use hf e_v1
  refine lv_istore_n (lv' := [(3, .int v1), (0, .ref (ad 1)), (1, .int x1), (2, .int x2)]) hx hb dX0_neighbourOf_6 rfl hl (by decide) rfl (fun ls hl => ?_)
  refine lv_iload_n hx hb dX0_neighbourOf_7 rfl (lv_at hl 0 rfl) ?_
  refine lv_if_lt (tgt := 29) hx hb dX0_neighbourOf_8 (by decide) (fun hc => ?_) (fun hc => ?_)
  · replace hf := ifp hc hf
    refine lv_iconst (v := (-1)) hx hb dX0_neighbourOf_29 (by decide) ?_
    exact rf_i hf X T hr dX0_neighbourOf_30
  · replace hf := ifn hc hf
    refine lv_iload_n hx hb dX0_neighbourOf_11 rfl (lv_at hl 0 rfl) ?_
    refine lv_aload_n hx hb dX0_neighbourOf_12 rfl (lv_at hl 1 rfl) ?_
    refine va_get (D := D) (ci := 0) (v := .ref (ad 2)) (C := RX0) (T := TX0) (N := 13) hx hb hts hin_X0 hown hK.1 T.1 14 rfl rfl 0 (by decide) (hts _ (List.mem_of_getElem? (i := 1) rfl)) (fun _ h9 => h9) rfl dX0_neighbourOf_13 ?_
    refine va_alen (v := 200) hx hb hK.1 T.1 13 0 rfl rfl rfl dX0_neighbourOf_16 ?_
    refine lv_icmp_ge (tgt := 29) hx hb dX0_neighbourOf_17 (by decide) (fun hc => ?_) (fun hc => ?_)
    · replace hf := ifp hc hf
      refine lv_iconst (v := (-1)) hx hb dX0_neighbourOf_29 (by decide) ?_
      exact rf_i hf X T hr dX0_neighbourOf_30
    · replace hf := ifn hc hf
      refine lv_aload_n hx hb dX0_neighbourOf_20 rfl (lv_at hl 1 rfl) ?_
      refine va_get (D := D) (ci := 0) (v := .ref (ad 2)) (C := RX0) (T := TX0) (N := 13) hx hb hts hin_X0 hown hK.1 T.1 14 rfl rfl 0 (by decide) (hts _ (List.mem_of_getElem? (i := 1) rfl)) (fun _ h9 => h9) rfl dX0_neighbourOf_21 ?_
      refine lv_iload_n hx hb dX0_neighbourOf_24 rfl (lv_at hl 0 rfl) ?_
      obtain ⟨hin, hf⟩ := ck_inv hf
      refine va_iald hx hb hK.1 T.1 13 0 rfl rfl hin dX0_neighbourOf_25 ?_
      refine lv_goto (tgt := 30) hx hb dX0_neighbourOf_26 (by decide) ?_
      exact rf_i hf X T hr dX0_neighbourOf_30

noncomputable def fX0_storeysUnder_b4 (S : SC) (y1 : Int32) : (Int32 × Int32) → Option ((Int32 × Int32) ⊕ Int32) :=
  fun st => match st with
    | (y2, y3) =>
      if S.1 1 ≤ y3 then
        ex <|
        some y2
      else
        bnd (fX0_spotOf S y1 y3) fun v2 =>
        bnd (fX0_storeysOf S v2) fun v4 =>
        nm (y2 + v4 : Int32) fun v5 =>
        nm (y3 + 1 : Int32) fun v6 =>
        some (.inl (v5, v6))
noncomputable def fX0_storeysUnder (S : SC) (x1 : Int32) : Option Int32 :=
  loop (fX0_storeysUnder_b4 S x1) FUEL (0, 0)
set_option maxHeartbeats 4000000 in
set_option maxRecDepth 100000 in
theorem kX0_storeysUnder (l : Launch) (D : va_G) (cy : Nat → ClassId) (ad : Nat → Nat) (Xr : va_W) (S : SC) (x1 : Int32) (r : Int32) (hf : fX0_storeysUnder S x1 = some r) : CG l D cy (wC cy ad Xr) yX0_storeysUnder wsX0_storeysUnder ({ frames := 1, cells := 0, slots := 0, locals := 23 } : Room) [.ref (ad 1), .int x1] S (some (.int r)) S := by
  refine CG.of (cc := cX0_storeysUnder) (maxL := 4) (ret := (some .int)) (by decide +kernel) rfl (Nat.le_of_ble_eq_true rfl) ?_
  intro p e s m below meth c A ls X hr T hl
  obtain ⟨hx, hb, hml, hown, hts, hlk, hK, hA, hwA⟩ := id X
  have hl : lv_has ls 4 [(0, .ref (ad 1)), (1, .int x1)] := hl
  have hin_X0 : ∀ w ∈ u_ws RX0 TX0 13, w ∈ wsX0_storeysUnder := fun w h => (List.mem_cons_of_mem _ (List.mem_append_right _ h))
  unfold fX0_storeysUnder at hf
  have l_4 : ∀ (y1 : Int32) (n : Nat) (y2 : Int32) (y3 : Int32) (H : Heap) (locs : List Loc) (ls : Array Slot), loop (fX0_storeysUnder_b4 S y1) n (y2, y3) = some r → ST D (wC cy ad Xr) A s S H locs → lv_has ls 4 [(0, .ref (ad 1)), (1, .int y1), (2, .int y2), (3, .int y3)] → W p l e ({ frames := 1, cells := 0, slots := 0, locals := 23 } : Room) s m [.ref (ad 1), .int x1].toArray below meth c H locs 0 0 (MQ below (QG D (wC cy ad Xr) A (some (.int r)) S) [.ref (ad 1), .int x1].toArray s 0 0 A) (F0 m 4 ls []) := by
    intro y1 n
    induction n with
    | zero => intro _ _ _ _ _ hf; cases hf
    | succ n ih_4 =>
      intro y2 y3 H locs ls hf T hl
      obtain ⟨z_4, hf, hin_4, hex_4⟩ := loop_inv hf
      unfold fX0_storeysUnder_b4 at hf
      dsimp only at hf
      refine lv_iload_n hx hb dX0_storeysUnder_4 rfl (lv_at hl 3 rfl) ?_
      refine lv_aload_n hx hb dX0_storeysUnder_5 rfl (lv_at hl 0 rfl) ?_
      refine va_get (D := D) (ci := 0) (v := .int (S.1 1)) (C := RX0) (T := TX0) (N := 13) hx hb hts hin_X0 hown hK.1 T.1 14 rfl rfl 6 (by decide) (hts _ (List.mem_of_getElem? (i := 1) rfl)) (fun _ h9 => h9) rfl dX0_storeysUnder_6 ?_
      refine lv_icmp_ge (tgt := 31) hx hb dX0_storeysUnder_9 (by decide) (fun hc => ?_) (fun hc => ?_)
      · replace hf := ifp hc hf
        obtain ⟨r0, hf, hz⟩ := ex_inv hf
        rw [hex_4 r0 hz] at hf
        refine lv_iload_n hx hb dX0_storeysUnder_31 rfl (lv_at hl 2 rfl) ?_
        exact rf_i hf X T hr dX0_storeysUnder_32
      · replace hf := ifn hc hf
        refine lv_iload_n hx hb dX0_storeysUnder_12 rfl (lv_at hl 2 rfl) ?_
        refine lv_aload_n hx hb dX0_storeysUnder_13 rfl (lv_at hl 0 rfl) ?_
        refine lv_aload_n hx hb dX0_storeysUnder_14 rfl (lv_at hl 0 rfl) ?_
        refine lv_iload_n hx hb dX0_storeysUnder_15 rfl (lv_at hl 1 rfl) ?_
        refine lv_iload_n hx hb dX0_storeysUnder_16 rfl (lv_at hl 3 rfl) ?_
        obtain ⟨v2, h1, hf⟩ := bnd_inv hf
        refine cg_V (q0 := 14) (ci := 0) (As := [.int y1, .int y3]) (rest := [.ref (ad 1), .int y2]) X T (kX0_spotOf l D cy ad Xr S y1 y3 v2 h1) (cwV 2 hts gX0_storeysUnder_X0_spotOf rfl rfl rfl (by decide +kernel) ⟨Nat.le_of_ble_eq_true rfl, Nat.le_of_ble_eq_true rfl⟩) rfl rfl rfl hl.1 rfl (Nat.le_of_ble_eq_true rfl) dX0_storeysUnder_17 ⟨Nat.zero_le _, Nat.zero_le _⟩ (st2 := [.int v2, .ref (ad 1), .int y2]) (pc2 := 20) rfl rfl (fun H locs T => ?_)
        obtain ⟨v4, h3, hf⟩ := bnd_inv hf
        refine cg_V (q0 := 14) (ci := 0) (As := [.int v2]) (rest := [.int y2]) X T (kX0_storeysOf l D cy ad Xr S v2 v4 h3) (cwV 1 hts gX0_storeysUnder_X0_storeysOf rfl rfl rfl (by decide +kernel) ⟨Nat.le_of_ble_eq_true rfl, Nat.le_of_ble_eq_true rfl⟩) rfl rfl rfl hl.1 rfl (Nat.le_of_ble_eq_true rfl) dX0_storeysUnder_20 ⟨Nat.zero_le _, Nat.zero_le _⟩ (st2 := [.int v4, .int y2]) (pc2 := 23) rfl rfl (fun H locs T => ?_)
        refine lv_iadd hx hb dX0_storeysUnder_23 ?_
        refine lv_topi (fun v5 e_v5 => ?_)
        replace hf := nm_use hf e_v5
        refine lv_istore_n (lv' := [(2, .int v5), (0, .ref (ad 1)), (1, .int y1), (3, .int y3)]) hx hb dX0_storeysUnder_24 rfl hl (by decide) rfl (fun ls hl => ?_)
        obtain ⟨v6, e_v6, hf⟩ := nm_inv hf
        refine lv_iinc (v := v6) (lv' := [(3, .int v6), (2, .int v5), (0, .ref (ad 1)), (1, .int y1)]) hx hb dX0_storeysUnder_25 hl (k := 3) rfl (by rw [e_v6]; rfl) (by decide) rfl (fun ls hl => ?_)
        refine lv_goto (tgt := 4) hx hb dX0_storeysUnder_28 (by decide) ?_
        exact ih_4 v5 v6 _ _ _ (hin_4 _ (Option.some.inj hf).symm) T (lv_sub hl [2, 3, 1, 0] rfl)
  refine lv_iconst (v := 0) hx hb dX0_storeysUnder_0 (by decide) ?_
  refine lv_istore_n (lv' := [(2, .int 0), (0, .ref (ad 1)), (1, .int x1)]) hx hb dX0_storeysUnder_1 rfl hl (by decide) rfl (fun ls hl => ?_)
  refine lv_iconst (v := 0) hx hb dX0_storeysUnder_2 (by decide) ?_
  refine lv_istore_n (lv' := [(3, .int 0), (2, .int 0), (0, .ref (ad 1)), (1, .int x1)]) hx hb dX0_storeysUnder_3 rfl hl (by decide) rfl (fun ls hl => ?_)
  exact l_4 x1 FUEL 0 0 _ _ _ hf T (lv_sub hl [2, 3, 1, 0] rfl)
