noncomputable def fX0_asideOf (S : SC) (x1 : Int32) (x2 : Int32) (x3 : Int32) : Option Int32 :=
  bnd (fX0_holderOf S x3) fun v2 =>
  if v2 = (-1) then
    some (-1)
  else
    bnd (fX0_powerOf S x1) fun v4 =>
    if v4 = 2 then
      some x2
    else
      some (x3 + (x3 - x2))
set_option maxHeartbeats 4000000 in
set_option maxRecDepth 100000 in
theorem kX0_asideOf (l : Launch) (D : va_G) (cy : Nat → ClassId) (ad : Nat → Nat) (Xr : va_W) (S : SC) (x1 : Int32) (x2 : Int32) (x3 : Int32) (r : Int32) (hf : fX0_asideOf S x1 x2 x3 = some r) : CG l D cy (wC cy ad Xr) yX0_asideOf wsX0_asideOf ({ frames := 1, cells := 0, slots := 0, locals := 21 } : Room) [.ref (ad 1), .int x1, .int x2, .int x3] S (some (.int r)) S := by
  refine CG.of (cc := cX0_asideOf) (maxL := 4) (ret := (some .int)) (by decide +kernel) rfl (Nat.le_of_ble_eq_true rfl) ?_
  intro p e s m below meth c A ls X hr T hl
  obtain ⟨hx, hb, hml, hown, hts, hlk, hK, hA, hwA⟩ := id X
  have hl : lv_has ls 4 [(0, .ref (ad 1)), (1, .int x1), (2, .int x2), (3, .int x3)] := hl
  unfold fX0_asideOf at hf
  refine lv_aload_n hx hb dX0_asideOf_0 rfl (lv_at hl 0 rfl) ?_
  refine lv_iload_n hx hb dX0_asideOf_1 rfl (lv_at hl 3 rfl) ?_
  obtain ⟨v2, h1, hf⟩ := bnd_inv hf
  refine cg_V (q0 := 14) (ci := 0) (As := [.int x3]) (rest := []) X T (kX0_holderOf l D cy ad Xr S x3 v2 h1) (cwV 1 hts gX0_asideOf_X0_holderOf rfl rfl rfl (by decide +kernel) ⟨Nat.le_of_ble_eq_true rfl, Nat.le_of_ble_eq_true rfl⟩) rfl rfl rfl hl.1 rfl (Nat.le_of_ble_eq_true rfl) dX0_asideOf_2 ⟨Nat.zero_le _, Nat.zero_le _⟩ (st2 := [.int v2]) (pc2 := 5) rfl rfl (fun H locs T => ?_)
  refine lv_iconst (v := (-1)) hx hb dX0_asideOf_5 (by decide) ?_
  refine lv_icmp_ne (tgt := 11) hx hb dX0_asideOf_6 (by decide) (fun hc => ?_) (fun hc => ?_)
  · replace hf := ifn hc hf
    refine lv_aload_n hx hb dX0_asideOf_11 rfl (lv_at hl 0 rfl) ?_
    refine lv_iload_n hx hb dX0_asideOf_12 rfl (lv_at hl 1 rfl) ?_
    obtain ⟨v4, h3, hf⟩ := bnd_inv hf
    refine cg_V (q0 := 14) (ci := 0) (As := [.int x1]) (rest := []) X T (kX0_powerOf l D cy ad Xr S x1 v4 h3) (cwV 1 hts gX0_asideOf_X0_powerOf rfl rfl rfl (by decide +kernel) ⟨Nat.le_of_ble_eq_true rfl, Nat.le_of_ble_eq_true rfl⟩) rfl rfl rfl hl.1 rfl (Nat.le_of_ble_eq_true rfl) dX0_asideOf_13 ⟨Nat.zero_le _, Nat.zero_le _⟩ (st2 := [.int v4]) (pc2 := 16) rfl rfl (fun H locs T => ?_)
    refine lv_iconst (v := 2) hx hb dX0_asideOf_16 (by decide) ?_
    refine lv_icmp_ne (tgt := 24) hx hb dX0_asideOf_17 (by decide) (fun hc => ?_) (fun hc => ?_)
    · replace hf := ifn hc hf
      refine lv_iload_n hx hb dX0_asideOf_24 rfl (lv_at hl 3 rfl) ?_
      refine lv_iload_n hx hb dX0_asideOf_25 rfl (lv_at hl 3 rfl) ?_
      refine lv_iload_n hx hb dX0_asideOf_26 rfl (lv_at hl 2 rfl) ?_
      refine lv_isub hx hb dX0_asideOf_27 ?_
      refine lv_iadd hx hb dX0_asideOf_28 ?_
      exact rf_i hf X T hr dX0_asideOf_29
    · replace hf := ifp hc hf
      refine lv_iload_n hx hb dX0_asideOf_20 rfl (lv_at hl 2 rfl) ?_
      refine lv_goto (tgt := 29) hx hb dX0_asideOf_21 (by decide) ?_
      exact rf_i hf X T hr dX0_asideOf_29
  · replace hf := ifp hc hf
    refine lv_iconst (v := (-1)) hx hb dX0_asideOf_9 (by decide) ?_
    exact rf_i hf X T hr dX0_asideOf_10

noncomputable def fX0_canEnter (S : SC) (x1 : Int32) (x2 : Int32) (x3 : Int32) : Option Int32 :=
  bnd (fX0_holderOf S x2) fun v2 =>
  if v2 = (-1) then
    bnd (fX0_isOpen S x2) fun v12 =>
    cp (v12 = 0 ∨ v12 = 1) <|
    some v12
  else
    if v2 / 10 = x1 then
      some 0
    else
      bnd (fX0_powerOf S x1) fun v4 =>
      if v4 = 2 then
        some 1
      else
        bnd (fX0_powerOf S x1) fun v6 =>
        if v6 = 3 then
          bnd (fX0_neighbourOf S x2 x3) fun v8 =>
          bnd (fX0_isOpen S v8) fun v10 =>
          if v10 = 0 then
            some 0
          else
            some 1
        else
          some 0
set_option maxHeartbeats 4000000 in
set_option maxRecDepth 100000 in
theorem kX0_canEnter (l : Launch) (D : va_G) (cy : Nat → ClassId) (ad : Nat → Nat) (Xr : va_W) (S : SC) (x1 : Int32) (x2 : Int32) (x3 : Int32) (r : Int32) (hf : fX0_canEnter S x1 x2 x3 = some r) : CG l D cy (wC cy ad Xr) yX0_canEnter wsX0_canEnter ({ frames := 1, cells := 0, slots := 0, locals := 23 } : Room) [.ref (ad 1), .int x1, .int x2, .int x3] S (some (.int r)) S := by
  refine CG.of (cc := cX0_canEnter) (maxL := 5) (ret := (some .boolean)) (by decide +kernel) rfl (Nat.le_of_ble_eq_true rfl) ?_
  intro p e s m below meth c A ls X hr T hl
  obtain ⟨hx, hb, hml, hown, hts, hlk, hK, hA, hwA⟩ := id X
  have hl : lv_has ls 5 [(0, .ref (ad 1)), (1, .int x1), (2, .int x2), (3, .int x3)] := hl
  unfold fX0_canEnter at hf
  refine lv_aload_n hx hb dX0_canEnter_0 rfl (lv_at hl 0 rfl) ?_
  refine lv_iload_n hx hb dX0_canEnter_1 rfl (lv_at hl 2 rfl) ?_
  obtain ⟨v2, h1, hf⟩ := bnd_inv hf
  refine cg_V (q0 := 14) (ci := 0) (As := [.int x2]) (rest := []) X T (kX0_holderOf l D cy ad Xr S x2 v2 h1) (cwV 1 hts gX0_canEnter_X0_holderOf rfl rfl rfl (by decide +kernel) ⟨Nat.le_of_ble_eq_true rfl, Nat.le_of_ble_eq_true rfl⟩) rfl rfl rfl hl.1 rfl (Nat.le_of_ble_eq_true rfl) dX0_canEnter_2 ⟨Nat.zero_le _, Nat.zero_le _⟩ (st2 := [.int v2]) (pc2 := 5) rfl rfl (fun H locs T => ?_)
  refine lv_istore (lv' := [(4, .int v2), (0, .ref (ad 1)), (1, .int x1), (2, .int x2), (3, .int x3)]) hx hb dX0_canEnter_5 hl (by decide) rfl (fun ls hl => ?_)
  refine lv_iload hx hb dX0_canEnter_7 (lv_at hl 0 rfl) ?_
  refine lv_iconst (v := (-1)) hx hb dX0_canEnter_9 (by decide) ?_
  refine lv_icmp_ne (tgt := 19) hx hb dX0_canEnter_10 (by decide) (fun hc => ?_) (fun hc => ?_)
  · replace hf := ifn hc hf
    refine lv_iload hx hb dX0_canEnter_19 (lv_at hl 0 rfl) ?_
    refine lv_bipush (v := 10) hx hb dX0_canEnter_21 (by decide) ?_
    refine lv_idiv hx hb dX0_canEnter_23 (by decide) ?_
    refine lv_iload_n hx hb dX0_canEnter_24 rfl (lv_at hl 2 rfl) ?_
    refine lv_icmp_ne (tgt := 30) hx hb dX0_canEnter_25 (by decide) (fun hc => ?_) (fun hc => ?_)
    · replace hf := ifn hc hf
      refine lv_aload_n hx hb dX0_canEnter_30 rfl (lv_at hl 1 rfl) ?_
      refine lv_iload_n hx hb dX0_canEnter_31 rfl (lv_at hl 2 rfl) ?_
      obtain ⟨v4, h3, hf⟩ := bnd_inv hf
      refine cg_V (q0 := 14) (ci := 0) (As := [.int x1]) (rest := []) X T (kX0_powerOf l D cy ad Xr S x1 v4 h3) (cwV 1 hts gX0_canEnter_X0_powerOf rfl rfl rfl (by decide +kernel) ⟨Nat.le_of_ble_eq_true rfl, Nat.le_of_ble_eq_true rfl⟩) rfl rfl rfl hl.1 rfl (Nat.le_of_ble_eq_true rfl) dX0_canEnter_32 ⟨Nat.zero_le _, Nat.zero_le _⟩ (st2 := [.int v4]) (pc2 := 35) rfl rfl (fun H locs T => ?_)
      refine lv_iconst (v := 2) hx hb dX0_canEnter_35 (by decide) ?_
      refine lv_icmp_eq (tgt := 61) hx hb dX0_canEnter_36 (by decide) (fun hc => ?_) (fun hc => ?_)
      · replace hf := ifp hc hf
        refine lv_iconst (v := 1) hx hb dX0_canEnter_61 (by decide) ?_
        refine lv_goto (tgt := 66) hx hb dX0_canEnter_62 (by decide) ?_
        exact rf_z hf X T hr (Or.inr rfl) dX0_canEnter_66
      · replace hf := ifn hc hf
        refine lv_aload_n hx hb dX0_canEnter_39 rfl (lv_at hl 1 rfl) ?_
        refine lv_iload_n hx hb dX0_canEnter_40 rfl (lv_at hl 2 rfl) ?_
        obtain ⟨v6, h5, hf⟩ := bnd_inv hf
        refine cg_V (q0 := 14) (ci := 0) (As := [.int x1]) (rest := []) X T (kX0_powerOf l D cy ad Xr S x1 v6 h5) (cwV 1 hts gX0_canEnter_X0_powerOf rfl rfl rfl (by decide +kernel) ⟨Nat.le_of_ble_eq_true rfl, Nat.le_of_ble_eq_true rfl⟩) rfl rfl rfl hl.1 rfl (Nat.le_of_ble_eq_true rfl) dX0_canEnter_41 ⟨Nat.zero_le _, Nat.zero_le _⟩ (st2 := [.int v6]) (pc2 := 44) rfl rfl (fun H locs T => ?_)
        refine lv_iconst (v := 3) hx hb dX0_canEnter_44 (by decide) ?_
        refine lv_icmp_ne (tgt := 65) hx hb dX0_canEnter_45 (by decide) (fun hc => ?_) (fun hc => ?_)
        · replace hf := ifn hc hf
          refine lv_iconst (v := 0) hx hb dX0_canEnter_65 (by decide) ?_
          exact rf_z hf X T hr (Or.inl rfl) dX0_canEnter_66
        · replace hf := ifp hc hf
          refine lv_aload_n hx hb dX0_canEnter_48 rfl (lv_at hl 1 rfl) ?_
          refine lv_aload_n hx hb dX0_canEnter_49 rfl (lv_at hl 1 rfl) ?_
          refine lv_iload_n hx hb dX0_canEnter_50 rfl (lv_at hl 3 rfl) ?_
          refine lv_iload_n hx hb dX0_canEnter_51 rfl (lv_at hl 4 rfl) ?_
          obtain ⟨v8, h7, hf⟩ := bnd_inv hf
          refine cg_V (q0 := 14) (ci := 0) (As := [.int x2, .int x3]) (rest := [.ref (ad 1)]) X T (kX0_neighbourOf l D cy ad Xr S x2 x3 v8 h7) (cwV 2 hts gX0_canEnter_X0_neighbourOf rfl rfl rfl (by decide +kernel) ⟨Nat.le_of_ble_eq_true rfl, Nat.le_of_ble_eq_true rfl⟩) rfl rfl rfl hl.1 rfl (Nat.le_of_ble_eq_true rfl) dX0_canEnter_52 ⟨Nat.zero_le _, Nat.zero_le _⟩ (st2 := [.int v8, .ref (ad 1)]) (pc2 := 55) rfl rfl (fun H locs T => ?_)
          obtain ⟨v10, h9, hf⟩ := bnd_inv hf
          refine cg_V (q0 := 14) (ci := 0) (As := [.int v8]) (rest := []) X T (kX0_isOpen l D cy ad Xr S v8 v10 h9) (cwV 1 hts gX0_canEnter_X0_isOpen rfl rfl rfl (by decide +kernel) ⟨Nat.le_of_ble_eq_true rfl, Nat.le_of_ble_eq_true rfl⟩) rfl rfl rfl hl.1 rfl (Nat.le_of_ble_eq_true rfl) dX0_canEnter_55 ⟨Nat.zero_le _, Nat.zero_le _⟩ (st2 := [.int v10]) (pc2 := 58) rfl rfl (fun H locs T => ?_)
          refine lv_if_eq (tgt := 65) hx hb dX0_canEnter_58 (by decide) (fun hc => ?_) (fun hc => ?_)
          · replace hf := ifp hc hf
            refine lv_iconst (v := 0) hx hb dX0_canEnter_65 (by decide) ?_
            exact rf_z hf X T hr (Or.inl rfl) dX0_canEnter_66
          · replace hf := ifn hc hf
            refine lv_iconst (v := 1) hx hb dX0_canEnter_61 (by decide) ?_
            refine lv_goto (tgt := 66) hx hb dX0_canEnter_62 (by decide) ?_
            exact rf_z hf X T hr (Or.inr rfl) dX0_canEnter_66
    · replace hf := ifp hc hf
      refine lv_iconst (v := 0) hx hb dX0_canEnter_28 (by decide) ?_
      exact rf_z hf X T hr (Or.inl rfl) dX0_canEnter_29
  · replace hf := ifp hc hf
    refine lv_aload_n hx hb dX0_canEnter_13 rfl (lv_at hl 1 rfl) ?_
    refine lv_iload_n hx hb dX0_canEnter_14 rfl (lv_at hl 3 rfl) ?_
    obtain ⟨v12, h11, hf⟩ := bnd_inv hf
    refine cg_V (q0 := 14) (ci := 0) (As := [.int x2]) (rest := []) X T (kX0_isOpen l D cy ad Xr S x2 v12 h11) (cwV 1 hts gX0_canEnter_X0_isOpen rfl rfl rfl (by decide +kernel) ⟨Nat.le_of_ble_eq_true rfl, Nat.le_of_ble_eq_true rfl⟩) rfl rfl rfl hl.1 rfl (Nat.le_of_ble_eq_true rfl) dX0_canEnter_15 ⟨Nat.zero_le _, Nat.zero_le _⟩ (st2 := [.int v12]) (pc2 := 18) rfl rfl (fun H locs T => ?_)
    obtain ⟨hz1, hf⟩ := cp_inv hf
    exact rf_z hf X T hr hz1 dX0_canEnter_18

noncomputable def fX0_isOpenBehind (S : SC) (x1 : Int32) (x2 : Int32) (x3 : Int32) : Option Int32 :=
  if x3 = x2 then
    some 0
  else
    if x3 = x1 then
      some 1
    else
      bnd (fX0_isOpen S x3) fun v2 =>
      if v2 = 0 then
        some 0
      else
        some 1
set_option maxHeartbeats 4000000 in
set_option maxRecDepth 100000 in
theorem kX0_isOpenBehind (l : Launch) (D : va_G) (cy : Nat → ClassId) (ad : Nat → Nat) (Xr : va_W) (S : SC) (x1 : Int32) (x2 : Int32) (x3 : Int32) (r : Int32) (hf : fX0_isOpenBehind S x1 x2 x3 = some r) : CG l D cy (wC cy ad Xr) yX0_isOpenBehind wsX0_isOpenBehind ({ frames := 1, cells := 0, slots := 0, locals := 21 } : Room) [.ref (ad 1), .int x1, .int x2, .int x3] S (some (.int r)) S := by
  refine CG.of (cc := cX0_isOpenBehind) (maxL := 4) (ret := (some .boolean)) (by decide +kernel) rfl (Nat.le_of_ble_eq_true rfl) ?_
  intro p e s m below meth c A ls X hr T hl
  obtain ⟨hx, hb, hml, hown, hts, hlk, hK, hA, hwA⟩ := id X
  have hl : lv_has ls 4 [(0, .ref (ad 1)), (1, .int x1), (2, .int x2), (3, .int x3)] := hl
  unfold fX0_isOpenBehind at hf
  refine lv_iload_n hx hb dX0_isOpenBehind_0 rfl (lv_at hl 3 rfl) ?_
  refine lv_iload_n hx hb dX0_isOpenBehind_1 rfl (lv_at hl 2 rfl) ?_
  refine lv_icmp_eq (tgt := 22) hx hb dX0_isOpenBehind_2 (by decide) (fun hc => ?_) (fun hc => ?_)
  · replace hf := ifp hc hf
    refine lv_iconst (v := 0) hx hb dX0_isOpenBehind_22 (by decide) ?_
    exact rf_z hf X T hr (Or.inl rfl) dX0_isOpenBehind_23
  · replace hf := ifn hc hf
    refine lv_iload_n hx hb dX0_isOpenBehind_5 rfl (lv_at hl 3 rfl) ?_
    refine lv_iload_n hx hb dX0_isOpenBehind_6 rfl (lv_at hl 1 rfl) ?_
    refine lv_icmp_eq (tgt := 18) hx hb dX0_isOpenBehind_7 (by decide) (fun hc => ?_) (fun hc => ?_)
    · replace hf := ifp hc hf
      refine lv_iconst (v := 1) hx hb dX0_isOpenBehind_18 (by decide) ?_
      refine lv_goto (tgt := 23) hx hb dX0_isOpenBehind_19 (by decide) ?_
      exact rf_z hf X T hr (Or.inr rfl) dX0_isOpenBehind_23
    · replace hf := ifn hc hf
      refine lv_aload_n hx hb dX0_isOpenBehind_10 rfl (lv_at hl 0 rfl) ?_
      refine lv_iload_n hx hb dX0_isOpenBehind_11 rfl (lv_at hl 3 rfl) ?_
      obtain ⟨v2, h1, hf⟩ := bnd_inv hf
      refine cg_V (q0 := 14) (ci := 0) (As := [.int x3]) (rest := []) X T (kX0_isOpen l D cy ad Xr S x3 v2 h1) (cwV 1 hts gX0_isOpenBehind_X0_isOpen rfl rfl rfl (by decide +kernel) ⟨Nat.le_of_ble_eq_true rfl, Nat.le_of_ble_eq_true rfl⟩) rfl rfl rfl hl.1 rfl (Nat.le_of_ble_eq_true rfl) dX0_isOpenBehind_12 ⟨Nat.zero_le _, Nat.zero_le _⟩ (st2 := [.int v2]) (pc2 := 15) rfl rfl (fun H locs T => ?_)
      refine lv_if_eq (tgt := 22) hx hb dX0_isOpenBehind_15 (by decide) (fun hc => ?_) (fun hc => ?_)
      · replace hf := ifp hc hf
        refine lv_iconst (v := 0) hx hb dX0_isOpenBehind_22 (by decide) ?_
        exact rf_z hf X T hr (Or.inl rfl) dX0_isOpenBehind_23
      · replace hf := ifn hc hf
        refine lv_iconst (v := 1) hx hb dX0_isOpenBehind_18 (by decide) ?_
        refine lv_goto (tgt := 23) hx hb dX0_isOpenBehind_19 (by decide) ?_
        exact rf_z hf X T hr (Or.inr rfl) dX0_isOpenBehind_23

noncomputable def fX0_canBuild_b12 (S : SC) (y2 : Int32) (y3 : Int32) (y4 : Int32) : Int32 → Option (Int32 ⊕ Int32) :=
  fun y5 =>
    if (8 : Int32) ≤ y5 then
      ex <|
      some 0
    else
      bnd (fX0_neighbourOf S y3 y5) fun v2 =>
      bnd (fX0_isOpenBehind S y2 y4 v2) fun v4 =>
      if v4 = 0 then
        nm (y5 + 1 : Int32) fun v5 =>
        some (.inl v5)
      else
        ex <|
        some 1
noncomputable def fX0_canBuild (S : SC) (x1 : Int32) (x2 : Int32) (x3 : Int32) : Option Int32 :=
  bnd (fX0_asideOf S x1 x2 x3) fun v7 =>
  loop (fX0_canBuild_b12 S x2 x3 v7) FUEL 0
set_option maxHeartbeats 4000000 in
set_option maxRecDepth 100000 in
theorem kX0_canBuild (l : Launch) (D : va_G) (cy : Nat → ClassId) (ad : Nat → Nat) (Xr : va_W) (S : SC) (x1 : Int32) (x2 : Int32) (x3 : Int32) (r : Int32) (hf : fX0_canBuild S x1 x2 x3 = some r) : CG l D cy (wC cy ad Xr) yX0_canBuild wsX0_canBuild ({ frames := 2, cells := 0, slots := 0, locals := 44 } : Room) [.ref (ad 1), .int x1, .int x2, .int x3] S (some (.int r)) S := by
  refine CG.of (cc := cX0_canBuild) (maxL := 6) (ret := (some .boolean)) (by decide +kernel) rfl (Nat.le_of_ble_eq_true rfl) ?_
  intro p e s m below meth c A ls X hr T hl
  obtain ⟨hx, hb, hml, hown, hts, hlk, hK, hA, hwA⟩ := id X
  have hl : lv_has ls 6 [(0, .ref (ad 1)), (1, .int x1), (2, .int x2), (3, .int x3)] := hl
  unfold fX0_canBuild at hf
  have l_12 : ∀ (y2 : Int32) (y3 : Int32) (y4 : Int32) (n : Nat) (y5 : Int32) (H : Heap) (locs : List Loc) (ls : Array Slot), loop (fX0_canBuild_b12 S y2 y3 y4) n y5 = some r → ST D (wC cy ad Xr) A s S H locs → lv_has ls 6 [(0, .ref (ad 1)), (2, .int y2), (3, .int y3), (4, .int y4), (5, .int y5)] → W p l e ({ frames := 2, cells := 0, slots := 0, locals := 44 } : Room) s m [.ref (ad 1), .int x1, .int x2, .int x3].toArray below meth c H locs 0 0 (MQ below (QG D (wC cy ad Xr) A (some (.int r)) S) [.ref (ad 1), .int x1, .int x2, .int x3].toArray s 0 0 A) (F0 m 12 ls []) := by
    intro y2 y3 y4 n
    induction n with
    | zero => intro _ _ _ _ hf; cases hf
    | succ n ih_12 =>
      intro y5 H locs ls hf T hl
      obtain ⟨z_12, hf, hin_12, hex_12⟩ := loop_inv hf
      unfold fX0_canBuild_b12 at hf
      refine lv_iload hx hb dX0_canBuild_12 (lv_at hl 4 rfl) ?_
      refine lv_bipush (v := 8) hx hb dX0_canBuild_14 (by decide) ?_
      refine lv_icmp_ge (tgt := 44) hx hb dX0_canBuild_16 (by decide) (fun hc => ?_) (fun hc => ?_)
      · replace hf := ifp hc hf
        obtain ⟨r0, hf, hz⟩ := ex_inv hf
        rw [hex_12 r0 hz] at hf
        refine lv_iconst (v := 0) hx hb dX0_canBuild_44 (by decide) ?_
        exact rf_z hf X T hr (Or.inl rfl) dX0_canBuild_45
      · replace hf := ifn hc hf
        refine lv_aload_n hx hb dX0_canBuild_19 rfl (lv_at hl 0 rfl) ?_
        refine lv_iload_n hx hb dX0_canBuild_20 rfl (lv_at hl 1 rfl) ?_
        refine lv_iload hx hb dX0_canBuild_21 (lv_at hl 3 rfl) ?_
        refine lv_aload_n hx hb dX0_canBuild_23 rfl (lv_at hl 0 rfl) ?_
        refine lv_iload_n hx hb dX0_canBuild_24 rfl (lv_at hl 2 rfl) ?_
        refine lv_iload hx hb dX0_canBuild_25 (lv_at hl 4 rfl) ?_
        obtain ⟨v2, h1, hf⟩ := bnd_inv hf
        refine cg_V (q0 := 14) (ci := 0) (As := [.int y3, .int y5]) (rest := [.int y4, .int y2, .ref (ad 1)]) X T (kX0_neighbourOf l D cy ad Xr S y3 y5 v2 h1) (cwV 2 hts gX0_canBuild_X0_neighbourOf rfl rfl rfl (by decide +kernel) ⟨Nat.le_of_ble_eq_true rfl, Nat.le_of_ble_eq_true rfl⟩) rfl rfl rfl hl.1 rfl (Nat.le_of_ble_eq_true rfl) dX0_canBuild_27 ⟨Nat.zero_le _, Nat.zero_le _⟩ (st2 := [.int v2, .int y4, .int y2, .ref (ad 1)]) (pc2 := 30) rfl rfl (fun H locs T => ?_)
        obtain ⟨v4, h3, hf⟩ := bnd_inv hf
        refine cg_V (q0 := 14) (ci := 0) (As := [.int y2, .int y4, .int v2]) (rest := []) X T (kX0_isOpenBehind l D cy ad Xr S y2 y4 v2 v4 h3) (cwV 3 hts gX0_canBuild_X0_isOpenBehind rfl rfl rfl (by decide +kernel) ⟨Nat.le_of_ble_eq_true rfl, Nat.le_of_ble_eq_true rfl⟩) rfl rfl rfl hl.1 rfl (Nat.le_of_ble_eq_true rfl) dX0_canBuild_30 ⟨Nat.zero_le _, Nat.zero_le _⟩ (st2 := [.int v4]) (pc2 := 33) rfl rfl (fun H locs T => ?_)
        refine lv_if_eq (tgt := 38) hx hb dX0_canBuild_33 (by decide) (fun hc => ?_) (fun hc => ?_)
        · replace hf := ifp hc hf
          obtain ⟨v5, e_v5, hf⟩ := nm_inv hf
          refine lv_iinc (v := v5) (lv' := [(5, .int v5), (0, .ref (ad 1)), (2, .int y2), (3, .int y3), (4, .int y4)]) hx hb dX0_canBuild_38 hl (k := 4) rfl (by rw [e_v5]; rfl) (by decide) rfl (fun ls hl => ?_)
          refine lv_goto (tgt := 12) hx hb dX0_canBuild_41 (by decide) ?_
          exact ih_12 v5 _ _ _ (hin_12 _ (Option.some.inj hf).symm) T (lv_sub hl [1, 2, 3, 4, 0] rfl)
        · replace hf := ifn hc hf
          obtain ⟨r0, hf, hz⟩ := ex_inv hf
          rw [hex_12 r0 hz] at hf
          refine lv_iconst (v := 1) hx hb dX0_canBuild_36 (by decide) ?_
          exact rf_z hf X T hr (Or.inr rfl) dX0_canBuild_37
  refine lv_aload_n hx hb dX0_canBuild_0 rfl (lv_at hl 0 rfl) ?_
  refine lv_iload_n hx hb dX0_canBuild_1 rfl (lv_at hl 1 rfl) ?_
  refine lv_iload_n hx hb dX0_canBuild_2 rfl (lv_at hl 2 rfl) ?_
  refine lv_iload_n hx hb dX0_canBuild_3 rfl (lv_at hl 3 rfl) ?_
  obtain ⟨v7, h6, hf⟩ := bnd_inv hf
  refine cg_V (q0 := 14) (ci := 0) (As := [.int x1, .int x2, .int x3]) (rest := []) X T (kX0_asideOf l D cy ad Xr S x1 x2 x3 v7 h6) (cwV 3 hts gX0_canBuild_X0_asideOf rfl rfl rfl (by decide +kernel) ⟨Nat.le_of_ble_eq_true rfl, Nat.le_of_ble_eq_true rfl⟩) rfl rfl rfl hl.1 rfl (Nat.le_of_ble_eq_true rfl) dX0_canBuild_4 ⟨Nat.zero_le _, Nat.zero_le _⟩ (st2 := [.int v7]) (pc2 := 7) rfl rfl (fun H locs T => ?_)
  refine lv_istore (lv' := [(4, .int v7), (0, .ref (ad 1)), (1, .int x1), (2, .int x2), (3, .int x3)]) hx hb dX0_canBuild_7 hl (by decide) rfl (fun ls hl => ?_)
  refine lv_iconst (v := 0) hx hb dX0_canBuild_9 (by decide) ?_
  refine lv_istore (lv' := [(5, .int 0), (4, .int v7), (0, .ref (ad 1)), (1, .int x1), (2, .int x2), (3, .int x3)]) hx hb dX0_canBuild_10 hl (by decide) rfl (fun ls hl => ?_)
  exact l_12 x2 x3 v7 FUEL 0 _ _ _ hf T (lv_sub hl [2, 4, 5, 1, 0] rfl)

noncomputable def fX0_stepOf_j98 (S : SC) (y4 : Int32) (z0 : Int32) : Option Int64 :=
  if z0 = 0 then
    some ((1 : Int64) <<< (y4.toInt64 &&& 63))
  else
    some ((1 : Int64) <<< ((y4 + 32).toInt64 &&& 63))
noncomputable def fX0_stepOf_j97 (S : SC) (y4 : Int32) : Option Int64 :=
  fX0_stepOf_j98 S y4 0
noncomputable def fX0_stepOf_j93 (S : SC) (y4 : Int32) : Option Int64 :=
  fX0_stepOf_j98 S y4 1
noncomputable def fX0_stepOf_j77 (S : SC) (y1 : Int32) (y4 : Int32) (y5 : Int32) : Option Int64 :=
  if ((-2) : Int32) < y5 then
    fX0_stepOf_j97 S y4
  else
    bnd (fX0_powerOf S y1) fun v2 =>
    if v2 = 5 then
      fX0_stepOf_j93 S y4
    else
      fX0_stepOf_j97 S y4
noncomputable def fX0_stepOf_j34 (S : SC) (y1 : Int32) (y3 : Int32) (y4 : Int32) (y5 : Int32) (z0 : Int32) : Option Int64 :=
  if y4 = (-1) then
    some (0 : Int64)
  else
    if z0 < y5 then
      some (0 : Int64)
    else
      bnd (fX0_canEnter S y1 y4 y3) fun v4 =>
      if v4 = 0 then
        some (0 : Int64)
      else
        if y5 ≤ 0 then
          fX0_stepOf_j77 S y1 y4 y5
        else
          bnd (fX0_storeysOf S y4) fun v6 =>
          if v6 = 3 then
            fX0_stepOf_j93 S y4
          else
            fX0_stepOf_j77 S y1 y4 y5
noncomputable def fX0_stepOf (S : SC) (x1 : Int32) (x2 : Int32) (x3 : Int32) : Option Int64 :=
  bnd (fX0_neighbourOf S x2 x3) fun v8 =>
  bnd (fX0_storeysOf S v8) fun v10 =>
  bnd (fX0_storeysOf S x2) fun v12 =>
  nm (v10 - v12 : Int32) fun v13 =>
  if S.1 7 = 0 then
    fX0_stepOf_j34 S x1 x3 v8 v13 1
  else
    fX0_stepOf_j34 S x1 x3 v8 v13 0
set_option maxHeartbeats 4000000 in
set_option maxRecDepth 100000 in
theorem kX0_stepOf (l : Launch) (D : va_G) (cy : Nat → ClassId) (ad : Nat → Nat) (Xr : va_W) (S : SC) (x1 : Int32) (x2 : Int32) (x3 : Int32) (r : Int64) (hf : fX0_stepOf S x1 x2 x3 = some r) : CG l D cy (wC cy ad Xr) yX0_stepOf wsX0_stepOf ({ frames := 2, cells := 0, slots := 0, locals := 47 } : Room) [.ref (ad 1), .int x1, .int x2, .int x3] S (some (.long r)) S := by
  refine CG.of (cc := cX0_stepOf) (maxL := 8) (ret := (some .long)) (by decide +kernel) rfl (Nat.le_of_ble_eq_true rfl) ?_
  intro p e s m below meth c A ls X hr T hl
  obtain ⟨hx, hb, hml, hown, hts, hlk, hK, hA, hwA⟩ := id X
  have hl : lv_has ls 8 [(0, .ref (ad 1)), (1, .int x1), (2, .int x2), (3, .int x3)] := hl
  have hin_X0 : ∀ w ∈ u_ws RX0 TX0 13, w ∈ wsX0_stepOf := fun w h => (List.mem_cons_of_mem _ (List.mem_append_right _ h))
  unfold fX0_stepOf at hf
  have j_98 : ∀ (y4 : Int32) (z0 : Int32) (H : Heap) (locs : List Loc) (ls : Array Slot), fX0_stepOf_j98 S y4 z0 = some r → ST D (wC cy ad Xr) A s S H locs → lv_has ls 8 [(4, .int y4)] → W p l e ({ frames := 2, cells := 0, slots := 0, locals := 47 } : Room) s m [.ref (ad 1), .int x1, .int x2, .int x3].toArray below meth c H locs 0 0 (MQ below (QG D (wC cy ad Xr) A (some (.long r)) S) [.ref (ad 1), .int x1, .int x2, .int x3].toArray s 0 0 A) (F0 m 98 ls [.int z0]) := by
    intro y4 z0 H locs ls hf T hl
    unfold fX0_stepOf_j98 at hf
    refine lv_istore (lv' := [(7, .int z0), (4, .int y4)]) hx hb dX0_stepOf_98 hl (by decide) rfl (fun ls hl => ?_)
    refine lv_lconst (v := 1) hx hb dX0_stepOf_100 (by decide) ?_
    refine lv_iload hx hb dX0_stepOf_101 (lv_at hl 0 rfl) ?_
    refine lv_if_eq (tgt := 114) hx hb dX0_stepOf_103 (by decide) (fun hc => ?_) (fun hc => ?_)
    · replace hf := ifp hc hf
      refine lv_iload hx hb dX0_stepOf_114 (lv_at hl 1 rfl) ?_
      refine lv_lshl hx hb dX0_stepOf_116 rfl ?_
      exact rf_l hf X T hr dX0_stepOf_117
    · replace hf := ifn hc hf
      refine lv_iload hx hb dX0_stepOf_106 (lv_at hl 1 rfl) ?_
      refine lv_bipush (v := 32) hx hb dX0_stepOf_108 (by decide) ?_
      refine lv_iadd hx hb dX0_stepOf_110 ?_
      refine lv_goto (tgt := 116) hx hb dX0_stepOf_111 (by decide) ?_
      refine lv_lshl hx hb dX0_stepOf_116 rfl ?_
      exact rf_l hf X T hr dX0_stepOf_117
  have j_97 : ∀ (y4 : Int32) (H : Heap) (locs : List Loc) (ls : Array Slot), fX0_stepOf_j97 S y4 = some r → ST D (wC cy ad Xr) A s S H locs → lv_has ls 8 [(4, .int y4)] → W p l e ({ frames := 2, cells := 0, slots := 0, locals := 47 } : Room) s m [.ref (ad 1), .int x1, .int x2, .int x3].toArray below meth c H locs 0 0 (MQ below (QG D (wC cy ad Xr) A (some (.long r)) S) [.ref (ad 1), .int x1, .int x2, .int x3].toArray s 0 0 A) (F0 m 97 ls []) := by
    intro y4 H locs ls hf T hl
    unfold fX0_stepOf_j97 at hf
    refine lv_iconst (v := 0) hx hb dX0_stepOf_97 (by decide) ?_
    exact j_98 y4 0 _ _ _ hf T (lv_sub hl [0] rfl)
  have j_93 : ∀ (y4 : Int32) (H : Heap) (locs : List Loc) (ls : Array Slot), fX0_stepOf_j93 S y4 = some r → ST D (wC cy ad Xr) A s S H locs → lv_has ls 8 [(4, .int y4)] → W p l e ({ frames := 2, cells := 0, slots := 0, locals := 47 } : Room) s m [.ref (ad 1), .int x1, .int x2, .int x3].toArray below meth c H locs 0 0 (MQ below (QG D (wC cy ad Xr) A (some (.long r)) S) [.ref (ad 1), .int x1, .int x2, .int x3].toArray s 0 0 A) (F0 m 93 ls []) := by
    intro y4 H locs ls hf T hl
    unfold fX0_stepOf_j93 at hf
    refine lv_iconst (v := 1) hx hb dX0_stepOf_93 (by decide) ?_
    refine lv_goto (tgt := 98) hx hb dX0_stepOf_94 (by decide) ?_
    exact j_98 y4 1 _ _ _ hf T (lv_sub hl [0] rfl)
  have j_77 : ∀ (y1 : Int32) (y4 : Int32) (y5 : Int32) (H : Heap) (locs : List Loc) (ls : Array Slot), fX0_stepOf_j77 S y1 y4 y5 = some r → ST D (wC cy ad Xr) A s S H locs → lv_has ls 8 [(0, .ref (ad 1)), (1, .int y1), (4, .int y4), (5, .int y5)] → W p l e ({ frames := 2, cells := 0, slots := 0, locals := 47 } : Room) s m [.ref (ad 1), .int x1, .int x2, .int x3].toArray below meth c H locs 0 0 (MQ below (QG D (wC cy ad Xr) A (some (.long r)) S) [.ref (ad 1), .int x1, .int x2, .int x3].toArray s 0 0 A) (F0 m 77 ls []) := by
    intro y1 y4 y5 H locs ls hf T hl
    unfold fX0_stepOf_j77 at hf
    refine lv_iload hx hb dX0_stepOf_77 (lv_at hl 3 rfl) ?_
    refine lv_bipush (v := (-2)) hx hb dX0_stepOf_79 (by decide) ?_
    refine lv_icmp_gt (tgt := 97) hx hb dX0_stepOf_81 (by decide) (fun hc => ?_) (fun hc => ?_)
    · replace hf := ifp hc hf
      exact j_97 y4 _ _ _ hf T (lv_sub hl [2] rfl)
    · replace hf := ifn hc hf
      refine lv_aload_n hx hb dX0_stepOf_84 rfl (lv_at hl 0 rfl) ?_
      refine lv_iload_n hx hb dX0_stepOf_85 rfl (lv_at hl 1 rfl) ?_
      obtain ⟨v2, h1, hf⟩ := bnd_inv hf
      refine cg_V (q0 := 14) (ci := 0) (As := [.int y1]) (rest := []) X T (kX0_powerOf l D cy ad Xr S y1 v2 h1) (cwV 1 hts gX0_stepOf_X0_powerOf rfl rfl rfl (by decide +kernel) ⟨Nat.le_of_ble_eq_true rfl, Nat.le_of_ble_eq_true rfl⟩) rfl rfl rfl hl.1 rfl (Nat.le_of_ble_eq_true rfl) dX0_stepOf_86 ⟨Nat.zero_le _, Nat.zero_le _⟩ (st2 := [.int v2]) (pc2 := 89) rfl rfl (fun H locs T => ?_)
      refine lv_iconst (v := 5) hx hb dX0_stepOf_89 (by decide) ?_
      refine lv_icmp_ne (tgt := 97) hx hb dX0_stepOf_90 (by decide) (fun hc => ?_) (fun hc => ?_)
      · replace hf := ifn hc hf
        exact j_97 y4 _ _ _ hf T (lv_sub hl [2] rfl)
      · replace hf := ifp hc hf
        exact j_93 y4 _ _ _ hf T (lv_sub hl [2] rfl)
  have j_34 : ∀ (y1 : Int32) (y3 : Int32) (y4 : Int32) (y5 : Int32) (z0 : Int32) (H : Heap) (locs : List Loc) (ls : Array Slot), fX0_stepOf_j34 S y1 y3 y4 y5 z0 = some r → ST D (wC cy ad Xr) A s S H locs → lv_has ls 8 [(0, .ref (ad 1)), (1, .int y1), (3, .int y3), (4, .int y4), (5, .int y5)] → W p l e ({ frames := 2, cells := 0, slots := 0, locals := 47 } : Room) s m [.ref (ad 1), .int x1, .int x2, .int x3].toArray below meth c H locs 0 0 (MQ below (QG D (wC cy ad Xr) A (some (.long r)) S) [.ref (ad 1), .int x1, .int x2, .int x3].toArray s 0 0 A) (F0 m 34 ls [.int z0]) := by
    intro y1 y3 y4 y5 z0 H locs ls hf T hl
    unfold fX0_stepOf_j34 at hf
    refine lv_istore (lv' := [(6, .int z0), (0, .ref (ad 1)), (1, .int y1), (3, .int y3), (4, .int y4), (5, .int y5)]) hx hb dX0_stepOf_34 hl (by decide) rfl (fun ls hl => ?_)
    refine lv_iload hx hb dX0_stepOf_36 (lv_at hl 4 rfl) ?_
    refine lv_iconst (v := (-1)) hx hb dX0_stepOf_38 (by decide) ?_
    refine lv_icmp_eq (tgt := 60) hx hb dX0_stepOf_39 (by decide) (fun hc => ?_) (fun hc => ?_)
    · replace hf := ifp hc hf
      refine lv_lconst (v := 0) hx hb dX0_stepOf_60 (by decide) ?_
      exact rf_l hf X T hr dX0_stepOf_61
    · replace hf := ifn hc hf
      refine lv_iload hx hb dX0_stepOf_42 (lv_at hl 5 rfl) ?_
      refine lv_iload hx hb dX0_stepOf_44 (lv_at hl 0 rfl) ?_
      refine lv_icmp_gt (tgt := 60) hx hb dX0_stepOf_46 (by decide) (fun hc => ?_) (fun hc => ?_)
      · replace hf := ifp hc hf
        refine lv_lconst (v := 0) hx hb dX0_stepOf_60 (by decide) ?_
        exact rf_l hf X T hr dX0_stepOf_61
      · replace hf := ifn hc hf
        refine lv_aload_n hx hb dX0_stepOf_49 rfl (lv_at hl 1 rfl) ?_
        refine lv_iload_n hx hb dX0_stepOf_50 rfl (lv_at hl 2 rfl) ?_
        refine lv_iload hx hb dX0_stepOf_51 (lv_at hl 4 rfl) ?_
        refine lv_iload_n hx hb dX0_stepOf_53 rfl (lv_at hl 3 rfl) ?_
        obtain ⟨v4, h3, hf⟩ := bnd_inv hf
        refine cg_V (q0 := 14) (ci := 0) (As := [.int y1, .int y4, .int y3]) (rest := []) X T (kX0_canEnter l D cy ad Xr S y1 y4 y3 v4 h3) (cwV 3 hts gX0_stepOf_X0_canEnter rfl rfl rfl (by decide +kernel) ⟨Nat.le_of_ble_eq_true rfl, Nat.le_of_ble_eq_true rfl⟩) rfl rfl rfl hl.1 rfl (Nat.le_of_ble_eq_true rfl) dX0_stepOf_54 ⟨Nat.zero_le _, Nat.zero_le _⟩ (st2 := [.int v4]) (pc2 := 57) rfl rfl (fun H locs T => ?_)
        refine lv_if_ne (tgt := 62) hx hb dX0_stepOf_57 (by decide) (fun hc => ?_) (fun hc => ?_)
        · replace hf := ifn hc hf
          refine lv_iload hx hb dX0_stepOf_62 (lv_at hl 5 rfl) ?_
          refine lv_if_le (tgt := 77) hx hb dX0_stepOf_64 (by decide) (fun hc => ?_) (fun hc => ?_)
          · replace hf := ifp hc hf
            exact j_77 y1 y4 y5 _ _ _ hf T (lv_sub hl [1, 2, 4, 5] rfl)
          · replace hf := ifn hc hf
            refine lv_aload_n hx hb dX0_stepOf_67 rfl (lv_at hl 1 rfl) ?_
            refine lv_iload hx hb dX0_stepOf_68 (lv_at hl 4 rfl) ?_
            obtain ⟨v6, h5, hf⟩ := bnd_inv hf
            refine cg_V (q0 := 14) (ci := 0) (As := [.int y4]) (rest := []) X T (kX0_storeysOf l D cy ad Xr S y4 v6 h5) (cwV 1 hts gX0_stepOf_X0_storeysOf rfl rfl rfl (by decide +kernel) ⟨Nat.le_of_ble_eq_true rfl, Nat.le_of_ble_eq_true rfl⟩) rfl rfl rfl hl.1 rfl (Nat.le_of_ble_eq_true rfl) dX0_stepOf_70 ⟨Nat.zero_le _, Nat.zero_le _⟩ (st2 := [.int v6]) (pc2 := 73) rfl rfl (fun H locs T => ?_)
            refine lv_iconst (v := 3) hx hb dX0_stepOf_73 (by decide) ?_
            refine lv_icmp_eq (tgt := 93) hx hb dX0_stepOf_74 (by decide) (fun hc => ?_) (fun hc => ?_)
            · replace hf := ifp hc hf
              exact j_93 y4 _ _ _ hf T (lv_sub hl [4] rfl)
            · replace hf := ifn hc hf
              exact j_77 y1 y4 y5 _ _ _ hf T (lv_sub hl [1, 2, 4, 5] rfl)
        · replace hf := ifp hc hf
          refine lv_lconst (v := 0) hx hb dX0_stepOf_60 (by decide) ?_
          exact rf_l hf X T hr dX0_stepOf_61
  refine lv_aload_n hx hb dX0_stepOf_0 rfl (lv_at hl 0 rfl) ?_
  refine lv_iload_n hx hb dX0_stepOf_1 rfl (lv_at hl 2 rfl) ?_
  refine lv_iload_n hx hb dX0_stepOf_2 rfl (lv_at hl 3 rfl) ?_
  obtain ⟨v8, h7, hf⟩ := bnd_inv hf
  refine cg_V (q0 := 14) (ci := 0) (As := [.int x2, .int x3]) (rest := []) X T (kX0_neighbourOf l D cy ad Xr S x2 x3 v8 h7) (cwV 2 hts gX0_stepOf_X0_neighbourOf rfl rfl rfl (by decide +kernel) ⟨Nat.le_of_ble_eq_true rfl, Nat.le_of_ble_eq_true rfl⟩) rfl rfl rfl hl.1 rfl (Nat.le_of_ble_eq_true rfl) dX0_stepOf_3 ⟨Nat.zero_le _, Nat.zero_le _⟩ (st2 := [.int v8]) (pc2 := 6) rfl rfl (fun H locs T => ?_)
  refine lv_istore (lv' := [(4, .int v8), (0, .ref (ad 1)), (1, .int x1), (2, .int x2), (3, .int x3)]) hx hb dX0_stepOf_6 hl (by decide) rfl (fun ls hl => ?_)
  refine lv_aload_n hx hb dX0_stepOf_8 rfl (lv_at hl 1 rfl) ?_
  refine lv_iload hx hb dX0_stepOf_9 (lv_at hl 0 rfl) ?_
  obtain ⟨v10, h9, hf⟩ := bnd_inv hf
  refine cg_V (q0 := 14) (ci := 0) (As := [.int v8]) (rest := []) X T (kX0_storeysOf l D cy ad Xr S v8 v10 h9) (cwV 1 hts gX0_stepOf_X0_storeysOf rfl rfl rfl (by decide +kernel) ⟨Nat.le_of_ble_eq_true rfl, Nat.le_of_ble_eq_true rfl⟩) rfl rfl rfl hl.1 rfl (Nat.le_of_ble_eq_true rfl) dX0_stepOf_11 ⟨Nat.zero_le _, Nat.zero_le _⟩ (st2 := [.int v10]) (pc2 := 14) rfl rfl (fun H locs T => ?_)
  refine lv_aload_n hx hb dX0_stepOf_14 rfl (lv_at hl 1 rfl) ?_
  refine lv_iload_n hx hb dX0_stepOf_15 rfl (lv_at hl 3 rfl) ?_
  obtain ⟨v12, h11, hf⟩ := bnd_inv hf
  refine cg_V (q0 := 14) (ci := 0) (As := [.int x2]) (rest := [.int v10]) X T (kX0_storeysOf l D cy ad Xr S x2 v12 h11) (cwV 1 hts gX0_stepOf_X0_storeysOf rfl rfl rfl (by decide +kernel) ⟨Nat.le_of_ble_eq_true rfl, Nat.le_of_ble_eq_true rfl⟩) rfl rfl rfl hl.1 rfl (Nat.le_of_ble_eq_true rfl) dX0_stepOf_16 ⟨Nat.zero_le _, Nat.zero_le _⟩ (st2 := [.int v12, .int v10]) (pc2 := 19) rfl rfl (fun H locs T => ?_)
  refine lv_isub hx hb dX0_stepOf_19 ?_
  refine lv_topi (fun v13 e_v13 => ?_)
  replace hf := nm_use hf e_v13
  refine lv_istore (lv' := [(5, .int v13), (4, .int v8), (0, .ref (ad 1)), (1, .int x1), (2, .int x2), (3, .int x3)]) hx hb dX0_stepOf_20 hl (by decide) rfl (fun ls hl => ?_)
  refine lv_aload_n hx hb dX0_stepOf_22 rfl (lv_at hl 2 rfl) ?_
  refine va_get (D := D) (ci := 0) (v := .int (S.1 7)) (C := RX0) (T := TX0) (N := 13) hx hb hts hin_X0 hown hK.1 T.1 14 rfl rfl 12 (by decide) (hts _ (List.mem_of_getElem? (i := 1) rfl)) (fun _ h9 => h9) rfl dX0_stepOf_23 ?_
  refine lv_if_eq (tgt := 33) hx hb dX0_stepOf_26 (by decide) (fun hc => ?_) (fun hc => ?_)
  · replace hf := ifp hc hf
    refine lv_iconst (v := 1) hx hb dX0_stepOf_33 (by decide) ?_
    exact j_34 x1 x3 v8 v13 1 _ _ _ hf T (lv_sub hl [2, 3, 5, 1, 0] rfl)
  · replace hf := ifn hc hf
    refine lv_iconst (v := 0) hx hb dX0_stepOf_29 (by decide) ?_
    refine lv_goto (tgt := 34) hx hb dX0_stepOf_30 (by decide) ?_
    exact j_34 x1 x3 v8 v13 0 _ _ _ hf T (lv_sub hl [2, 3, 5, 1, 0] rfl)

noncomputable def fX0_hasTurn_j72 (S : SC) (y1 : Int32) (y2 : Int32) (y3 : Int32) (y4 : Int32) : Option (Int32 ⊕ (Int32 ⊕ Int32)) :=
  nm (y4 + 1 : Int32) fun v1 =>
  some (.inl v1)
noncomputable def fX0_hasTurn_b20 (S : SC) (y1 : Int32) (y2 : Int32) (y3 : Int32) : Int32 → Option (Int32 ⊕ (Int32 ⊕ Int32)) :=
  fun y4 =>
    if (8 : Int32) ≤ y4 then
      ex <|
      nm (y2 + 1 : Int32) fun v2 =>
      some (.inl v2)
    else
      bnd (fX0_stepOf S y1 y3 y4) fun v4 =>
      if lg_cmp (v4 >>> ((32 : Int32).toInt64 &&& 63)) (0 : Int64) = 0 then
        if lg_cmp v4 (0 : Int64) = 0 then
          fX0_hasTurn_j72 S y1 y2 y3 y4
        else
          bnd (fX0_neighbourOf S y3 y4) fun v6 =>
          bnd (fX0_canBuild S y1 y3 v6) fun v8 =>
          if v8 = 0 then
            fX0_hasTurn_j72 S y1 y2 y3 y4
          else
            ex <|
            ex <|
            some 1
      else
        ex <|
        ex <|
        some 1
noncomputable def fX0_hasTurn_b2 (S : SC) (y1 : Int32) : Int32 → Option (Int32 ⊕ Int32) :=
  fun y2 =>
    if S.1 1 ≤ y2 then
      ex <|
      some 0
    else
      bnd (fX0_spotOf S y1 y2) fun v10 =>
      loop (fX0_hasTurn_b20 S y1 y2 v10) FUEL 0
noncomputable def fX0_hasTurn (S : SC) (x1 : Int32) : Option Int32 :=
  loop (fX0_hasTurn_b2 S x1) FUEL 0
set_option maxHeartbeats 4000000 in
set_option maxRecDepth 100000 in
theorem kX0_hasTurn (l : Launch) (D : va_G) (cy : Nat → ClassId) (ad : Nat → Nat) (Xr : va_W) (S : SC) (x1 : Int32) (r : Int32) (hf : fX0_hasTurn S x1 = some r) : CG l D cy (wC cy ad Xr) yX0_hasTurn wsX0_hasTurn ({ frames := 3, cells := 0, slots := 0, locals := 74 } : Room) [.ref (ad 1), .int x1] S (some (.int r)) S := by
  refine CG.of (cc := cX0_hasTurn) (maxL := 7) (ret := (some .boolean)) (by decide +kernel) rfl (Nat.le_of_ble_eq_true rfl) ?_
  intro p e s m below meth c A ls X hr T hl
  obtain ⟨hx, hb, hml, hown, hts, hlk, hK, hA, hwA⟩ := id X
  have hl : lv_has ls 7 [(0, .ref (ad 1)), (1, .int x1)] := hl
  have hin_X0 : ∀ w ∈ u_ws RX0 TX0 13, w ∈ wsX0_hasTurn := fun w h => (List.mem_cons_of_mem _ (List.mem_append_right _ h))
  unfold fX0_hasTurn at hf
  have l_2 : ∀ (y1 : Int32) (n : Nat) (y2 : Int32) (H : Heap) (locs : List Loc) (ls : Array Slot), loop (fX0_hasTurn_b2 S y1) n y2 = some r → ST D (wC cy ad Xr) A s S H locs → lv_has ls 7 [(0, .ref (ad 1)), (1, .int y1), (2, .int y2)] → W p l e ({ frames := 3, cells := 0, slots := 0, locals := 74 } : Room) s m [.ref (ad 1), .int x1].toArray below meth c H locs 0 0 (MQ below (QG D (wC cy ad Xr) A (some (.int r)) S) [.ref (ad 1), .int x1].toArray s 0 0 A) (F0 m 2 ls []) := by
    intro y1 n
    induction n with
    | zero => intro _ _ _ _ hf; cases hf
    | succ n ih_2 =>
      intro y2 H locs ls hf T hl
      obtain ⟨z_2, hf, hin_2, hex_2⟩ := loop_inv hf
      unfold fX0_hasTurn_b2 at hf
      have l_20 : ∀ (y2 : Int32) (y3 : Int32) (n : Nat) (y4 : Int32) (H : Heap) (locs : List Loc) (ls : Array Slot), loop (fX0_hasTurn_b20 S y1 y2 y3) n y4 = some z_2 → ST D (wC cy ad Xr) A s S H locs → lv_has ls 7 [(0, .ref (ad 1)), (1, .int y1), (2, .int y2), (3, .int y3), (4, .int y4)] → W p l e ({ frames := 3, cells := 0, slots := 0, locals := 74 } : Room) s m [.ref (ad 1), .int x1].toArray below meth c H locs 0 0 (MQ below (QG D (wC cy ad Xr) A (some (.int r)) S) [.ref (ad 1), .int x1].toArray s 0 0 A) (F0 m 20 ls []) := by
        intro y2 y3 n
        induction n with
        | zero => intro _ _ _ _ hf; cases hf
        | succ n ih_20 =>
          intro y4 H locs ls hf T hl
          obtain ⟨z_20, hf, hin_20, hex_20⟩ := loop_inv hf
          unfold fX0_hasTurn_b20 at hf
          have j_72 : ∀ (y4 : Int32) (H : Heap) (locs : List Loc) (ls : Array Slot), fX0_hasTurn_j72 S y1 y2 y3 y4 = some z_20 → ST D (wC cy ad Xr) A s S H locs → lv_has ls 7 [(0, .ref (ad 1)), (1, .int y1), (2, .int y2), (3, .int y3), (4, .int y4)] → W p l e ({ frames := 3, cells := 0, slots := 0, locals := 74 } : Room) s m [.ref (ad 1), .int x1].toArray below meth c H locs 0 0 (MQ below (QG D (wC cy ad Xr) A (some (.int r)) S) [.ref (ad 1), .int x1].toArray s 0 0 A) (F0 m 72 ls []) := by
            intro y4 H locs ls hf T hl
            unfold fX0_hasTurn_j72 at hf
            obtain ⟨v1, e_v1, hf⟩ := nm_inv hf
            refine lv_iinc (v := v1) (lv' := [(4, .int v1), (0, .ref (ad 1)), (1, .int y1), (2, .int y2), (3, .int y3)]) hx hb dX0_hasTurn_72 hl (k := 4) rfl (by rw [e_v1]; rfl) (by decide) rfl (fun ls hl => ?_)
            refine lv_goto (tgt := 20) hx hb dX0_hasTurn_75 (by decide) ?_
            exact ih_20 v1 _ _ _ (hin_20 _ (Option.some.inj hf).symm) T (lv_sub hl [1, 2, 3, 4, 0] rfl)
          refine lv_iload hx hb dX0_hasTurn_20 (lv_at hl 4 rfl) ?_
          refine lv_bipush (v := 8) hx hb dX0_hasTurn_22 (by decide) ?_
          refine lv_icmp_ge (tgt := 78) hx hb dX0_hasTurn_24 (by decide) (fun hc => ?_) (fun hc => ?_)
          · replace hf := ifp hc hf
            obtain ⟨r0, hf, hz⟩ := ex_inv hf
            rw [hex_20 r0 hz] at hf
            obtain ⟨v2, e_v2, hf⟩ := nm_inv hf
            refine lv_iinc (v := v2) (lv' := [(2, .int v2), (0, .ref (ad 1)), (1, .int y1), (3, .int y3), (4, .int y4)]) hx hb dX0_hasTurn_78 hl (k := 2) rfl (by rw [e_v2]; rfl) (by decide) rfl (fun ls hl => ?_)
            refine lv_goto (tgt := 2) hx hb dX0_hasTurn_81 (by decide) ?_
            exact ih_2 v2 _ _ _ (hin_2 _ (Option.some.inj hf).symm) T (lv_sub hl [1, 2, 0] rfl)
          · replace hf := ifn hc hf
            refine lv_aload_n hx hb dX0_hasTurn_27 rfl (lv_at hl 0 rfl) ?_
            refine lv_iload_n hx hb dX0_hasTurn_28 rfl (lv_at hl 1 rfl) ?_
            refine lv_iload_n hx hb dX0_hasTurn_29 rfl (lv_at hl 3 rfl) ?_
            refine lv_iload hx hb dX0_hasTurn_30 (lv_at hl 4 rfl) ?_
            obtain ⟨v4, h3, hf⟩ := bnd_inv hf
            refine cg_V (q0 := 14) (ci := 0) (As := [.int y1, .int y3, .int y4]) (rest := []) X T (kX0_stepOf l D cy ad Xr S y1 y3 y4 v4 h3) (cwV 3 hts gX0_hasTurn_X0_stepOf rfl rfl rfl (by decide +kernel) ⟨Nat.le_of_ble_eq_true rfl, Nat.le_of_ble_eq_true rfl⟩) rfl rfl rfl hl.1 rfl (Nat.le_of_ble_eq_true rfl) dX0_hasTurn_32 ⟨Nat.zero_le _, Nat.zero_le _⟩ (st2 := [.long v4]) (pc2 := 35) rfl rfl (fun H locs T => ?_)
            refine lv_lstore (lv' := [(5, .long v4), (0, .ref (ad 1)), (1, .int y1), (2, .int y2), (3, .int y3), (4, .int y4)]) hx hb dX0_hasTurn_35 hl (by decide) rfl (fun ls hl => ?_)
            refine lv_lload hx hb dX0_hasTurn_37 (lv_at hl 0 rfl) ?_
            refine lv_bipush (v := 32) hx hb dX0_hasTurn_39 (by decide) ?_
            refine lv_lshr hx hb dX0_hasTurn_41 rfl ?_
            refine lv_lconst (v := 0) hx hb dX0_hasTurn_42 (by decide) ?_
            refine W.lcmp hx hb dX0_hasTurn_43 ?_
            refine lv_if_ne (tgt := 70) hx hb dX0_hasTurn_44 (by decide) (fun hc => ?_) (fun hc => ?_)
            · replace hf := ifn hc hf
              obtain ⟨r0, hf, hz⟩ := ex_inv hf
              rw [hex_20 r0 hz] at hf
              obtain ⟨r0, hf, hz⟩ := ex_inv hf
              rw [hex_2 r0 hz] at hf
              refine lv_iconst (v := 1) hx hb dX0_hasTurn_70 (by decide) ?_
              exact rf_z hf X T hr (Or.inr rfl) dX0_hasTurn_71
            · replace hf := ifp hc hf
              refine lv_lload hx hb dX0_hasTurn_47 (lv_at hl 0 rfl) ?_
              refine lv_lconst (v := 0) hx hb dX0_hasTurn_49 (by decide) ?_
              refine W.lcmp hx hb dX0_hasTurn_50 ?_
              refine lv_if_eq (tgt := 72) hx hb dX0_hasTurn_51 (by decide) (fun hc => ?_) (fun hc => ?_)
              · replace hf := ifp hc hf
                exact j_72 y4 _ _ _ hf T (lv_sub hl [1, 2, 3, 4, 5] rfl)
              · replace hf := ifn hc hf
                refine lv_aload_n hx hb dX0_hasTurn_54 rfl (lv_at hl 1 rfl) ?_
                refine lv_iload_n hx hb dX0_hasTurn_55 rfl (lv_at hl 2 rfl) ?_
                refine lv_iload_n hx hb dX0_hasTurn_56 rfl (lv_at hl 4 rfl) ?_
                refine lv_aload_n hx hb dX0_hasTurn_57 rfl (lv_at hl 1 rfl) ?_
                refine lv_iload_n hx hb dX0_hasTurn_58 rfl (lv_at hl 4 rfl) ?_
                refine lv_iload hx hb dX0_hasTurn_59 (lv_at hl 5 rfl) ?_
                obtain ⟨v6, h5, hf⟩ := bnd_inv hf
                refine cg_V (q0 := 14) (ci := 0) (As := [.int y3, .int y4]) (rest := [.int y3, .int y1, .ref (ad 1)]) X T (kX0_neighbourOf l D cy ad Xr S y3 y4 v6 h5) (cwV 2 hts gX0_hasTurn_X0_neighbourOf rfl rfl rfl (by decide +kernel) ⟨Nat.le_of_ble_eq_true rfl, Nat.le_of_ble_eq_true rfl⟩) rfl rfl rfl hl.1 rfl (Nat.le_of_ble_eq_true rfl) dX0_hasTurn_61 ⟨Nat.zero_le _, Nat.zero_le _⟩ (st2 := [.int v6, .int y3, .int y1, .ref (ad 1)]) (pc2 := 64) rfl rfl (fun H locs T => ?_)
                obtain ⟨v8, h7, hf⟩ := bnd_inv hf
                refine cg_V (q0 := 14) (ci := 0) (As := [.int y1, .int y3, .int v6]) (rest := []) X T (kX0_canBuild l D cy ad Xr S y1 y3 v6 v8 h7) (cwV 3 hts gX0_hasTurn_X0_canBuild rfl rfl rfl (by decide +kernel) ⟨Nat.le_of_ble_eq_true rfl, Nat.le_of_ble_eq_true rfl⟩) rfl rfl rfl hl.1 rfl (Nat.le_of_ble_eq_true rfl) dX0_hasTurn_64 ⟨Nat.zero_le _, Nat.zero_le _⟩ (st2 := [.int v8]) (pc2 := 67) rfl rfl (fun H locs T => ?_)
                refine lv_if_eq (tgt := 72) hx hb dX0_hasTurn_67 (by decide) (fun hc => ?_) (fun hc => ?_)
                · replace hf := ifp hc hf
                  exact j_72 y4 _ _ _ hf T (lv_sub hl [1, 2, 3, 4, 5] rfl)
                · replace hf := ifn hc hf
                  obtain ⟨r0, hf, hz⟩ := ex_inv hf
                  rw [hex_20 r0 hz] at hf
                  obtain ⟨r0, hf, hz⟩ := ex_inv hf
                  rw [hex_2 r0 hz] at hf
                  refine lv_iconst (v := 1) hx hb dX0_hasTurn_70 (by decide) ?_
                  exact rf_z hf X T hr (Or.inr rfl) dX0_hasTurn_71
      refine lv_iload_n hx hb dX0_hasTurn_2 rfl (lv_at hl 2 rfl) ?_
      refine lv_aload_n hx hb dX0_hasTurn_3 rfl (lv_at hl 0 rfl) ?_
      refine va_get (D := D) (ci := 0) (v := .int (S.1 1)) (C := RX0) (T := TX0) (N := 13) hx hb hts hin_X0 hown hK.1 T.1 14 rfl rfl 6 (by decide) (hts _ (List.mem_of_getElem? (i := 1) rfl)) (fun _ h9 => h9) rfl dX0_hasTurn_4 ?_
      refine lv_icmp_ge (tgt := 84) hx hb dX0_hasTurn_7 (by decide) (fun hc => ?_) (fun hc => ?_)
      · replace hf := ifp hc hf
        obtain ⟨r0, hf, hz⟩ := ex_inv hf
        rw [hex_2 r0 hz] at hf
        refine lv_iconst (v := 0) hx hb dX0_hasTurn_84 (by decide) ?_
        exact rf_z hf X T hr (Or.inl rfl) dX0_hasTurn_85
      · replace hf := ifn hc hf
        refine lv_aload_n hx hb dX0_hasTurn_10 rfl (lv_at hl 0 rfl) ?_
        refine lv_iload_n hx hb dX0_hasTurn_11 rfl (lv_at hl 1 rfl) ?_
        refine lv_iload_n hx hb dX0_hasTurn_12 rfl (lv_at hl 2 rfl) ?_
        obtain ⟨v10, h9, hf⟩ := bnd_inv hf
        refine cg_V (q0 := 14) (ci := 0) (As := [.int y1, .int y2]) (rest := []) X T (kX0_spotOf l D cy ad Xr S y1 y2 v10 h9) (cwV 2 hts gX0_hasTurn_X0_spotOf rfl rfl rfl (by decide +kernel) ⟨Nat.le_of_ble_eq_true rfl, Nat.le_of_ble_eq_true rfl⟩) rfl rfl rfl hl.1 rfl (Nat.le_of_ble_eq_true rfl) dX0_hasTurn_13 ⟨Nat.zero_le _, Nat.zero_le _⟩ (st2 := [.int v10]) (pc2 := 16) rfl rfl (fun H locs T => ?_)
        refine lv_istore_n (lv' := [(3, .int v10), (0, .ref (ad 1)), (1, .int y1), (2, .int y2)]) hx hb dX0_hasTurn_16 rfl hl (by decide) rfl (fun ls hl => ?_)
        refine lv_iconst (v := 0) hx hb dX0_hasTurn_17 (by decide) ?_
        refine lv_istore (lv' := [(4, .int 0), (3, .int v10), (0, .ref (ad 1)), (1, .int y1), (2, .int y2)]) hx hb dX0_hasTurn_18 hl (by decide) rfl (fun ls hl => ?_)
        exact l_20 y2 v10 FUEL 0 _ _ _ hf T (lv_sub hl [2, 3, 4, 1, 0] rfl)
  refine lv_iconst (v := 0) hx hb dX0_hasTurn_0 (by decide) ?_
  refine lv_istore_n (lv' := [(2, .int 0), (0, .ref (ad 1)), (1, .int x1)]) hx hb dX0_hasTurn_1 rfl hl (by decide) rfl (fun ls hl => ?_)
  exact l_2 x1 FUEL 0 _ _ _ hf T (lv_sub hl [1, 2, 0] rfl)

noncomputable def fX0_reachOf_j99 (S : SC) (y1 : Int32) (y3 : Int64) (y5 : Int64) (y7 : Int32) : Option ((Int64 × Int32) ⊕ Int64) :=
  nm (y7 + 1 : Int32) fun v1 =>
  some (.inl (y5, v1))
noncomputable def fX0_reachOf_b72 (S : SC) (y1 : Int32) (y3 : Int64) (y7 : Int32) : (Int64 × Int32) → Option ((Int64 × Int32) ⊕ ((Int64 × Int32) ⊕ Int64)) :=
  fun st => match st with
    | (y5, y8) =>
      if (8 : Int32) ≤ y8 then
        ex <|
        fX0_reachOf_j99 S y1 y3 y5 y7
      else
        bnd (fX0_stepOf S y1 y7 y8) fun v3 =>
        nm (y5 ||| v3 : Int64) fun v4 =>
        nm (y8 + 1 : Int32) fun v5 =>
        some (.inl (v4, v5))
noncomputable def fX0_reachOf_b46 (S : SC) (y1 : Int32) (y3 : Int64) : (Int64 × Int32) → Option ((Int64 × Int32) ⊕ Int64) :=
  fun st => match st with
    | (y5, y7) =>
      if S.1 0 ≤ y7 then
        ex <|
        some y5
      else
        if lg_cmp ((y3 >>> (y7.toInt64 &&& 63)) &&& (1 : Int64)) (0 : Int64) = 0 then
          fX0_reachOf_j99 S y1 y3 y5 y7
        else
          loop (fX0_reachOf_b72 S y1 y3 y7) FUEL (y5, 0)
noncomputable def fX0_reachOf_b5 (S : SC) (y1 : Int32) (y2 : Int32) : (Int64 × Int32) → Option ((Int64 × Int32) ⊕ Int64) :=
  fun st => match st with
    | (y3, y5) =>
      if (8 : Int32) ≤ y5 then
        ex <|
        bnd (fX0_powerOf S y1) fun v7 =>
        if v7 = 1 then
          loop (fX0_reachOf_b46 S y1 y3) FUEL (y3, 0)
        else
          some y3
      else
        bnd (fX0_stepOf S y1 y2 y5) fun v9 =>
        nm (y3 ||| v9 : Int64) fun v10 =>
        nm (y5 + 1 : Int32) fun v11 =>
        some (.inl (v10, v11))
noncomputable def fX0_reachOf (S : SC) (x1 : Int32) (x2 : Int32) : Option Int64 :=
  loop (fX0_reachOf_b5 S x1 x2) FUEL ((0 : Int64), 0)
set_option maxHeartbeats 4000000 in
set_option maxRecDepth 100000 in
theorem kX0_reachOf (l : Launch) (D : va_G) (cy : Nat → ClassId) (ad : Nat → Nat) (Xr : va_W) (S : SC) (x1 : Int32) (x2 : Int32) (r : Int64) (hf : fX0_reachOf S x1 x2 = some r) : CG l D cy (wC cy ad Xr) yX0_reachOf wsX0_reachOf ({ frames := 3, cells := 0, slots := 0, locals := 74 } : Room) [.ref (ad 1), .int x1, .int x2] S (some (.long r)) S := by
  refine CG.of (cc := cX0_reachOf) (maxL := 9) (ret := (some .long)) (by decide +kernel) rfl (Nat.le_of_ble_eq_true rfl) ?_
  intro p e s m below meth c A ls X hr T hl
  obtain ⟨hx, hb, hml, hown, hts, hlk, hK, hA, hwA⟩ := id X
  have hl : lv_has ls 9 [(0, .ref (ad 1)), (1, .int x1), (2, .int x2)] := hl
  have hin_X0 : ∀ w ∈ u_ws RX0 TX0 13, w ∈ wsX0_reachOf := fun w h => (List.mem_cons_of_mem _ (List.mem_append_right _ h))
  unfold fX0_reachOf at hf
  have l_46 : ∀ (y1 : Int32) (y3 : Int64) (n : Nat) (y5 : Int64) (y7 : Int32) (H : Heap) (locs : List Loc) (ls : Array Slot), loop (fX0_reachOf_b46 S y1 y3) n (y5, y7) = some r → ST D (wC cy ad Xr) A s S H locs → lv_has ls 9 [(0, .ref (ad 1)), (1, .int y1), (3, .long y3), (5, .long y5), (7, .int y7)] → W p l e ({ frames := 3, cells := 0, slots := 0, locals := 74 } : Room) s m [.ref (ad 1), .int x1, .int x2].toArray below meth c H locs 0 0 (MQ below (QG D (wC cy ad Xr) A (some (.long r)) S) [.ref (ad 1), .int x1, .int x2].toArray s 0 0 A) (F0 m 46 ls []) := by
    intro y1 y3 n
    induction n with
    | zero => intro _ _ _ _ _ hf; cases hf
    | succ n ih_46 =>
      intro y5 y7 H locs ls hf T hl
      obtain ⟨z_46, hf, hin_46, hex_46⟩ := loop_inv hf
      unfold fX0_reachOf_b46 at hf
      dsimp only at hf
      have j_99 : ∀ (y5 : Int64) (y7 : Int32) (H : Heap) (locs : List Loc) (ls : Array Slot), fX0_reachOf_j99 S y1 y3 y5 y7 = some z_46 → ST D (wC cy ad Xr) A s S H locs → lv_has ls 9 [(0, .ref (ad 1)), (1, .int y1), (3, .long y3), (5, .long y5), (7, .int y7)] → W p l e ({ frames := 3, cells := 0, slots := 0, locals := 74 } : Room) s m [.ref (ad 1), .int x1, .int x2].toArray below meth c H locs 0 0 (MQ below (QG D (wC cy ad Xr) A (some (.long r)) S) [.ref (ad 1), .int x1, .int x2].toArray s 0 0 A) (F0 m 99 ls []) := by
        intro y5 y7 H locs ls hf T hl
        unfold fX0_reachOf_j99 at hf
        obtain ⟨v1, e_v1, hf⟩ := nm_inv hf
        refine lv_iinc (v := v1) (lv' := [(7, .int v1), (0, .ref (ad 1)), (1, .int y1), (3, .long y3), (5, .long y5)]) hx hb dX0_reachOf_99 hl (k := 4) rfl (by rw [e_v1]; rfl) (by decide) rfl (fun ls hl => ?_)
        refine lv_goto (tgt := 46) hx hb dX0_reachOf_102 (by decide) ?_
        exact ih_46 y5 v1 _ _ _ (hin_46 _ (Option.some.inj hf).symm) T (lv_sub hl [1, 2, 3, 4, 0] rfl)
      have l_72 : ∀ (y7 : Int32) (n : Nat) (y5 : Int64) (y8 : Int32) (H : Heap) (locs : List Loc) (ls : Array Slot), loop (fX0_reachOf_b72 S y1 y3 y7) n (y5, y8) = some z_46 → ST D (wC cy ad Xr) A s S H locs → lv_has ls 9 [(0, .ref (ad 1)), (1, .int y1), (3, .long y3), (5, .long y5), (7, .int y7), (8, .int y8)] → W p l e ({ frames := 3, cells := 0, slots := 0, locals := 74 } : Room) s m [.ref (ad 1), .int x1, .int x2].toArray below meth c H locs 0 0 (MQ below (QG D (wC cy ad Xr) A (some (.long r)) S) [.ref (ad 1), .int x1, .int x2].toArray s 0 0 A) (F0 m 72 ls []) := by
        intro y7 n
        induction n with
        | zero => intro _ _ _ _ _ hf; cases hf
        | succ n ih_72 =>
          intro y5 y8 H locs ls hf T hl
          obtain ⟨z_72, hf, hin_72, hex_72⟩ := loop_inv hf
          unfold fX0_reachOf_b72 at hf
          dsimp only at hf
          refine lv_iload hx hb dX0_reachOf_72 (lv_at hl 5 rfl) ?_
          refine lv_bipush (v := 8) hx hb dX0_reachOf_74 (by decide) ?_
          refine lv_icmp_ge (tgt := 99) hx hb dX0_reachOf_76 (by decide) (fun hc => ?_) (fun hc => ?_)
          · replace hf := ifp hc hf
            obtain ⟨r0, hf, hz⟩ := ex_inv hf
            rw [hex_72 r0 hz] at hf
            exact j_99 y5 y7 _ _ _ hf T (lv_sub hl [0, 1, 2, 3, 4] rfl)
          · replace hf := ifn hc hf
            refine lv_lload hx hb dX0_reachOf_79 (lv_at hl 3 rfl) ?_
            refine lv_aload_n hx hb dX0_reachOf_81 rfl (lv_at hl 0 rfl) ?_
            refine lv_iload_n hx hb dX0_reachOf_82 rfl (lv_at hl 1 rfl) ?_
            refine lv_iload hx hb dX0_reachOf_83 (lv_at hl 4 rfl) ?_
            refine lv_iload hx hb dX0_reachOf_85 (lv_at hl 5 rfl) ?_
            obtain ⟨v3, h2, hf⟩ := bnd_inv hf
            refine cg_V (q0 := 14) (ci := 0) (As := [.int y1, .int y7, .int y8]) (rest := [.long y5]) X T (kX0_stepOf l D cy ad Xr S y1 y7 y8 v3 h2) (cwV 3 hts gX0_reachOf_X0_stepOf rfl rfl rfl (by decide +kernel) ⟨Nat.le_of_ble_eq_true rfl, Nat.le_of_ble_eq_true rfl⟩) rfl rfl rfl hl.1 rfl (Nat.le_of_ble_eq_true rfl) dX0_reachOf_87 ⟨Nat.zero_le _, Nat.zero_le _⟩ (st2 := [.long v3, .long y5]) (pc2 := 90) rfl rfl (fun H locs T => ?_)
            refine lv_lor hx hb dX0_reachOf_90 ?_
            refine lv_topl (fun v4 e_v4 => ?_)
            replace hf := nm_use hf e_v4
            refine lv_lstore (lv' := [(5, .long v4), (0, .ref (ad 1)), (1, .int y1), (3, .long y3), (7, .int y7), (8, .int y8)]) hx hb dX0_reachOf_91 hl (by decide) rfl (fun ls hl => ?_)
            obtain ⟨v5, e_v5, hf⟩ := nm_inv hf
            refine lv_iinc (v := v5) (lv' := [(8, .int v5), (5, .long v4), (0, .ref (ad 1)), (1, .int y1), (3, .long y3), (7, .int y7)]) hx hb dX0_reachOf_93 hl (k := 5) rfl (by rw [e_v5]; rfl) (by decide) rfl (fun ls hl => ?_)
            refine lv_goto (tgt := 72) hx hb dX0_reachOf_96 (by decide) ?_
            exact ih_72 v4 v5 _ _ _ (hin_72 _ (Option.some.inj hf).symm) T (lv_sub hl [2, 3, 4, 1, 5, 0] rfl)
      refine lv_iload hx hb dX0_reachOf_46 (lv_at hl 4 rfl) ?_
      refine lv_aload_n hx hb dX0_reachOf_48 rfl (lv_at hl 0 rfl) ?_
      refine va_get (D := D) (ci := 0) (v := .int (S.1 0)) (C := RX0) (T := TX0) (N := 13) hx hb hts hin_X0 hown hK.1 T.1 14 rfl rfl 5 (by decide) (hts _ (List.mem_of_getElem? (i := 1) rfl)) (fun _ h9 => h9) rfl dX0_reachOf_49 ?_
      refine lv_icmp_ge (tgt := 105) hx hb dX0_reachOf_52 (by decide) (fun hc => ?_) (fun hc => ?_)
      · replace hf := ifp hc hf
        obtain ⟨r0, hf, hz⟩ := ex_inv hf
        rw [hex_46 r0 hz] at hf
        refine lv_lload hx hb dX0_reachOf_105 (lv_at hl 3 rfl) ?_
        exact rf_l hf X T hr dX0_reachOf_107
      · replace hf := ifn hc hf
        refine lv_lload_n hx hb dX0_reachOf_55 rfl (lv_at hl 2 rfl) ?_
        refine lv_iload hx hb dX0_reachOf_56 (lv_at hl 4 rfl) ?_
        refine lv_lshr hx hb dX0_reachOf_58 rfl ?_
        refine lv_lconst (v := 1) hx hb dX0_reachOf_59 (by decide) ?_
        refine lv_land hx hb dX0_reachOf_60 ?_
        refine lv_lconst (v := 0) hx hb dX0_reachOf_61 (by decide) ?_
        refine W.lcmp hx hb dX0_reachOf_62 ?_
        refine lv_if_ne (tgt := 69) hx hb dX0_reachOf_63 (by decide) (fun hc => ?_) (fun hc => ?_)
        · replace hf := ifn hc hf
          refine lv_iconst (v := 0) hx hb dX0_reachOf_69 (by decide) ?_
          refine lv_istore (lv' := [(8, .int 0), (0, .ref (ad 1)), (1, .int y1), (3, .long y3), (5, .long y5), (7, .int y7)]) hx hb dX0_reachOf_70 hl (by decide) rfl (fun ls hl => ?_)
          exact l_72 y7 FUEL y5 0 _ _ _ hf T (lv_sub hl [1, 2, 3, 4, 5, 0] rfl)
        · replace hf := ifp hc hf
          refine lv_goto (tgt := 99) hx hb dX0_reachOf_66 (by decide) ?_
          exact j_99 y5 y7 _ _ _ hf T (lv_sub hl [0, 1, 2, 3, 4] rfl)
  have l_5 : ∀ (y1 : Int32) (y2 : Int32) (n : Nat) (y3 : Int64) (y5 : Int32) (H : Heap) (locs : List Loc) (ls : Array Slot), loop (fX0_reachOf_b5 S y1 y2) n (y3, y5) = some r → ST D (wC cy ad Xr) A s S H locs → lv_has ls 9 [(0, .ref (ad 1)), (1, .int y1), (2, .int y2), (3, .long y3), (5, .int y5)] → W p l e ({ frames := 3, cells := 0, slots := 0, locals := 74 } : Room) s m [.ref (ad 1), .int x1, .int x2].toArray below meth c H locs 0 0 (MQ below (QG D (wC cy ad Xr) A (some (.long r)) S) [.ref (ad 1), .int x1, .int x2].toArray s 0 0 A) (F0 m 5 ls []) := by
    intro y1 y2 n
    induction n with
    | zero => intro _ _ _ _ _ hf; cases hf
    | succ n ih_5 =>
      intro y3 y5 H locs ls hf T hl
      obtain ⟨z_5, hf, hin_5, hex_5⟩ := loop_inv hf
      unfold fX0_reachOf_b5 at hf
      dsimp only at hf
      refine lv_iload hx hb dX0_reachOf_5 (lv_at hl 4 rfl) ?_
      refine lv_bipush (v := 8) hx hb dX0_reachOf_7 (by decide) ?_
      refine lv_icmp_ge (tgt := 29) hx hb dX0_reachOf_9 (by decide) (fun hc => ?_) (fun hc => ?_)
      · replace hf := ifp hc hf
        obtain ⟨r0, hf, hz⟩ := ex_inv hf
        rw [hex_5 r0 hz] at hf
        refine lv_aload_n hx hb dX0_reachOf_29 rfl (lv_at hl 0 rfl) ?_
        refine lv_iload_n hx hb dX0_reachOf_30 rfl (lv_at hl 1 rfl) ?_
        obtain ⟨v7, h6, hf⟩ := bnd_inv hf
        refine cg_V (q0 := 14) (ci := 0) (As := [.int y1]) (rest := []) X T (kX0_powerOf l D cy ad Xr S y1 v7 h6) (cwV 1 hts gX0_reachOf_X0_powerOf rfl rfl rfl (by decide +kernel) ⟨Nat.le_of_ble_eq_true rfl, Nat.le_of_ble_eq_true rfl⟩) rfl rfl rfl hl.1 rfl (Nat.le_of_ble_eq_true rfl) dX0_reachOf_31 ⟨Nat.zero_le _, Nat.zero_le _⟩ (st2 := [.int v7]) (pc2 := 34) rfl rfl (fun H locs T => ?_)
        refine lv_iconst (v := 1) hx hb dX0_reachOf_34 (by decide) ?_
        refine lv_icmp_eq (tgt := 40) hx hb dX0_reachOf_35 (by decide) (fun hc => ?_) (fun hc => ?_)
        · replace hf := ifp hc hf
          refine lv_lload_n hx hb dX0_reachOf_40 rfl (lv_at hl 3 rfl) ?_
          refine lv_lstore (lv' := [(5, .long y3), (0, .ref (ad 1)), (1, .int y1), (2, .int y2), (3, .long y3)]) hx hb dX0_reachOf_41 hl (by decide) rfl (fun ls hl => ?_)
          refine lv_iconst (v := 0) hx hb dX0_reachOf_43 (by decide) ?_
          refine lv_istore (lv' := [(7, .int 0), (5, .long y3), (0, .ref (ad 1)), (1, .int y1), (2, .int y2), (3, .long y3)]) hx hb dX0_reachOf_44 hl (by decide) rfl (fun ls hl => ?_)
          exact l_46 y1 y3 FUEL y3 0 _ _ _ hf T (lv_sub hl [2, 3, 5, 1, 0] rfl)
        · replace hf := ifn hc hf
          refine lv_lload_n hx hb dX0_reachOf_38 rfl (lv_at hl 3 rfl) ?_
          exact rf_l hf X T hr dX0_reachOf_39
      · replace hf := ifn hc hf
        refine lv_lload_n hx hb dX0_reachOf_12 rfl (lv_at hl 3 rfl) ?_
        refine lv_aload_n hx hb dX0_reachOf_13 rfl (lv_at hl 0 rfl) ?_
        refine lv_iload_n hx hb dX0_reachOf_14 rfl (lv_at hl 1 rfl) ?_
        refine lv_iload_n hx hb dX0_reachOf_15 rfl (lv_at hl 2 rfl) ?_
        refine lv_iload hx hb dX0_reachOf_16 (lv_at hl 4 rfl) ?_
        obtain ⟨v9, h8, hf⟩ := bnd_inv hf
        refine cg_V (q0 := 14) (ci := 0) (As := [.int y1, .int y2, .int y5]) (rest := [.long y3]) X T (kX0_stepOf l D cy ad Xr S y1 y2 y5 v9 h8) (cwV 3 hts gX0_reachOf_X0_stepOf rfl rfl rfl (by decide +kernel) ⟨Nat.le_of_ble_eq_true rfl, Nat.le_of_ble_eq_true rfl⟩) rfl rfl rfl hl.1 rfl (Nat.le_of_ble_eq_true rfl) dX0_reachOf_18 ⟨Nat.zero_le _, Nat.zero_le _⟩ (st2 := [.long v9, .long y3]) (pc2 := 21) rfl rfl (fun H locs T => ?_)
        refine lv_lor hx hb dX0_reachOf_21 ?_
        refine lv_topl (fun v10 e_v10 => ?_)
        replace hf := nm_use hf e_v10
        refine lv_lstore_n (lv' := [(3, .long v10), (0, .ref (ad 1)), (1, .int y1), (2, .int y2), (5, .int y5)]) hx hb dX0_reachOf_22 rfl hl (by decide) rfl (fun ls hl => ?_)
        obtain ⟨v11, e_v11, hf⟩ := nm_inv hf
        refine lv_iinc (v := v11) (lv' := [(5, .int v11), (3, .long v10), (0, .ref (ad 1)), (1, .int y1), (2, .int y2)]) hx hb dX0_reachOf_23 hl (k := 4) rfl (by rw [e_v11]; rfl) (by decide) rfl (fun ls hl => ?_)
        refine lv_goto (tgt := 5) hx hb dX0_reachOf_26 (by decide) ?_
        exact ih_5 v10 v11 _ _ _ (hin_5 _ (Option.some.inj hf).symm) T (lv_sub hl [2, 3, 4, 1, 0] rfl)
  refine lv_lconst (v := 0) hx hb dX0_reachOf_0 (by decide) ?_
  refine lv_lstore_n (lv' := [(3, .long (0 : Int64)), (0, .ref (ad 1)), (1, .int x1), (2, .int x2)]) hx hb dX0_reachOf_1 rfl hl (by decide) rfl (fun ls hl => ?_)
  refine lv_iconst (v := 0) hx hb dX0_reachOf_2 (by decide) ?_
  refine lv_istore (lv' := [(5, .int 0), (3, .long (0 : Int64)), (0, .ref (ad 1)), (1, .int x1), (2, .int x2)]) hx hb dX0_reachOf_3 hl (by decide) rfl (fun ls hl => ?_)
  exact l_5 x1 x2 FUEL (0 : Int64) 0 _ _ _ hf T (lv_sub hl [2, 3, 4, 1, 0] rfl)
