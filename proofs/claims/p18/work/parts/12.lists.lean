noncomputable def fX2_clear (S : SC) (t : Nat) : Option SC :=
  nm (setS S (8 + t) 0 : SC) fun S1 =>
  some S1
set_option maxHeartbeats 4000000 in
set_option maxRecDepth 100000 in
theorem kX2_clear (l : Launch) (D : va_G) (cy : Nat → ClassId) (ad : Nat → Nat) (Xr : va_W) (S : SC) (t : Nat) (r : SC) (hf : fX2_clear S t = some r) (ht_t : t < 4) : CG l D cy (wC cy ad Xr) yX2_clear wsX2_clear ({ frames := 0, cells := 0, slots := 0, locals := 0 } : Room) [.ref (ad (7 + 2 * t))] S none r := by
  refine CG.of (cc := cX2_clear) (maxL := 1) (ret := none) (by decide +kernel) rfl (Nat.le_of_ble_eq_true rfl) ?_
  intro p e s m below meth c A ls X hr T hl
  obtain ⟨hx, hb, hml, hown, hts, hlk, hK, hA, hwA⟩ := id X
  have hl : lv_has ls 1 [(0, .ref (ad (7 + 2 * t)))] := hl
  have hin_X2 : ∀ w ∈ u_ws RX2 TX2 2, w ∈ wsX2_clear := fun w h => (List.mem_cons_of_mem _ (List.mem_append_right _ h))
  unfold fX2_clear at hf
  refine lv_aload_n hx hb dX2_clear_0 rfl (lv_at hl 0 rfl) ?_
  refine lv_iconst (v := 0) hx hb dX2_clear_1 (by decide) ?_
  obtain ⟨S1, e_S1, hf⟩ := nm_inv hf
  refine va_put (D := D) (ci := 2) (v := .int 0) (ty := .int) (C := RX2) (T := TX2) (N := 2) hx hb hts hin_X2 tyX2 tyX2_ok nmX2 hown hK.1 T.1 T.2.1 T.2.2 (pL t) (wC_L cy ad Xr S ht_t) rfl 1 (by decide) (hts _ (List.mem_of_getElem? (i := 1) rfl)) (fun _ h9 => h9) rfl (by decide +kernel) rfl rfl (Nat.le_of_ble_eq_true rfl) dX2_clear_2 (fun H locs hP hD hS => ?_)
  have T : ST D (wC cy ad Xr) A s S1 H locs := ⟨by rw [e_S1, ← wC_L_set cy ad Xr S 0 ht_t]; exact hP, by rw [e_S1, ← wC_L_set cy ad Xr S 0 ht_t]; exact hD, hS⟩
  exact rf_vw hf X T hr dX2_clear_5

noncomputable def fX2_add (S : SC) (t : Nat) (x1 : Int32) : Option SC :=
  if S.1 (8 + t) < 0 then
    some S
  else
    if (338 : Int32) ≤ S.1 (8 + t) then
      some S
    else
      ck (S.1 (8 + t)) 338 <|
      nm (setA S (5 + t) (S.1 (8 + t)) x1 : SC) fun S1 =>
      nm (setS S1 (8 + t) ((S1.1 (8 + t)) + 1) : SC) fun S2 =>
      some S2
set_option maxHeartbeats 4000000 in
set_option maxRecDepth 100000 in
theorem kX2_add (l : Launch) (D : va_G) (cy : Nat → ClassId) (ad : Nat → Nat) (Xr : va_W) (S : SC) (t : Nat) (x1 : Int32) (r : SC) (hf : fX2_add S t x1 = some r) (ht_t : t < 4) : CG l D cy (wC cy ad Xr) yX2_add wsX2_add ({ frames := 0, cells := 0, slots := 0, locals := 0 } : Room) [.ref (ad (7 + 2 * t)), .int x1] S none r := by
  refine CG.of (cc := cX2_add) (maxL := 2) (ret := none) (by decide +kernel) rfl (Nat.le_of_ble_eq_true rfl) ?_
  intro p e s m below meth c A ls X hr T hl
  obtain ⟨hx, hb, hml, hown, hts, hlk, hK, hA, hwA⟩ := id X
  have hl : lv_has ls 2 [(0, .ref (ad (7 + 2 * t))), (1, .int x1)] := hl
  have hin_X2 : ∀ w ∈ u_ws RX2 TX2 2, w ∈ wsX2_add := fun w h => (List.mem_cons_of_mem _ (List.mem_append_right _ h))
  unfold fX2_add at hf
  refine lv_aload_n hx hb dX2_add_0 rfl (lv_at hl 0 rfl) ?_
  refine va_get (D := D) (ci := 2) (v := .int (S.1 (8 + t))) (C := RX2) (T := TX2) (N := 2) hx hb hts hin_X2 hown hK.1 T.1 (pL t) (wC_L cy ad Xr S ht_t) rfl 1 (by decide) (hts _ (List.mem_of_getElem? (i := 1) rfl)) (fun _ h9 => h9) rfl dX2_add_1 ?_
  refine lv_if_lt (tgt := 39) hx hb dX2_add_4 (by decide) (fun hc => ?_) (fun hc => ?_)
  · replace hf := ifp hc hf
    exact rf_vw hf X T hr dX2_add_39
  · replace hf := ifn hc hf
    refine lv_aload_n hx hb dX2_add_7 rfl (lv_at hl 0 rfl) ?_
    refine va_get (D := D) (ci := 2) (v := .int (S.1 (8 + t))) (C := RX2) (T := TX2) (N := 2) hx hb hts hin_X2 hown hK.1 T.1 (pL t) (wC_L cy ad Xr S ht_t) rfl 1 (by decide) (hts _ (List.mem_of_getElem? (i := 1) rfl)) (fun _ h9 => h9) rfl dX2_add_8 ?_
    refine lv_aload_n hx hb dX2_add_11 rfl (lv_at hl 0 rfl) ?_
    refine va_get (D := D) (ci := 2) (v := .ref (ad (8 + 2 * t))) (C := RX2) (T := TX2) (N := 2) hx hb hts hin_X2 hown hK.1 T.1 (pL t) (wC_L cy ad Xr S ht_t) rfl 0 (by decide) (hts _ (List.mem_of_getElem? (i := 2) rfl)) (fun _ h9 => h9) rfl dX2_add_12 ?_
    refine va_alen (v := 338) hx hb hK.1 T.1 (pN t) 0 (wC_N cy ad Xr S ht_t) rfl rfl dX2_add_15 ?_
    refine lv_icmp_ge (tgt := 39) hx hb dX2_add_16 (by decide) (fun hc => ?_) (fun hc => ?_)
    · replace hf := ifp hc hf
      exact rf_vw hf X T hr dX2_add_39
    · replace hf := ifn hc hf
      refine lv_aload_n hx hb dX2_add_19 rfl (lv_at hl 0 rfl) ?_
      refine va_get (D := D) (ci := 2) (v := .ref (ad (8 + 2 * t))) (C := RX2) (T := TX2) (N := 2) hx hb hts hin_X2 hown hK.1 T.1 (pL t) (wC_L cy ad Xr S ht_t) rfl 0 (by decide) (hts _ (List.mem_of_getElem? (i := 2) rfl)) (fun _ h9 => h9) rfl dX2_add_20 ?_
      refine lv_aload_n hx hb dX2_add_23 rfl (lv_at hl 0 rfl) ?_
      refine va_get (D := D) (ci := 2) (v := .int (S.1 (8 + t))) (C := RX2) (T := TX2) (N := 2) hx hb hts hin_X2 hown hK.1 T.1 (pL t) (wC_L cy ad Xr S ht_t) rfl 1 (by decide) (hts _ (List.mem_of_getElem? (i := 1) rfl)) (fun _ h9 => h9) rfl dX2_add_24 ?_
      refine lv_iload_n hx hb dX2_add_27 rfl (lv_at hl 1 rfl) ?_
      obtain ⟨hin, hf⟩ := ck_inv hf
      obtain ⟨S1, e_S1, hf⟩ := nm_inv hf
      refine va_iast hx hb hK.1 T.1 T.2.1 T.2.2 (pN t) 0 (wC_N cy ad Xr S ht_t) rfl hin dX2_add_28 (fun H locs hP hD hS => ?_)
      have T : ST D (wC cy ad Xr) A s S1 H locs := ⟨by rw [e_S1, ← wC_N_set cy ad Xr S (S.1 (8 + t)) x1 ht_t]; exact hP, by rw [e_S1, ← wC_N_set cy ad Xr S (S.1 (8 + t)) x1 ht_t]; exact hD, hS⟩
      refine lv_aload_n hx hb dX2_add_29 rfl (lv_at hl 0 rfl) ?_
      refine lv_dup hx hb dX2_add_30 rfl ?_
      refine va_get (D := D) (ci := 2) (v := .int (S1.1 (8 + t))) (C := RX2) (T := TX2) (N := 2) hx hb hts hin_X2 hown hK.1 T.1 (pL t) (wC_L cy ad Xr S1 ht_t) rfl 1 (by decide) (hts _ (List.mem_of_getElem? (i := 1) rfl)) (fun _ h9 => h9) rfl dX2_add_31 ?_
      refine lv_iconst (v := 1) hx hb dX2_add_34 (by decide) ?_
      refine lv_iadd hx hb dX2_add_35 ?_
      obtain ⟨S2, e_S2, hf⟩ := nm_inv hf
      refine va_put (D := D) (ci := 2) (v := .int ((S1.1 (8 + t)) + 1)) (ty := .int) (C := RX2) (T := TX2) (N := 2) hx hb hts hin_X2 tyX2 tyX2_ok nmX2 hown hK.1 T.1 T.2.1 T.2.2 (pL t) (wC_L cy ad Xr S1 ht_t) rfl 1 (by decide) (hts _ (List.mem_of_getElem? (i := 1) rfl)) (fun _ h9 => h9) rfl (by decide +kernel) rfl rfl (Nat.le_of_ble_eq_true rfl) dX2_add_36 (fun H locs hP hD hS => ?_)
      have T : ST D (wC cy ad Xr) A s S2 H locs := ⟨by rw [e_S2, ← wC_L_set cy ad Xr S1 ((S1.1 (8 + t)) + 1) ht_t]; exact hP, by rw [e_S2, ← wC_L_set cy ad Xr S1 ((S1.1 (8 + t)) + 1) ht_t]; exact hD, hS⟩
      exact rf_vw hf X T hr dX2_add_39

noncomputable def fX2_at (S : SC) (t : Nat) (x1 : Int32) : Option Int32 :=
  if x1 < 0 then
    some (-1)
  else
    if (338 : Int32) ≤ x1 then
      some (-1)
    else
      ck x1 338 <|
      some (S.2 (5 + t) x1.toNatClampNeg)
set_option maxHeartbeats 4000000 in
set_option maxRecDepth 100000 in
theorem kX2_at (l : Launch) (D : va_G) (cy : Nat → ClassId) (ad : Nat → Nat) (Xr : va_W) (S : SC) (t : Nat) (x1 : Int32) (r : Int32) (hf : fX2_at S t x1 = some r) (ht_t : t < 4) : CG l D cy (wC cy ad Xr) yX2_at wsX2_at ({ frames := 0, cells := 0, slots := 0, locals := 0 } : Room) [.ref (ad (7 + 2 * t)), .int x1] S (some (.int r)) S := by
  refine CG.of (cc := cX2_at) (maxL := 2) (ret := (some .int)) (by decide +kernel) rfl (Nat.le_of_ble_eq_true rfl) ?_
  intro p e s m below meth c A ls X hr T hl
  obtain ⟨hx, hb, hml, hown, hts, hlk, hK, hA, hwA⟩ := id X
  have hl : lv_has ls 2 [(0, .ref (ad (7 + 2 * t))), (1, .int x1)] := hl
  have hin_X2 : ∀ w ∈ u_ws RX2 TX2 2, w ∈ wsX2_at := fun w h => (List.mem_cons_of_mem _ (List.mem_append_right _ h))
  unfold fX2_at at hf
  refine lv_iload_n hx hb dX2_at_0 rfl (lv_at hl 1 rfl) ?_
  refine lv_if_lt (tgt := 22) hx hb dX2_at_1 (by decide) (fun hc => ?_) (fun hc => ?_)
  · replace hf := ifp hc hf
    refine lv_iconst (v := (-1)) hx hb dX2_at_22 (by decide) ?_
    exact rf_i hf X T hr dX2_at_23
  · replace hf := ifn hc hf
    refine lv_iload_n hx hb dX2_at_4 rfl (lv_at hl 1 rfl) ?_
    refine lv_aload_n hx hb dX2_at_5 rfl (lv_at hl 0 rfl) ?_
    refine va_get (D := D) (ci := 2) (v := .ref (ad (8 + 2 * t))) (C := RX2) (T := TX2) (N := 2) hx hb hts hin_X2 hown hK.1 T.1 (pL t) (wC_L cy ad Xr S ht_t) rfl 0 (by decide) (hts _ (List.mem_of_getElem? (i := 1) rfl)) (fun _ h9 => h9) rfl dX2_at_6 ?_
    refine va_alen (v := 338) hx hb hK.1 T.1 (pN t) 0 (wC_N cy ad Xr S ht_t) rfl rfl dX2_at_9 ?_
    refine lv_icmp_ge (tgt := 22) hx hb dX2_at_10 (by decide) (fun hc => ?_) (fun hc => ?_)
    · replace hf := ifp hc hf
      refine lv_iconst (v := (-1)) hx hb dX2_at_22 (by decide) ?_
      exact rf_i hf X T hr dX2_at_23
    · replace hf := ifn hc hf
      refine lv_aload_n hx hb dX2_at_13 rfl (lv_at hl 0 rfl) ?_
      refine va_get (D := D) (ci := 2) (v := .ref (ad (8 + 2 * t))) (C := RX2) (T := TX2) (N := 2) hx hb hts hin_X2 hown hK.1 T.1 (pL t) (wC_L cy ad Xr S ht_t) rfl 0 (by decide) (hts _ (List.mem_of_getElem? (i := 1) rfl)) (fun _ h9 => h9) rfl dX2_at_14 ?_
      refine lv_iload_n hx hb dX2_at_17 rfl (lv_at hl 1 rfl) ?_
      obtain ⟨hin, hf⟩ := ck_inv hf
      refine va_iald hx hb hK.1 T.1 (pN t) 0 (wC_N cy ad Xr S ht_t) rfl hin dX2_at_18 ?_
      refine lv_goto (tgt := 23) hx hb dX2_at_19 (by decide) ?_
      exact rf_i hf X T hr dX2_at_23

noncomputable def fX2_holds_b2 (S : SC) (y0 : Nat) (y1 : Int32) : Int32 → Option (Int32 ⊕ Int32) :=
  fun y2 =>
    if S.1 (8 + y0) ≤ y2 then
      ex <|
      some 0
    else
      bnd (fX2_at S y0 y2) fun v2 =>
      if v2 = y1 then
        ex <|
        some 1
      else
        nm (y2 + 1 : Int32) fun v3 =>
        some (.inl v3)
noncomputable def fX2_holds (S : SC) (t : Nat) (x1 : Int32) : Option Int32 :=
  loop (fX2_holds_b2 S t x1) FUEL 0
set_option maxHeartbeats 4000000 in
set_option maxRecDepth 100000 in
theorem kX2_holds (l : Launch) (D : va_G) (cy : Nat → ClassId) (ad : Nat → Nat) (Xr : va_W) (S : SC) (t : Nat) (x1 : Int32) (r : Int32) (hf : fX2_holds S t x1 = some r) (ht_t : t < 4) : CG l D cy (wC cy ad Xr) yX2_holds wsX2_holds ({ frames := 1, cells := 0, slots := 0, locals := 21 } : Room) [.ref (ad (7 + 2 * t)), .int x1] S (some (.int r)) S := by
  refine CG.of (cc := cX2_holds) (maxL := 3) (ret := (some .boolean)) (by decide +kernel) rfl (Nat.le_of_ble_eq_true rfl) ?_
  intro p e s m below meth c A ls X hr T hl
  obtain ⟨hx, hb, hml, hown, hts, hlk, hK, hA, hwA⟩ := id X
  have hl : lv_has ls 3 [(0, .ref (ad (7 + 2 * t))), (1, .int x1)] := hl
  have hin_X2 : ∀ w ∈ u_ws RX2 TX2 2, w ∈ wsX2_holds := fun w h => (List.mem_cons_of_mem _ (List.mem_append_right _ h))
  unfold fX2_holds at hf
  have l_2 : ∀ (y0 : Nat) (y1 : Int32) (n : Nat) (y2 : Int32) (H : Heap) (locs : List Loc) (ls : Array Slot), loop (fX2_holds_b2 S y0 y1) n y2 = some r → ST D (wC cy ad Xr) A s S H locs → lv_has ls 3 [(0, .ref (ad (7 + 2 * y0))), (1, .int y1), (2, .int y2)] → y0 < 4 → W p l e ({ frames := 1, cells := 0, slots := 0, locals := 21 } : Room) s m [.ref (ad (7 + 2 * t)), .int x1].toArray below meth c H locs 0 0 (MQ below (QG D (wC cy ad Xr) A (some (.int r)) S) [.ref (ad (7 + 2 * t)), .int x1].toArray s 0 0 A) (F0 m 2 ls []) := by
    intro y0 y1 n
    induction n with
    | zero => intro _ _ _ _ hf; cases hf
    | succ n ih_2 =>
      intro y2 H locs ls hf T hl ht_y0
      obtain ⟨z_2, hf, hin_2, hex_2⟩ := loop_inv hf
      unfold fX2_holds_b2 at hf
      refine lv_iload_n hx hb dX2_holds_2 rfl (lv_at hl 2 rfl) ?_
      refine lv_aload_n hx hb dX2_holds_3 rfl (lv_at hl 0 rfl) ?_
      refine va_get (D := D) (ci := 2) (v := .int (S.1 (8 + y0))) (C := RX2) (T := TX2) (N := 2) hx hb hts hin_X2 hown hK.1 T.1 (pL y0) (wC_L cy ad Xr S ht_y0) rfl 1 (by decide) (hts _ (List.mem_of_getElem? (i := 1) rfl)) (fun _ h9 => h9) rfl dX2_holds_4 ?_
      refine lv_icmp_ge (tgt := 27) hx hb dX2_holds_7 (by decide) (fun hc => ?_) (fun hc => ?_)
      · replace hf := ifp hc hf
        obtain ⟨r0, hf, hz⟩ := ex_inv hf
        rw [hex_2 r0 hz] at hf
        refine lv_iconst (v := 0) hx hb dX2_holds_27 (by decide) ?_
        exact rf_z hf X T hr (Or.inl rfl) dX2_holds_28
      · replace hf := ifn hc hf
        refine lv_aload_n hx hb dX2_holds_10 rfl (lv_at hl 0 rfl) ?_
        refine lv_iload_n hx hb dX2_holds_11 rfl (lv_at hl 2 rfl) ?_
        obtain ⟨v2, h1, hf⟩ := bnd_inv hf
        refine cg_V (q0 := (pL y0)) (ci := 2) (As := [.int y2]) (rest := []) X T (kX2_at l D cy ad Xr S y0 y2 v2 h1 ht_y0) (cwV 1 hts gX2_holds_X2_at rfl rfl rfl (by decide +kernel) ⟨Nat.le_of_ble_eq_true rfl, Nat.le_of_ble_eq_true rfl⟩) (wC_L cy ad Xr S ht_y0) rfl rfl hl.1 rfl (Nat.le_of_ble_eq_true rfl) dX2_holds_12 ⟨Nat.zero_le _, Nat.zero_le _⟩ (st2 := [.int v2]) (pc2 := 15) rfl rfl (fun H locs T => ?_)
        refine lv_iload_n hx hb dX2_holds_15 rfl (lv_at hl 1 rfl) ?_
        refine lv_icmp_ne (tgt := 21) hx hb dX2_holds_16 (by decide) (fun hc => ?_) (fun hc => ?_)
        · replace hf := ifn hc hf
          obtain ⟨v3, e_v3, hf⟩ := nm_inv hf
          refine lv_iinc (v := v3) (lv' := [(2, .int v3), (0, .ref (ad (7 + 2 * y0))), (1, .int y1)]) hx hb dX2_holds_21 hl (k := 2) rfl (by rw [e_v3]; rfl) (by decide) rfl (fun ls hl => ?_)
          refine lv_goto (tgt := 2) hx hb dX2_holds_24 (by decide) ?_
          exact ih_2 v3 _ _ _ (hin_2 _ (Option.some.inj hf).symm) T (lv_sub hl [1, 2, 0] rfl) ht_y0
        · replace hf := ifp hc hf
          obtain ⟨r0, hf, hz⟩ := ex_inv hf
          rw [hex_2 r0 hz] at hf
          refine lv_iconst (v := 1) hx hb dX2_holds_19 (by decide) ?_
          exact rf_z hf X T hr (Or.inr rfl) dX2_holds_20
  refine lv_iconst (v := 0) hx hb dX2_holds_0 (by decide) ?_
  refine lv_istore_n (lv' := [(2, .int 0), (0, .ref (ad (7 + 2 * t))), (1, .int x1)]) hx hb dX2_holds_1 rfl hl (by decide) rfl (fun ls hl => ?_)
  exact l_2 t x1 FUEL 0 _ _ _ hf T (lv_sub hl [1, 2, 0] rfl) ht_t
