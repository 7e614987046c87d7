noncomputable def fX4_thrown (S : SC) : Option Int32 :=
  some (S.1 0)
set_option maxHeartbeats 4000000 in
set_option maxRecDepth 100000 in
theorem kX4_thrown (l : Launch) (D : va_G) (cy : Nat → ClassId) (ad : Nat → Nat) (Xr : va_W) (S : SC) (r : Int32) (hf : fX4_thrown S = some r) : CG l D cy (wM cy ad Xr) yX4_thrown wsX4_thrown ({ frames := 0, cells := 0, slots := 0, locals := 0 } : Room) [.ref (ad 0)] S (some (.int r)) S := by
  refine CG.of (cc := cX4_thrown) (maxL := 1) (ret := (some .int)) (by decide +kernel) rfl (Nat.le_of_ble_eq_true rfl) ?_
  intro p e s m below meth c A ls X hr T hl
  obtain ⟨hx, hb, hml, hown, hts, hlk, hK, hA, hwA⟩ := id X
  have hl : lv_has ls 1 [(0, .ref (ad 0))] := hl
  have hin_X4 : ∀ w ∈ u_ws RX4 TX4 16, w ∈ wsX4_thrown := fun w h => (List.mem_cons_of_mem _ (List.mem_append_right _ h))
  unfold fX4_thrown at hf
  refine lv_aload_n hx hb dX4_thrown_0 rfl (lv_at hl 0 rfl) ?_
  refine va_get (D := D) (ci := 4) (v := .int (S.1 0)) (C := RX4) (T := TX4) (N := 16) hx hb hts hin_X4 hown hK.1 T.1 8 rfl rfl 0 (by decide) (hts _ (List.mem_of_getElem? (i := 1) rfl)) (fun _ h9 => h9) rfl dX4_thrown_1 ?_
  exact rf_i hf X T hr dX4_thrown_4

noncomputable def fX4_goesWell (S : SC) (x1 : Int32) : Option (Int32 × SC) :=
  nm (setS S 0 x1 : SC) fun S1 =>
  if x1 = 0 then
    some (1, S1)
  else
    some (0, S1)
set_option maxHeartbeats 4000000 in
set_option maxRecDepth 100000 in
theorem kX4_goesWell (l : Launch) (D : va_G) (cy : Nat → ClassId) (ad : Nat → Nat) (Xr : va_W) (S : SC) (x1 : Int32) (r : (Int32 × SC)) (hf : fX4_goesWell S x1 = some r) : CG l D cy (wM cy ad Xr) yX4_goesWell wsX4_goesWell ({ frames := 0, cells := 0, slots := 0, locals := 0 } : Room) [.ref (ad 0), .int x1] S (some (.int r.1)) r.2 := by
  refine CG.of (cc := cX4_goesWell) (maxL := 2) (ret := (some .boolean)) (by decide +kernel) rfl (Nat.le_of_ble_eq_true rfl) ?_
  intro p e s m below meth c A ls X hr T hl
  obtain ⟨hx, hb, hml, hown, hts, hlk, hK, hA, hwA⟩ := id X
  have hl : lv_has ls 2 [(0, .ref (ad 0)), (1, .int x1)] := hl
  have hin_X4 : ∀ w ∈ u_ws RX4 TX4 16, w ∈ wsX4_goesWell := fun w h => (List.mem_cons_of_mem _ (List.mem_append_right _ h))
  unfold fX4_goesWell at hf
  refine lv_aload_n hx hb dX4_goesWell_0 rfl (lv_at hl 0 rfl) ?_
  refine lv_iload_n hx hb dX4_goesWell_1 rfl (lv_at hl 1 rfl) ?_
  obtain ⟨S1, e_S1, hf⟩ := nm_inv hf
  refine va_put (D := D) (ci := 4) (v := .int x1) (ty := .int) (C := RX4) (T := TX4) (N := 16) hx hb hts hin_X4 tyX4 tyX4_ok nmX4 hown hK.1 T.1 T.2.1 T.2.2 8 rfl rfl 0 (by decide) (hts _ (List.mem_of_getElem? (i := 1) rfl)) (fun _ h9 => h9) rfl (by decide +kernel) rfl rfl (Nat.le_of_ble_eq_true rfl) dX4_goesWell_2 (fun H locs hP hD hS => ?_)
  have T : ST D (wM cy ad Xr) A s S1 H locs := ⟨by rw [e_S1]; exact hP, by rw [e_S1]; exact hD, hS⟩
  refine lv_iload_n hx hb dX4_goesWell_5 rfl (lv_at hl 1 rfl) ?_
  refine lv_if_ne (tgt := 13) hx hb dX4_goesWell_6 (by decide) (fun hc => ?_) (fun hc => ?_)
  · replace hf := ifn hc hf
    refine lv_iconst (v := 0) hx hb dX4_goesWell_13 (by decide) ?_
    exact rf_zw hf X T hr (Or.inl rfl) dX4_goesWell_14
  · replace hf := ifp hc hf
    refine lv_iconst (v := 1) hx hb dX4_goesWell_9 (by decide) ?_
    refine lv_goto (tgt := 14) hx hb dX4_goesWell_10 (by decide) ?_
    exact rf_zw hf X T hr (Or.inr rfl) dX4_goesWell_14

noncomputable def fX4_in (S : SC) (x0 : Int32) (x1 : Int32) (x2 : Int32) : Option Int32 :=
  if x0 < x1 then
    some 0
  else
    if x2 < x0 then
      some 0
    else
      some 1
set_option maxHeartbeats 4000000 in
set_option maxRecDepth 100000 in
theorem kX4_in (l : Launch) (D : va_G) (cy : Nat → ClassId) (ad : Nat → Nat) (Xr : va_W) (S : SC) (x0 : Int32) (x1 : Int32) (x2 : Int32) (r : Int32) (hf : fX4_in S x0 x1 x2 = some r) : CG l D cy (wM cy ad Xr) yX4_in wsX4_in ({ frames := 0, cells := 0, slots := 0, locals := 0 } : Room) [.int x0, .int x1, .int x2] S (some (.int r)) S := by
  refine CG.of (cc := cX4_in) (maxL := 3) (ret := (some .boolean)) (by decide +kernel) rfl (Nat.le_of_ble_eq_true rfl) ?_
  intro p e s m below meth c A ls X hr T hl
  obtain ⟨hx, hb, hml, hown, hts, hlk, hK, hA, hwA⟩ := id X
  have hl : lv_has ls 3 [(0, .int x0), (1, .int x1), (2, .int x2)] := hl
  unfold fX4_in at hf
  refine lv_iload_n hx hb dX4_in_0 rfl (lv_at hl 0 rfl) ?_
  refine lv_iload_n hx hb dX4_in_1 rfl (lv_at hl 1 rfl) ?_
  refine lv_icmp_lt (tgt := 14) hx hb dX4_in_2 (by decide) (fun hc => ?_) (fun hc => ?_)
  · replace hf := ifp hc hf
    refine lv_iconst (v := 0) hx hb dX4_in_14 (by decide) ?_
    exact rf_z hf X T hr (Or.inl rfl) dX4_in_15
  · replace hf := ifn hc hf
    refine lv_iload_n hx hb dX4_in_5 rfl (lv_at hl 0 rfl) ?_
    refine lv_iload_n hx hb dX4_in_6 rfl (lv_at hl 2 rfl) ?_
    refine lv_icmp_gt (tgt := 14) hx hb dX4_in_7 (by decide) (fun hc => ?_) (fun hc => ?_)
    · replace hf := ifp hc hf
      refine lv_iconst (v := 0) hx hb dX4_in_14 (by decide) ?_
      exact rf_z hf X T hr (Or.inl rfl) dX4_in_15
    · replace hf := ifn hc hf
      refine lv_iconst (v := 1) hx hb dX4_in_10 (by decide) ?_
      refine lv_goto (tgt := 15) hx hb dX4_in_11 (by decide) ?_
      exact rf_z hf X T hr (Or.inr rfl) dX4_in_15

noncomputable def fX4_cells (S : SC) : Option Int32 :=
  some ((S.1 1) * (S.1 2))
set_option maxHeartbeats 4000000 in
set_option maxRecDepth 100000 in
theorem kX4_cells (l : Launch) (D : va_G) (cy : Nat → ClassId) (ad : Nat → Nat) (Xr : va_W) (S : SC) (r : Int32) (hf : fX4_cells S = some r) : CG l D cy (wM cy ad Xr) yX4_cells wsX4_cells ({ frames := 0, cells := 0, slots := 0, locals := 0 } : Room) [.ref (ad 0)] S (some (.int r)) S := by
  refine CG.of (cc := cX4_cells) (maxL := 1) (ret := (some .int)) (by decide +kernel) rfl (Nat.le_of_ble_eq_true rfl) ?_
  intro p e s m below meth c A ls X hr T hl
  obtain ⟨hx, hb, hml, hown, hts, hlk, hK, hA, hwA⟩ := id X
  have hl : lv_has ls 1 [(0, .ref (ad 0))] := hl
  have hin_X4 : ∀ w ∈ u_ws RX4 TX4 16, w ∈ wsX4_cells := fun w h => (List.mem_cons_of_mem _ (List.mem_append_right _ h))
  unfold fX4_cells at hf
  refine lv_aload_n hx hb dX4_cells_0 rfl (lv_at hl 0 rfl) ?_
  refine va_get (D := D) (ci := 4) (v := .int (S.1 1)) (C := RX4) (T := TX4) (N := 16) hx hb hts hin_X4 hown hK.1 T.1 8 rfl rfl 1 (by decide) (hts _ (List.mem_of_getElem? (i := 1) rfl)) (fun _ h9 => h9) rfl dX4_cells_1 ?_
  refine lv_aload_n hx hb dX4_cells_4 rfl (lv_at hl 0 rfl) ?_
  refine va_get (D := D) (ci := 4) (v := .int (S.1 2)) (C := RX4) (T := TX4) (N := 16) hx hb hts hin_X4 hown hK.1 T.1 8 rfl rfl 2 (by decide) (hts _ (List.mem_of_getElem? (i := 2) rfl)) (fun _ h9 => h9) rfl dX4_cells_5 ?_
  refine lv_imul hx hb dX4_cells_8 ?_
  exact rf_i hf X T hr dX4_cells_9

noncomputable def fX4_isCell (S : SC) (x1 : Int32) : Option Int32 :=
  bnd (fX4_cells S) fun v2 =>
  bnd (fX4_in S x1 0 (v2 - 1)) fun v4 =>
  cp (v4 = 0 ∨ v4 = 1) <|
  some v4
set_option maxHeartbeats 4000000 in
set_option maxRecDepth 100000 in
theorem kX4_isCell (l : Launch) (D : va_G) (cy : Nat → ClassId) (ad : Nat → Nat) (Xr : va_W) (S : SC) (x1 : Int32) (r : Int32) (hf : fX4_isCell S x1 = some r) : CG l D cy (wM cy ad Xr) yX4_isCell wsX4_isCell ({ frames := 1, cells := 0, slots := 0, locals := 22 } : Room) [.ref (ad 0), .int x1] S (some (.int r)) S := by
  refine CG.of (cc := cX4_isCell) (maxL := 2) (ret := (some .boolean)) (by decide +kernel) rfl (Nat.le_of_ble_eq_true rfl) ?_
  intro p e s m below meth c A ls X hr T hl
  obtain ⟨hx, hb, hml, hown, hts, hlk, hK, hA, hwA⟩ := id X
  have hl : lv_has ls 2 [(0, .ref (ad 0)), (1, .int x1)] := hl
  unfold fX4_isCell at hf
  refine lv_iload_n hx hb dX4_isCell_0 rfl (lv_at hl 1 rfl) ?_
  refine lv_iconst (v := 0) hx hb dX4_isCell_1 (by decide) ?_
  refine lv_aload_n hx hb dX4_isCell_2 rfl (lv_at hl 0 rfl) ?_
  obtain ⟨v2, h1, hf⟩ := bnd_inv hf
  refine cg_V (q0 := 8) (ci := 4) (As := []) (rest := [.int 0, .int x1]) X T (kX4_cells l D cy ad Xr S v2 h1) (cwV 0 hts gX4_isCell_X4_cells rfl rfl rfl (by decide +kernel) ⟨Nat.le_of_ble_eq_true rfl, Nat.le_of_ble_eq_true rfl⟩) rfl rfl rfl hl.1 rfl (Nat.le_of_ble_eq_true rfl) dX4_isCell_3 ⟨Nat.zero_le _, Nat.zero_le _⟩ (st2 := [.int v2, .int 0, .int x1]) (pc2 := 6) rfl rfl (fun H locs T => ?_)
  refine lv_iconst (v := 1) hx hb dX4_isCell_6 (by decide) ?_
  refine lv_isub hx hb dX4_isCell_7 ?_
  obtain ⟨v4, h3, hf⟩ := bnd_inv hf
  refine cg_S (As := [.int x1, .int 0, .int (v2 - 1)]) (rest := []) X T (kX4_in l D cy ad Xr S x1 0 (v2 - 1) v4 h3) (va_cwS 3 hts gX4_isCell_X4_in rfl rfl rfl (by decide +kernel) ⟨Nat.le_of_ble_eq_true rfl, Nat.le_of_ble_eq_true rfl⟩) rfl hl.1 rfl (Nat.le_of_ble_eq_true rfl) dX4_isCell_8 ⟨Nat.zero_le _, Nat.zero_le _⟩ (st2 := [.int v4]) (pc2 := 11) rfl rfl (fun H locs T => ?_)
  obtain ⟨hz1, hf⟩ := cp_inv hf
  exact rf_z hf X T hr hz1 dX4_isCell_11

noncomputable def fX4_isPlaced (S : SC) : Option Int32 :=
  if S.1 4 = (2 : Int32) * (S.1 3) then
    some 1
  else
    some 0
set_option maxHeartbeats 4000000 in
set_option maxRecDepth 100000 in
theorem kX4_isPlaced (l : Launch) (D : va_G) (cy : Nat → ClassId) (ad : Nat → Nat) (Xr : va_W) (S : SC) (r : Int32) (hf : fX4_isPlaced S = some r) : CG l D cy (wM cy ad Xr) yX4_isPlaced wsX4_isPlaced ({ frames := 0, cells := 0, slots := 0, locals := 0 } : Room) [.ref (ad 0)] S (some (.int r)) S := by
  refine CG.of (cc := cX4_isPlaced) (maxL := 1) (ret := (some .boolean)) (by decide +kernel) rfl (Nat.le_of_ble_eq_true rfl) ?_
  intro p e s m below meth c A ls X hr T hl
  obtain ⟨hx, hb, hml, hown, hts, hlk, hK, hA, hwA⟩ := id X
  have hl : lv_has ls 1 [(0, .ref (ad 0))] := hl
  have hin_X4 : ∀ w ∈ u_ws RX4 TX4 16, w ∈ wsX4_isPlaced := fun w h => (List.mem_cons_of_mem _ (List.mem_append_right _ h))
  unfold fX4_isPlaced at hf
  refine lv_aload_n hx hb dX4_isPlaced_0 rfl (lv_at hl 0 rfl) ?_
  refine va_get (D := D) (ci := 4) (v := .int (S.1 4)) (C := RX4) (T := TX4) (N := 16) hx hb hts hin_X4 hown hK.1 T.1 8 rfl rfl 9 (by decide) (hts _ (List.mem_of_getElem? (i := 1) rfl)) (fun _ h9 => h9) rfl dX4_isPlaced_1 ?_
  refine lv_iconst (v := 2) hx hb dX4_isPlaced_4 (by decide) ?_
  refine lv_aload_n hx hb dX4_isPlaced_5 rfl (lv_at hl 0 rfl) ?_
  refine va_get (D := D) (ci := 4) (v := .int (S.1 3)) (C := RX4) (T := TX4) (N := 16) hx hb hts hin_X4 hown hK.1 T.1 8 rfl rfl 3 (by decide) (hts _ (List.mem_of_getElem? (i := 2) rfl)) (fun _ h9 => h9) rfl dX4_isPlaced_6 ?_
  refine lv_imul hx hb dX4_isPlaced_9 ?_
  refine lv_icmp_ne (tgt := 17) hx hb dX4_isPlaced_10 (by decide) (fun hc => ?_) (fun hc => ?_)
  · replace hf := ifn hc hf
    refine lv_iconst (v := 0) hx hb dX4_isPlaced_17 (by decide) ?_
    exact rf_z hf X T hr (Or.inl rfl) dX4_isPlaced_18
  · replace hf := ifp hc hf
    refine lv_iconst (v := 1) hx hb dX4_isPlaced_13 (by decide) ?_
    refine lv_goto (tgt := 18) hx hb dX4_isPlaced_14 (by decide) ?_
    exact rf_z hf X T hr (Or.inr rfl) dX4_isPlaced_18

noncomputable def fX4_lay_b23 : (Int32 × SC) → Option ((Int32 × SC) ⊕ SC) :=
  fun st => match st with
    | (y1, S_23) =>
      if (4 : Int32) ≤ y1 then
        ex <|
        ck 0 5 <|
        nm (setA S_23 3 0 0 : SC) fun S1 =>
        ck 0 5 <|
        nm (setA S1 4 0 (vp_nar .boolean 0) : SC) fun S2 =>
        nm (setS S2 4 0 : SC) fun S3 =>
        nm (setS S3 5 (-1) : SC) fun S4 =>
        nm (setS S4 6 0 : SC) fun S5 =>
        some S5
      else
        ck y1 20 <|
        nm (setA S_23 2 y1 (-1) : SC) fun S6 =>
        nm (y1 + 1 : Int32) fun v7 =>
        some (.inl (v7, S6))
noncomputable def fX4_lay_b2 : (Int32 × SC) → Option ((Int32 × SC) ⊕ SC) :=
  fun st => match st with
    | (y1, S_2) =>
      if (25 : Int32) ≤ y1 then
        ex <|
        loop (fX4_lay_b23) FUEL (0, S_2)
      else
        ck y1 125 <|
        nm (setA S_2 1 y1 0 : SC) fun S8 =>
        nm (y1 + 1 : Int32) fun v9 =>
        some (.inl (v9, S8))
noncomputable def fX4_lay (S : SC) : Option SC :=
  loop (fX4_lay_b2) FUEL (0, S)
set_option maxHeartbeats 4000000 in
set_option maxRecDepth 100000 in
theorem kX4_lay (l : Launch) (D : va_G) (cy : Nat → ClassId) (ad : Nat → Nat) (Xr : va_W) (S : SC) (r : SC) (hf : fX4_lay S = some r) : CG l D cy (wM cy ad Xr) yX4_lay wsX4_lay ({ frames := 0, cells := 0, slots := 0, locals := 0 } : Room) [.ref (ad 0)] S none r := by
  refine CG.of (cc := cX4_lay) (maxL := 2) (ret := none) (by decide +kernel) rfl (Nat.le_of_ble_eq_true rfl) ?_
  intro p e s m below meth c A ls X hr T hl
  obtain ⟨hx, hb, hml, hown, hts, hlk, hK, hA, hwA⟩ := id X
  have hl : lv_has ls 2 [(0, .ref (ad 0))] := hl
  have hin_X4 : ∀ w ∈ u_ws RX4 TX4 16, w ∈ wsX4_lay := fun w h => (List.mem_cons_of_mem _ (List.mem_append_right _ h))
  unfold fX4_lay at hf
  have l_23 : ∀ (n : Nat) (y1 : Int32) (S_23 : SC) (H : Heap) (locs : List Loc) (ls : Array Slot), loop (fX4_lay_b23) n (y1, S_23) = some r → ST D (wM cy ad Xr) A s S_23 H locs → lv_has ls 2 [(0, .ref (ad 0)), (1, .int y1)] → W p l e ({ frames := 0, cells := 0, slots := 0, locals := 0 } : Room) s m [.ref (ad 0)].toArray below meth c H locs 0 0 (MQ below (QG D (wM cy ad Xr) A none r) [.ref (ad 0)].toArray s 0 0 A) (F0 m 23 ls []) := by
    intro n
    induction n with
    | zero => intro _ _ _ _ _ hf; cases hf
    | succ n ih_23 =>
      intro y1 S_23 H locs ls hf T hl
      obtain ⟨z_23, hf, hin_23, hex_23⟩ := loop_inv hf
      unfold fX4_lay_b23 at hf
      dsimp only at hf
      refine lv_iload_n hx hb dX4_lay_23 rfl (lv_at hl 1 rfl) ?_
      refine lv_iconst (v := 4) hx hb dX4_lay_24 (by decide) ?_
      refine lv_icmp_ge (tgt := 41) hx hb dX4_lay_25 (by decide) (fun hc => ?_) (fun hc => ?_)
      · replace hf := ifp hc hf
        obtain ⟨r0, hf, hz⟩ := ex_inv hf
        rw [hex_23 r0 hz] at hf
        refine lv_aload_n hx hb dX4_lay_41 rfl (lv_at hl 0 rfl) ?_
        refine va_get (D := D) (ci := 4) (v := .ref (ad 4)) (C := RX4) (T := TX4) (N := 16) hx hb hts hin_X4 hown hK.1 T.1 8 rfl rfl 7 (by decide) (hts _ (List.mem_of_getElem? (i := 3) rfl)) (fun _ h9 => h9) rfl dX4_lay_42 ?_
        refine lv_iconst (v := 0) hx hb dX4_lay_45 (by decide) ?_
        refine lv_iconst (v := 0) hx hb dX4_lay_46 (by decide) ?_
        obtain ⟨hin, hf⟩ := ck_inv hf
        obtain ⟨S1, e_S1, hf⟩ := nm_inv hf
        refine va_iast hx hb hK.1 T.1 T.2.1 T.2.2 4 0 rfl rfl hin dX4_lay_47 (fun H locs hP hD hS => ?_)
        have T : ST D (wM cy ad Xr) A s S1 H locs := ⟨by rw [e_S1]; exact hP, by rw [e_S1]; exact hD, hS⟩
        refine lv_aload_n hx hb dX4_lay_48 rfl (lv_at hl 0 rfl) ?_
        refine va_get (D := D) (ci := 4) (v := .ref (ad 5)) (C := RX4) (T := TX4) (N := 16) hx hb hts hin_X4 hown hK.1 T.1 8 rfl rfl 8 (by decide) (hts _ (List.mem_of_getElem? (i := 4) rfl)) (fun _ h9 => h9) rfl dX4_lay_49 ?_
        refine lv_iconst (v := 0) hx hb dX4_lay_52 (by decide) ?_
        refine lv_iconst (v := 0) hx hb dX4_lay_53 (by decide) ?_
        obtain ⟨hin, hf⟩ := ck_inv hf
        obtain ⟨S2, e_S2, hf⟩ := nm_inv hf
        refine va_zast hx hb hK.1 T.1 T.2.1 T.2.2 3 1 rfl rfl hin dX4_lay_54 (fun H locs hP hD hS => ?_)
        have T : ST D (wM cy ad Xr) A s S2 H locs := ⟨by rw [e_S2]; exact hP, by rw [e_S2]; exact hD, hS⟩
        refine lv_aload_n hx hb dX4_lay_55 rfl (lv_at hl 0 rfl) ?_
        refine lv_iconst (v := 0) hx hb dX4_lay_56 (by decide) ?_
        obtain ⟨S3, e_S3, hf⟩ := nm_inv hf
        refine va_put (D := D) (ci := 4) (v := .int 0) (ty := .int) (C := RX4) (T := TX4) (N := 16) hx hb hts hin_X4 tyX4 tyX4_ok nmX4 hown hK.1 T.1 T.2.1 T.2.2 8 rfl rfl 9 (by decide) (hts _ (List.mem_of_getElem? (i := 5) rfl)) (fun _ h9 => h9) rfl (by decide +kernel) rfl rfl (Nat.le_of_ble_eq_true rfl) dX4_lay_57 (fun H locs hP hD hS => ?_)
        have T : ST D (wM cy ad Xr) A s S3 H locs := ⟨by rw [e_S3]; exact hP, by rw [e_S3]; exact hD, hS⟩
        refine lv_aload_n hx hb dX4_lay_60 rfl (lv_at hl 0 rfl) ?_
        refine lv_iconst (v := (-1)) hx hb dX4_lay_61 (by decide) ?_
        obtain ⟨S4, e_S4, hf⟩ := nm_inv hf
        refine va_put (D := D) (ci := 4) (v := .int (-1)) (ty := .int) (C := RX4) (T := TX4) (N := 16) hx hb hts hin_X4 tyX4 tyX4_ok nmX4 hown hK.1 T.1 T.2.1 T.2.2 8 rfl rfl 10 (by decide) (hts _ (List.mem_of_getElem? (i := 6) rfl)) (fun _ h9 => h9) rfl (by decide +kernel) rfl rfl (Nat.le_of_ble_eq_true rfl) dX4_lay_62 (fun H locs hP hD hS => ?_)
        have T : ST D (wM cy ad Xr) A s S4 H locs := ⟨by rw [e_S4]; exact hP, by rw [e_S4]; exact hD, hS⟩
        refine lv_aload_n hx hb dX4_lay_65 rfl (lv_at hl 0 rfl) ?_
        refine lv_iconst (v := 0) hx hb dX4_lay_66 (by decide) ?_
        obtain ⟨S5, e_S5, hf⟩ := nm_inv hf
        refine va_put (D := D) (ci := 4) (v := .int 0) (ty := .int) (C := RX4) (T := TX4) (N := 16) hx hb hts hin_X4 tyX4 tyX4_ok nmX4 hown hK.1 T.1 T.2.1 T.2.2 8 rfl rfl 12 (by decide) (hts _ (List.mem_of_getElem? (i := 7) rfl)) (fun _ h9 => h9) rfl (by decide +kernel) rfl rfl (Nat.le_of_ble_eq_true rfl) dX4_lay_67 (fun H locs hP hD hS => ?_)
        have T : ST D (wM cy ad Xr) A s S5 H locs := ⟨by rw [e_S5]; exact hP, by rw [e_S5]; exact hD, hS⟩
        exact rf_vw hf X T hr dX4_lay_70
      · replace hf := ifn hc hf
        refine lv_aload_n hx hb dX4_lay_28 rfl (lv_at hl 0 rfl) ?_
        refine va_get (D := D) (ci := 4) (v := .ref (ad 3)) (C := RX4) (T := TX4) (N := 16) hx hb hts hin_X4 hown hK.1 T.1 8 rfl rfl 6 (by decide) (hts _ (List.mem_of_getElem? (i := 2) rfl)) (fun _ h9 => h9) rfl dX4_lay_29 ?_
        refine lv_iload_n hx hb dX4_lay_32 rfl (lv_at hl 1 rfl) ?_
        refine lv_iconst (v := (-1)) hx hb dX4_lay_33 (by decide) ?_
        obtain ⟨hin, hf⟩ := ck_inv hf
        obtain ⟨S6, e_S6, hf⟩ := nm_inv hf
        refine va_iast hx hb hK.1 T.1 T.2.1 T.2.2 5 0 rfl rfl hin dX4_lay_34 (fun H locs hP hD hS => ?_)
        have T : ST D (wM cy ad Xr) A s S6 H locs := ⟨by rw [e_S6]; exact hP, by rw [e_S6]; exact hD, hS⟩
        obtain ⟨v7, e_v7, hf⟩ := nm_inv hf
        refine lv_iinc (v := v7) (lv' := [(1, .int v7), (0, .ref (ad 0))]) hx hb dX4_lay_35 hl (k := 1) rfl (by rw [e_v7]; rfl) (by decide) rfl (fun ls hl => ?_)
        refine lv_goto (tgt := 23) hx hb dX4_lay_38 (by decide) ?_
        exact ih_23 v7 S6 _ _ _ (hin_23 _ (Option.some.inj hf).symm) T (lv_sub hl [1, 0] rfl)
  have l_2 : ∀ (n : Nat) (y1 : Int32) (S_2 : SC) (H : Heap) (locs : List Loc) (ls : Array Slot), loop (fX4_lay_b2) n (y1, S_2) = some r → ST D (wM cy ad Xr) A s S_2 H locs → lv_has ls 2 [(0, .ref (ad 0)), (1, .int y1)] → W p l e ({ frames := 0, cells := 0, slots := 0, locals := 0 } : Room) s m [.ref (ad 0)].toArray below meth c H locs 0 0 (MQ below (QG D (wM cy ad Xr) A none r) [.ref (ad 0)].toArray s 0 0 A) (F0 m 2 ls []) := by
    intro n
    induction n with
    | zero => intro _ _ _ _ _ hf; cases hf
    | succ n ih_2 =>
      intro y1 S_2 H locs ls hf T hl
      obtain ⟨z_2, hf, hin_2, hex_2⟩ := loop_inv hf
      unfold fX4_lay_b2 at hf
      dsimp only at hf
      refine lv_iload_n hx hb dX4_lay_2 rfl (lv_at hl 1 rfl) ?_
      refine lv_bipush (v := 25) hx hb dX4_lay_3 (by decide) ?_
      refine lv_icmp_ge (tgt := 21) hx hb dX4_lay_5 (by decide) (fun hc => ?_) (fun hc => ?_)
      · replace hf := ifp hc hf
        obtain ⟨r0, hf, hz⟩ := ex_inv hf
        rw [hex_2 r0 hz] at hf
        refine lv_iconst (v := 0) hx hb dX4_lay_21 (by decide) ?_
        refine lv_istore_n (lv' := [(1, .int 0), (0, .ref (ad 0))]) hx hb dX4_lay_22 rfl hl (by decide) rfl (fun ls hl => ?_)
        exact l_23 FUEL 0 S_2 _ _ _ hf T (lv_sub hl [1, 0] rfl)
      · replace hf := ifn hc hf
        refine lv_aload_n hx hb dX4_lay_8 rfl (lv_at hl 0 rfl) ?_
        refine va_get (D := D) (ci := 4) (v := .ref (ad 2)) (C := RX4) (T := TX4) (N := 16) hx hb hts hin_X4 hown hK.1 T.1 8 rfl rfl 5 (by decide) (hts _ (List.mem_of_getElem? (i := 1) rfl)) (fun _ h9 => h9) rfl dX4_lay_9 ?_
        refine lv_iload_n hx hb dX4_lay_12 rfl (lv_at hl 1 rfl) ?_
        refine lv_iconst (v := 0) hx hb dX4_lay_13 (by decide) ?_
        obtain ⟨hin, hf⟩ := ck_inv hf
        obtain ⟨S8, e_S8, hf⟩ := nm_inv hf
        refine va_iast hx hb hK.1 T.1 T.2.1 T.2.2 6 0 rfl rfl hin dX4_lay_14 (fun H locs hP hD hS => ?_)
        have T : ST D (wM cy ad Xr) A s S8 H locs := ⟨by rw [e_S8]; exact hP, by rw [e_S8]; exact hD, hS⟩
        obtain ⟨v9, e_v9, hf⟩ := nm_inv hf
        refine lv_iinc (v := v9) (lv' := [(1, .int v9), (0, .ref (ad 0))]) hx hb dX4_lay_15 hl (k := 1) rfl (by rw [e_v9]; rfl) (by decide) rfl (fun ls hl => ?_)
        refine lv_goto (tgt := 2) hx hb dX4_lay_18 (by decide) ?_
        exact ih_2 v9 S8 _ _ _ (hin_2 _ (Option.some.inj hf).symm) T (lv_sub hl [1, 0] rfl)
  refine lv_iconst (v := 0) hx hb dX4_lay_0 (by decide) ?_
  refine lv_istore_n (lv' := [(1, .int 0), (0, .ref (ad 0))]) hx hb dX4_lay_1 rfl hl (by decide) rfl (fun ls hl => ?_)
  exact l_2 FUEL 0 S _ _ _ hf T (lv_sub hl [1, 0] rfl)

noncomputable def fX4_high (S : SC) (x1 : Int32) (x2 : Int32) : Option Int32 :=
  ck (((25 : Int32) * x1) + x2) 125 <|
  some (S.2 1 (((25 : Int32) * x1) + x2).toNatClampNeg)
set_option maxHeartbeats 4000000 in
set_option maxRecDepth 100000 in
theorem kX4_high (l : Launch) (D : va_G) (cy : Nat → ClassId) (ad : Nat → Nat) (Xr : va_W) (S : SC) (x1 : Int32) (x2 : Int32) (r : Int32) (hf : fX4_high S x1 x2 = some r) : CG l D cy (wM cy ad Xr) yX4_high wsX4_high ({ frames := 0, cells := 0, slots := 0, locals := 0 } : Room) [.ref (ad 0), .int x1, .int x2] S (some (.int r)) S := by
  refine CG.of (cc := cX4_high) (maxL := 3) (ret := (some .int)) (by decide +kernel) rfl (Nat.le_of_ble_eq_true rfl) ?_
  intro p e s m below meth c A ls X hr T hl
  obtain ⟨hx, hb, hml, hown, hts, hlk, hK, hA, hwA⟩ := id X
  have hl : lv_has ls 3 [(0, .ref (ad 0)), (1, .int x1), (2, .int x2)] := hl
  have hin_X4 : ∀ w ∈ u_ws RX4 TX4 16, w ∈ wsX4_high := fun w h => (List.mem_cons_of_mem _ (List.mem_append_right _ h))
  unfold fX4_high at hf
  refine lv_aload_n hx hb dX4_high_0 rfl (lv_at hl 0 rfl) ?_
  refine va_get (D := D) (ci := 4) (v := .ref (ad 2)) (C := RX4) (T := TX4) (N := 16) hx hb hts hin_X4 hown hK.1 T.1 8 rfl rfl 5 (by decide) (hts _ (List.mem_of_getElem? (i := 1) rfl)) (fun _ h9 => h9) rfl dX4_high_1 ?_
  refine lv_bipush (v := 25) hx hb dX4_high_4 (by decide) ?_
  refine lv_iload_n hx hb dX4_high_6 rfl (lv_at hl 1 rfl) ?_
  refine lv_imul hx hb dX4_high_7 ?_
  refine lv_iload_n hx hb dX4_high_8 rfl (lv_at hl 2 rfl) ?_
  refine lv_iadd hx hb dX4_high_9 ?_
  obtain ⟨hin, hf⟩ := ck_inv hf
  refine va_iald hx hb hK.1 T.1 6 0 rfl rfl hin dX4_high_10 ?_
  exact rf_i hf X T hr dX4_high_11

noncomputable def fX4_builderIn_j32 (S : SC) (y1 : Int32) (y2 : Int32) (y4 : Int32) (z0 : Int32) : Option ((Int32 × Int32) ⊕ Int32) :=
  nm (y4 + 1 : Int32) fun v1 =>
  some (.inl (z0, v1))
noncomputable def fX4_builderIn_b5 (S : SC) (y1 : Int32) (y2 : Int32) : (Int32 × Int32) → Option ((Int32 × Int32) ⊕ Int32) :=
  fun st => match st with
    | (y3, y4) =>
      if (4 : Int32) ≤ y4 then
        ex <|
        some y3
      else
        ck (((4 : Int32) * y1) + y4) 20 <|
        if S.2 2 (((4 : Int32) * y1) + y4).toNatClampNeg = y2 then
          fX4_builderIn_j32 S y1 y2 y4 y4
        else
          fX4_builderIn_j32 S y1 y2 y4 y3
noncomputable def fX4_builderIn (S : SC) (x1 : Int32) (x2 : Int32) : Option Int32 :=
  loop (fX4_builderIn_b5 S x1 x2) FUEL ((-1), 0)
set_option maxHeartbeats 4000000 in
set_option maxRecDepth 100000 in
theorem kX4_builderIn (l : Launch) (D : va_G) (cy : Nat → ClassId) (ad : Nat → Nat) (Xr : va_W) (S : SC) (x1 : Int32) (x2 : Int32) (r : Int32) (hf : fX4_builderIn S x1 x2 = some r) : CG l D cy (wM cy ad Xr) yX4_builderIn wsX4_builderIn ({ frames := 0, cells := 0, slots := 0, locals := 0 } : Room) [.ref (ad 0), .int x1, .int x2] S (some (.int r)) S := by
  refine CG.of (cc := cX4_builderIn) (maxL := 5) (ret := (some .int)) (by decide +kernel) rfl (Nat.le_of_ble_eq_true rfl) ?_
  intro p e s m below meth c A ls X hr T hl
  obtain ⟨hx, hb, hml, hown, hts, hlk, hK, hA, hwA⟩ := id X
  have hl : lv_has ls 5 [(0, .ref (ad 0)), (1, .int x1), (2, .int x2)] := hl
  have hin_X4 : ∀ w ∈ u_ws RX4 TX4 16, w ∈ wsX4_builderIn := fun w h => (List.mem_cons_of_mem _ (List.mem_append_right _ h))
  unfold fX4_builderIn at hf
  have l_5 : ∀ (y1 : Int32) (y2 : Int32) (n : Nat) (y3 : Int32) (y4 : Int32) (H : Heap) (locs : List Loc) (ls : Array Slot), loop (fX4_builderIn_b5 S y1 y2) n (y3, y4) = some r → ST D (wM cy ad Xr) A s S H locs → lv_has ls 5 [(0, .ref (ad 0)), (1, .int y1), (2, .int y2), (3, .int y3), (4, .int y4)] → W p l e ({ frames := 0, cells := 0, slots := 0, locals := 0 } : Room) s m [.ref (ad 0), .int x1, .int x2].toArray below meth c H locs 0 0 (MQ below (QG D (wM cy ad Xr) A (some (.int r)) S) [.ref (ad 0), .int x1, .int x2].toArray s 0 0 A) (F0 m 5 ls []) := by
    intro y1 y2 n
    induction n with
    | zero => intro _ _ _ _ _ hf; cases hf
    | succ n ih_5 =>
      intro y3 y4 H locs ls hf T hl
      obtain ⟨z_5, hf, hin_5, hex_5⟩ := loop_inv hf
      unfold fX4_builderIn_b5 at hf
      dsimp only at hf
      have j_32 : ∀ (y4 : Int32) (z0 : Int32) (H : Heap) (locs : List Loc) (ls : Array Slot), fX4_builderIn_j32 S y1 y2 y4 z0 = some z_5 → ST D (wM cy ad Xr) A s S H locs → lv_has ls 5 [(0, .ref (ad 0)), (1, .int y1), (2, .int y2), (4, .int y4)] → W p l e ({ frames := 0, cells := 0, slots := 0, locals := 0 } : Room) s m [.ref (ad 0), .int x1, .int x2].toArray below meth c H locs 0 0 (MQ below (QG D (wM cy ad Xr) A (some (.int r)) S) [.ref (ad 0), .int x1, .int x2].toArray s 0 0 A) (F0 m 32 ls [.int z0]) := by
        intro y4 z0 H locs ls hf T hl
        unfold fX4_builderIn_j32 at hf
        refine lv_istore_n (lv' := [(3, .int z0), (0, .ref (ad 0)), (1, .int y1), (2, .int y2), (4, .int y4)]) hx hb dX4_builderIn_32 rfl hl (by decide) rfl (fun ls hl => ?_)
        obtain ⟨v1, e_v1, hf⟩ := nm_inv hf
        refine lv_iinc (v := v1) (lv' := [(4, .int v1), (3, .int z0), (0, .ref (ad 0)), (1, .int y1), (2, .int y2)]) hx hb dX4_builderIn_33 hl (k := 4) rfl (by rw [e_v1]; rfl) (by decide) rfl (fun ls hl => ?_)
        refine lv_goto (tgt := 5) hx hb dX4_builderIn_36 (by decide) ?_
        exact ih_5 z0 v1 _ _ _ (hin_5 _ (Option.some.inj hf).symm) T (lv_sub hl [2, 3, 4, 1, 0] rfl)
      refine lv_iload hx hb dX4_builderIn_5 (lv_at hl 4 rfl) ?_
      refine lv_iconst (v := 4) hx hb dX4_builderIn_7 (by decide) ?_
      refine lv_icmp_ge (tgt := 39) hx hb dX4_builderIn_8 (by decide) (fun hc => ?_) (fun hc => ?_)
      · replace hf := ifp hc hf
        obtain ⟨r0, hf, hz⟩ := ex_inv hf
        rw [hex_5 r0 hz] at hf
        refine lv_iload_n hx hb dX4_builderIn_39 rfl (lv_at hl 3 rfl) ?_
        exact rf_i hf X T hr dX4_builderIn_40
      · replace hf := ifn hc hf
        refine lv_aload_n hx hb dX4_builderIn_11 rfl (lv_at hl 0 rfl) ?_
        refine va_get (D := D) (ci := 4) (v := .ref (ad 3)) (C := RX4) (T := TX4) (N := 16) hx hb hts hin_X4 hown hK.1 T.1 8 rfl rfl 6 (by decide) (hts _ (List.mem_of_getElem? (i := 1) rfl)) (fun _ h9 => h9) rfl dX4_builderIn_12 ?_
        refine lv_iconst (v := 4) hx hb dX4_builderIn_15 (by decide) ?_
        refine lv_iload_n hx hb dX4_builderIn_16 rfl (lv_at hl 1 rfl) ?_
        refine lv_imul hx hb dX4_builderIn_17 ?_
        refine lv_iload hx hb dX4_builderIn_18 (lv_at hl 4 rfl) ?_
        refine lv_iadd hx hb dX4_builderIn_20 ?_
        obtain ⟨hin, hf⟩ := ck_inv hf
        refine va_iald hx hb hK.1 T.1 5 0 rfl rfl hin dX4_builderIn_21 ?_
        refine lv_iload_n hx hb dX4_builderIn_22 rfl (lv_at hl 2 rfl) ?_
        refine lv_icmp_ne (tgt := 31) hx hb dX4_builderIn_23 (by decide) (fun hc => ?_) (fun hc => ?_)
        · replace hf := ifn hc hf
          refine lv_iload_n hx hb dX4_builderIn_31 rfl (lv_at hl 3 rfl) ?_
          exact j_32 y4 y3 _ _ _ hf T (lv_sub hl [0, 1, 2, 4] rfl)
        · replace hf := ifp hc hf
          refine lv_iload hx hb dX4_builderIn_26 (lv_at hl 4 rfl) ?_
          refine lv_goto (tgt := 32) hx hb dX4_builderIn_28 (by decide) ?_
          exact j_32 y4 y4 _ _ _ hf T (lv_sub hl [0, 1, 2, 4] rfl)
  refine lv_iconst (v := (-1)) hx hb dX4_builderIn_0 (by decide) ?_
  refine lv_istore_n (lv' := [(3, .int (-1)), (0, .ref (ad 0)), (1, .int x1), (2, .int x2)]) hx hb dX4_builderIn_1 rfl hl (by decide) rfl (fun ls hl => ?_)
  refine lv_iconst (v := 0) hx hb dX4_builderIn_2 (by decide) ?_
  refine lv_istore (lv' := [(4, .int 0), (3, .int (-1)), (0, .ref (ad 0)), (1, .int x1), (2, .int x2)]) hx hb dX4_builderIn_3 hl (by decide) rfl (fun ls hl => ?_)
  exact l_5 x1 x2 FUEL (-1) 0 _ _ _ hf T (lv_sub hl [2, 3, 4, 1, 0] rfl)

noncomputable def fX4_areBeside (S : SC) (x1 : Int32) (x2 : Int32) : Option Int32 :=
  cp (¬ S.1 2 = 0) <|
  cp (¬ S.1 2 = 0) <|
  nm ((x1 / (S.1 2)) - (x2 / (S.1 2)) : Int32) fun v1 =>
  cp (¬ S.1 2 = 0) <|
  cp (¬ S.1 2 = 0) <|
  nm ((x1 - x1 / (S.1 2) * (S.1 2)) - (x2 - x2 / (S.1 2) * (S.1 2)) : Int32) fun v2 =>
  if x1 = x2 then
    some 0
  else
    bnd (fX4_in S v1 (-1) 1) fun v4 =>
    if v4 = 0 then
      some 0
    else
      bnd (fX4_in S v2 (-1) 1) fun v6 =>
      if v6 = 0 then
        some 0
      else
        some 1
set_option maxHeartbeats 4000000 in
set_option maxRecDepth 100000 in
theorem kX4_areBeside (l : Launch) (D : va_G) (cy : Nat → ClassId) (ad : Nat → Nat) (Xr : va_W) (S : SC) (x1 : Int32) (x2 : Int32) (r : Int32) (hf : fX4_areBeside S x1 x2 = some r) : CG l D cy (wM cy ad Xr) yX4_areBeside wsX4_areBeside ({ frames := 1, cells := 0, slots := 0, locals := 22 } : Room) [.ref (ad 0), .int x1, .int x2] S (some (.int r)) S := by
  refine CG.of (cc := cX4_areBeside) (maxL := 5) (ret := (some .boolean)) (by decide +kernel) rfl (Nat.le_of_ble_eq_true rfl) ?_
  intro p e s m below meth c A ls X hr T hl
  obtain ⟨hx, hb, hml, hown, hts, hlk, hK, hA, hwA⟩ := id X
  have hl : lv_has ls 5 [(0, .ref (ad 0)), (1, .int x1), (2, .int x2)] := hl
  have hin_X4 : ∀ w ∈ u_ws RX4 TX4 16, w ∈ wsX4_areBeside := fun w h => (List.mem_cons_of_mem _ (List.mem_append_right _ h))
  unfold fX4_areBeside at hf
  refine lv_iload_n hx hb dX4_areBeside_0 rfl (lv_at hl 1 rfl) ?_
  refine lv_aload_n hx hb dX4_areBeside_1 rfl (lv_at hl 0 rfl) ?_
  refine va_get (D := D) (ci := 4) (v := .int (S.1 2)) (C := RX4) (T := TX4) (N := 16) hx hb hts hin_X4 hown hK.1 T.1 8 rfl rfl 2 (by decide) (hts _ (List.mem_of_getElem? (i := 1) rfl)) (fun _ h9 => h9) rfl dX4_areBeside_2 ?_
  obtain ⟨hne, hf⟩ := cp_inv hf
  refine lv_idiv hx hb dX4_areBeside_5 hne ?_
  refine lv_iload_n hx hb dX4_areBeside_6 rfl (lv_at hl 2 rfl) ?_
  refine lv_aload_n hx hb dX4_areBeside_7 rfl (lv_at hl 0 rfl) ?_
  refine va_get (D := D) (ci := 4) (v := .int (S.1 2)) (C := RX4) (T := TX4) (N := 16) hx hb hts hin_X4 hown hK.1 T.1 8 rfl rfl 2 (by decide) (hts _ (List.mem_of_getElem? (i := 1) rfl)) (fun _ h9 => h9) rfl dX4_areBeside_8 ?_
  obtain ⟨hne, hf⟩ := cp_inv hf
  refine lv_idiv hx hb dX4_areBeside_11 hne ?_
  refine lv_isub hx hb dX4_areBeside_12 ?_
  refine lv_topi (fun v1 e_v1 => ?_)
  replace hf := nm_use hf e_v1
  refine lv_istore_n (lv' := [(3, .int v1), (0, .ref (ad 0)), (1, .int x1), (2, .int x2)]) hx hb dX4_areBeside_13 rfl hl (by decide) rfl (fun ls hl => ?_)
  refine lv_iload_n hx hb dX4_areBeside_14 rfl (lv_at hl 2 rfl) ?_
  refine lv_aload_n hx hb dX4_areBeside_15 rfl (lv_at hl 1 rfl) ?_
  refine va_get (D := D) (ci := 4) (v := .int (S.1 2)) (C := RX4) (T := TX4) (N := 16) hx hb hts hin_X4 hown hK.1 T.1 8 rfl rfl 2 (by decide) (hts _ (List.mem_of_getElem? (i := 1) rfl)) (fun _ h9 => h9) rfl dX4_areBeside_16 ?_
  obtain ⟨hne, hf⟩ := cp_inv hf
  refine lv_irem hx hb dX4_areBeside_19 hne ?_
  refine lv_iload_n hx hb dX4_areBeside_20 rfl (lv_at hl 3 rfl) ?_
  refine lv_aload_n hx hb dX4_areBeside_21 rfl (lv_at hl 1 rfl) ?_
  refine va_get (D := D) (ci := 4) (v := .int (S.1 2)) (C := RX4) (T := TX4) (N := 16) hx hb hts hin_X4 hown hK.1 T.1 8 rfl rfl 2 (by decide) (hts _ (List.mem_of_getElem? (i := 1) rfl)) (fun _ h9 => h9) rfl dX4_areBeside_22 ?_
  obtain ⟨hne, hf⟩ := cp_inv hf
  refine lv_irem hx hb dX4_areBeside_25 hne ?_
  refine lv_isub hx hb dX4_areBeside_26 ?_
  refine lv_topi (fun v2 e_v2 => ?_)
  replace hf := nm_use hf e_v2
  refine lv_istore (lv' := [(4, .int v2), (3, .int v1), (0, .ref (ad 0)), (1, .int x1), (2, .int x2)]) hx hb dX4_areBeside_27 hl (by decide) rfl (fun ls hl => ?_)
  refine lv_iload_n hx hb dX4_areBeside_29 rfl (lv_at hl 3 rfl) ?_
  refine lv_iload_n hx hb dX4_areBeside_30 rfl (lv_at hl 4 rfl) ?_
  refine lv_icmp_eq (tgt := 57) hx hb dX4_areBeside_31 (by decide) (fun hc => ?_) (fun hc => ?_)
  · replace hf := ifp hc hf
    refine lv_iconst (v := 0) hx hb dX4_areBeside_57 (by decide) ?_
    exact rf_z hf X T hr (Or.inl rfl) dX4_areBeside_58
  · replace hf := ifn hc hf
    refine lv_iload_n hx hb dX4_areBeside_34 rfl (lv_at hl 1 rfl) ?_
    refine lv_iconst (v := (-1)) hx hb dX4_areBeside_35 (by decide) ?_
    refine lv_iconst (v := 1) hx hb dX4_areBeside_36 (by decide) ?_
    obtain ⟨v4, h3, hf⟩ := bnd_inv hf
    refine cg_S (As := [.int v1, .int (-1), .int 1]) (rest := []) X T (kX4_in l D cy ad Xr S v1 (-1) 1 v4 h3) (va_cwS 3 hts gX4_areBeside_X4_in rfl rfl rfl (by decide +kernel) ⟨Nat.le_of_ble_eq_true rfl, Nat.le_of_ble_eq_true rfl⟩) rfl hl.1 rfl (Nat.le_of_ble_eq_true rfl) dX4_areBeside_37 ⟨Nat.zero_le _, Nat.zero_le _⟩ (st2 := [.int v4]) (pc2 := 40) rfl rfl (fun H locs T => ?_)
    refine lv_if_eq (tgt := 57) hx hb dX4_areBeside_40 (by decide) (fun hc => ?_) (fun hc => ?_)
    · replace hf := ifp hc hf
      refine lv_iconst (v := 0) hx hb dX4_areBeside_57 (by decide) ?_
      exact rf_z hf X T hr (Or.inl rfl) dX4_areBeside_58
    · replace hf := ifn hc hf
      refine lv_iload hx hb dX4_areBeside_43 (lv_at hl 0 rfl) ?_
      refine lv_iconst (v := (-1)) hx hb dX4_areBeside_45 (by decide) ?_
      refine lv_iconst (v := 1) hx hb dX4_areBeside_46 (by decide) ?_
      obtain ⟨v6, h5, hf⟩ := bnd_inv hf
      refine cg_S (As := [.int v2, .int (-1), .int 1]) (rest := []) X T (kX4_in l D cy ad Xr S v2 (-1) 1 v6 h5) (va_cwS 3 hts gX4_areBeside_X4_in rfl rfl rfl (by decide +kernel) ⟨Nat.le_of_ble_eq_true rfl, Nat.le_of_ble_eq_true rfl⟩) rfl hl.1 rfl (Nat.le_of_ble_eq_true rfl) dX4_areBeside_47 ⟨Nat.zero_le _, Nat.zero_le _⟩ (st2 := [.int v6]) (pc2 := 50) rfl rfl (fun H locs T => ?_)
      refine lv_if_eq (tgt := 57) hx hb dX4_areBeside_50 (by decide) (fun hc => ?_) (fun hc => ?_)
      · replace hf := ifp hc hf
        refine lv_iconst (v := 0) hx hb dX4_areBeside_57 (by decide) ?_
        exact rf_z hf X T hr (Or.inl rfl) dX4_areBeside_58
      · replace hf := ifn hc hf
        refine lv_iconst (v := 1) hx hb dX4_areBeside_53 (by decide) ?_
        refine lv_goto (tgt := 58) hx hb dX4_areBeside_54 (by decide) ?_
        exact rf_z hf X T hr (Or.inr rfl) dX4_areBeside_58

noncomputable def fX4_beyond (S : SC) (x1 : Int32) (x2 : Int32) : Option Int32 :=
  cp (¬ S.1 2 = 0) <|
  cp (¬ S.1 2 = 0) <|
  nm (((2 : Int32) * (x2 / (S.1 2))) - (x1 / (S.1 2)) : Int32) fun v1 =>
  cp (¬ S.1 2 = 0) <|
  cp (¬ S.1 2 = 0) <|
  nm (((2 : Int32) * (x2 - x2 / (S.1 2) * (S.1 2))) - (x1 - x1 / (S.1 2) * (S.1 2)) : Int32) fun v2 =>
  bnd (fX4_in S v1 0 ((S.1 1) - 1)) fun v4 =>
  if v4 = 0 then
    some (-1)
  else
    bnd (fX4_in S v2 0 ((S.1 2) - 1)) fun v6 =>
    if v6 = 0 then
      some (-1)
    else
      some ((v1 * (S.1 2)) + v2)
set_option maxHeartbeats 4000000 in
set_option maxRecDepth 100000 in
theorem kX4_beyond (l : Launch) (D : va_G) (cy : Nat → ClassId) (ad : Nat → Nat) (Xr : va_W) (S : SC) (x1 : Int32) (x2 : Int32) (r : Int32) (hf : fX4_beyond S x1 x2 = some r) : CG l D cy (wM cy ad Xr) yX4_beyond wsX4_beyond ({ frames := 1, cells := 0, slots := 0, locals := 22 } : Room) [.ref (ad 0), .int x1, .int x2] S (some (.int r)) S := by
  refine CG.of (cc := cX4_beyond) (maxL := 5) (ret := (some .int)) (by decide +kernel) rfl (Nat.le_of_ble_eq_true rfl) ?_
  intro p e s m below meth c A ls X hr T hl
  obtain ⟨hx, hb, hml, hown, hts, hlk, hK, hA, hwA⟩ := id X
  have hl : lv_has ls 5 [(0, .ref (ad 0)), (1, .int x1), (2, .int x2)] := hl
  have hin_X4 : ∀ w ∈ u_ws RX4 TX4 16, w ∈ wsX4_beyond := fun w h => (List.mem_cons_of_mem _ (List.mem_append_right _ h))
  unfold fX4_beyond at hf
  refine lv_iconst (v := 2) hx hb dX4_beyond_0 (by decide) ?_
  refine lv_iload_n hx hb dX4_beyond_1 rfl (lv_at hl 2 rfl) ?_
  refine lv_aload_n hx hb dX4_beyond_2 rfl (lv_at hl 0 rfl) ?_
  refine va_get (D := D) (ci := 4) (v := .int (S.1 2)) (C := RX4) (T := TX4) (N := 16) hx hb hts hin_X4 hown hK.1 T.1 8 rfl rfl 2 (by decide) (hts _ (List.mem_of_getElem? (i := 1) rfl)) (fun _ h9 => h9) rfl dX4_beyond_3 ?_
  obtain ⟨hne, hf⟩ := cp_inv hf
  refine lv_idiv hx hb dX4_beyond_6 hne ?_
  refine lv_imul hx hb dX4_beyond_7 ?_
  refine lv_iload_n hx hb dX4_beyond_8 rfl (lv_at hl 1 rfl) ?_
  refine lv_aload_n hx hb dX4_beyond_9 rfl (lv_at hl 0 rfl) ?_
  refine va_get (D := D) (ci := 4) (v := .int (S.1 2)) (C := RX4) (T := TX4) (N := 16) hx hb hts hin_X4 hown hK.1 T.1 8 rfl rfl 2 (by decide) (hts _ (List.mem_of_getElem? (i := 1) rfl)) (fun _ h9 => h9) rfl dX4_beyond_10 ?_
  obtain ⟨hne, hf⟩ := cp_inv hf
  refine lv_idiv hx hb dX4_beyond_13 hne ?_
  refine lv_isub hx hb dX4_beyond_14 ?_
  refine lv_topi (fun v1 e_v1 => ?_)
  replace hf := nm_use hf e_v1
  refine lv_istore_n (lv' := [(3, .int v1), (0, .ref (ad 0)), (1, .int x1), (2, .int x2)]) hx hb dX4_beyond_15 rfl hl (by decide) rfl (fun ls hl => ?_)
  refine lv_iconst (v := 2) hx hb dX4_beyond_16 (by decide) ?_
  refine lv_iload_n hx hb dX4_beyond_17 rfl (lv_at hl 3 rfl) ?_
  refine lv_aload_n hx hb dX4_beyond_18 rfl (lv_at hl 1 rfl) ?_
  refine va_get (D := D) (ci := 4) (v := .int (S.1 2)) (C := RX4) (T := TX4) (N := 16) hx hb hts hin_X4 hown hK.1 T.1 8 rfl rfl 2 (by decide) (hts _ (List.mem_of_getElem? (i := 1) rfl)) (fun _ h9 => h9) rfl dX4_beyond_19 ?_
  obtain ⟨hne, hf⟩ := cp_inv hf
  refine lv_irem hx hb dX4_beyond_22 hne ?_
  refine lv_imul hx hb dX4_beyond_23 ?_
  refine lv_iload_n hx hb dX4_beyond_24 rfl (lv_at hl 2 rfl) ?_
  refine lv_aload_n hx hb dX4_beyond_25 rfl (lv_at hl 1 rfl) ?_
  refine va_get (D := D) (ci := 4) (v := .int (S.1 2)) (C := RX4) (T := TX4) (N := 16) hx hb hts hin_X4 hown hK.1 T.1 8 rfl rfl 2 (by decide) (hts _ (List.mem_of_getElem? (i := 1) rfl)) (fun _ h9 => h9) rfl dX4_beyond_26 ?_
  obtain ⟨hne, hf⟩ := cp_inv hf
  refine lv_irem hx hb dX4_beyond_29 hne ?_
  refine lv_isub hx hb dX4_beyond_30 ?_
  refine lv_topi (fun v2 e_v2 => ?_)
  replace hf := nm_use hf e_v2
  refine lv_istore (lv' := [(4, .int v2), (3, .int v1), (0, .ref (ad 0)), (1, .int x1), (2, .int x2)]) hx hb dX4_beyond_31 hl (by decide) rfl (fun ls hl => ?_)
  refine lv_iload_n hx hb dX4_beyond_33 rfl (lv_at hl 1 rfl) ?_
  refine lv_iconst (v := 0) hx hb dX4_beyond_34 (by decide) ?_
  refine lv_aload_n hx hb dX4_beyond_35 rfl (lv_at hl 2 rfl) ?_
  refine va_get (D := D) (ci := 4) (v := .int (S.1 1)) (C := RX4) (T := TX4) (N := 16) hx hb hts hin_X4 hown hK.1 T.1 8 rfl rfl 1 (by decide) (hts _ (List.mem_of_getElem? (i := 2) rfl)) (fun _ h9 => h9) rfl dX4_beyond_36 ?_
  refine lv_iconst (v := 1) hx hb dX4_beyond_39 (by decide) ?_
  refine lv_isub hx hb dX4_beyond_40 ?_
  obtain ⟨v4, h3, hf⟩ := bnd_inv hf
  refine cg_S (As := [.int v1, .int 0, .int ((S.1 1) - 1)]) (rest := []) X T (kX4_in l D cy ad Xr S v1 0 ((S.1 1) - 1) v4 h3) (va_cwS 3 hts gX4_beyond_X4_in rfl rfl rfl (by decide +kernel) ⟨Nat.le_of_ble_eq_true rfl, Nat.le_of_ble_eq_true rfl⟩) rfl hl.1 rfl (Nat.le_of_ble_eq_true rfl) dX4_beyond_41 ⟨Nat.zero_le _, Nat.zero_le _⟩ (st2 := [.int v4]) (pc2 := 44) rfl rfl (fun H locs T => ?_)
  refine lv_if_eq (tgt := 74) hx hb dX4_beyond_44 (by decide) (fun hc => ?_) (fun hc => ?_)
  · replace hf := ifp hc hf
    refine lv_iconst (v := (-1)) hx hb dX4_beyond_74 (by decide) ?_
    exact rf_i hf X T hr dX4_beyond_75
  · replace hf := ifn hc hf
    refine lv_iload hx hb dX4_beyond_47 (lv_at hl 0 rfl) ?_
    refine lv_iconst (v := 0) hx hb dX4_beyond_49 (by decide) ?_
    refine lv_aload_n hx hb dX4_beyond_50 rfl (lv_at hl 2 rfl) ?_
    refine va_get (D := D) (ci := 4) (v := .int (S.1 2)) (C := RX4) (T := TX4) (N := 16) hx hb hts hin_X4 hown hK.1 T.1 8 rfl rfl 2 (by decide) (hts _ (List.mem_of_getElem? (i := 1) rfl)) (fun _ h9 => h9) rfl dX4_beyond_51 ?_
    refine lv_iconst (v := 1) hx hb dX4_beyond_54 (by decide) ?_
    refine lv_isub hx hb dX4_beyond_55 ?_
    obtain ⟨v6, h5, hf⟩ := bnd_inv hf
    refine cg_S (As := [.int v2, .int 0, .int ((S.1 2) - 1)]) (rest := []) X T (kX4_in l D cy ad Xr S v2 0 ((S.1 2) - 1) v6 h5) (va_cwS 3 hts gX4_beyond_X4_in rfl rfl rfl (by decide +kernel) ⟨Nat.le_of_ble_eq_true rfl, Nat.le_of_ble_eq_true rfl⟩) rfl hl.1 rfl (Nat.le_of_ble_eq_true rfl) dX4_beyond_56 ⟨Nat.zero_le _, Nat.zero_le _⟩ (st2 := [.int v6]) (pc2 := 59) rfl rfl (fun H locs T => ?_)
    refine lv_if_eq (tgt := 74) hx hb dX4_beyond_59 (by decide) (fun hc => ?_) (fun hc => ?_)
    · replace hf := ifp hc hf
      refine lv_iconst (v := (-1)) hx hb dX4_beyond_74 (by decide) ?_
      exact rf_i hf X T hr dX4_beyond_75
    · replace hf := ifn hc hf
      refine lv_iload_n hx hb dX4_beyond_62 rfl (lv_at hl 1 rfl) ?_
      refine lv_aload_n hx hb dX4_beyond_63 rfl (lv_at hl 2 rfl) ?_
      refine va_get (D := D) (ci := 4) (v := .int (S.1 2)) (C := RX4) (T := TX4) (N := 16) hx hb hts hin_X4 hown hK.1 T.1 8 rfl rfl 2 (by decide) (hts _ (List.mem_of_getElem? (i := 1) rfl)) (fun _ h9 => h9) rfl dX4_beyond_64 ?_
      refine lv_imul hx hb dX4_beyond_67 ?_
      refine lv_iload hx hb dX4_beyond_68 (lv_at hl 0 rfl) ?_
      refine lv_iadd hx hb dX4_beyond_70 ?_
      refine lv_goto (tgt := 75) hx hb dX4_beyond_71 (by decide) ?_
      exact rf_i hf X T hr dX4_beyond_75

noncomputable def fX4_isStep_j50 (S : SC) (z0 : Int32) (z1 : Int32) : Option Int32 :=
  if z1 < z0 then
    some 0
  else
    some 1
noncomputable def fX4_isStep (S : SC) (x1 : Int32) (x2 : Int32) (x3 : Int32) : Option Int32 :=
  bnd (fX4_high S x1 x3) fun v2 =>
  bnd (fX4_high S x1 x2) fun v4 =>
  nm (v2 - v4 : Int32) fun v5 =>
  bnd (fX4_areBeside S x2 x3) fun v7 =>
  if v7 = 0 then
    some 0
  else
    bnd (fX4_high S x1 x3) fun v9 =>
    if (4 : Int32) ≤ v9 then
      some 0
    else
      ck x1 5 <|
      if S.2 4 x1.toNatClampNeg = 0 then
        fX4_isStep_j50 S v5 1
      else
        fX4_isStep_j50 S v5 0
set_option maxHeartbeats 4000000 in
set_option maxRecDepth 100000 in
theorem kX4_isStep (l : Launch) (D : va_G) (cy : Nat → ClassId) (ad : Nat → Nat) (Xr : va_W) (S : SC) (x1 : Int32) (x2 : Int32) (x3 : Int32) (r : Int32) (hf : fX4_isStep S x1 x2 x3 = some r) : CG l D cy (wM cy ad Xr) yX4_isStep wsX4_isStep ({ frames := 2, cells := 0, slots := 0, locals := 46 } : Room) [.ref (ad 0), .int x1, .int x2, .int x3] S (some (.int r)) S := by
  refine CG.of (cc := cX4_isStep) (maxL := 5) (ret := (some .boolean)) (by decide +kernel) rfl (Nat.le_of_ble_eq_true rfl) ?_
  intro p e s m below meth c A ls X hr T hl
  obtain ⟨hx, hb, hml, hown, hts, hlk, hK, hA, hwA⟩ := id X
  have hl : lv_has ls 5 [(0, .ref (ad 0)), (1, .int x1), (2, .int x2), (3, .int x3)] := hl
  have hin_X4 : ∀ w ∈ u_ws RX4 TX4 16, w ∈ wsX4_isStep := fun w h => (List.mem_cons_of_mem _ (List.mem_append_right _ h))
  unfold fX4_isStep at hf
  have j_50 : ∀ (z0 : Int32) (z1 : Int32) (H : Heap) (locs : List Loc) (ls : Array Slot), fX4_isStep_j50 S z0 z1 = some r → ST D (wM cy ad Xr) A s S H locs → lv_has ls 5 [] → W p l e ({ frames := 2, cells := 0, slots := 0, locals := 46 } : Room) s m [.ref (ad 0), .int x1, .int x2, .int x3].toArray below meth c H locs 0 0 (MQ below (QG D (wM cy ad Xr) A (some (.int r)) S) [.ref (ad 0), .int x1, .int x2, .int x3].toArray s 0 0 A) (F0 m 50 ls [.int z1, .int z0]) := by
    intro z0 z1 H locs ls hf T hl
    unfold fX4_isStep_j50 at hf
    refine lv_icmp_gt (tgt := 57) hx hb dX4_isStep_50 (by decide) (fun hc => ?_) (fun hc => ?_)
    · replace hf := ifp hc hf
      refine lv_iconst (v := 0) hx hb dX4_isStep_57 (by decide) ?_
      exact rf_z hf X T hr (Or.inl rfl) dX4_isStep_58
    · replace hf := ifn hc hf
      refine lv_iconst (v := 1) hx hb dX4_isStep_53 (by decide) ?_
      refine lv_goto (tgt := 58) hx hb dX4_isStep_54 (by decide) ?_
      exact rf_z hf X T hr (Or.inr rfl) dX4_isStep_58
  refine lv_aload_n hx hb dX4_isStep_0 rfl (lv_at hl 0 rfl) ?_
  refine lv_iload_n hx hb dX4_isStep_1 rfl (lv_at hl 1 rfl) ?_
  refine lv_iload_n hx hb dX4_isStep_2 rfl (lv_at hl 3 rfl) ?_
  obtain ⟨v2, h1, hf⟩ := bnd_inv hf
  refine cg_V (q0 := 8) (ci := 4) (As := [.int x1, .int x3]) (rest := []) X T (kX4_high l D cy ad Xr S x1 x3 v2 h1) (cwV 2 hts gX4_isStep_X4_high rfl rfl rfl (by decide +kernel) ⟨Nat.le_of_ble_eq_true rfl, Nat.le_of_ble_eq_true rfl⟩) rfl rfl rfl hl.1 rfl (Nat.le_of_ble_eq_true rfl) dX4_isStep_3 ⟨Nat.zero_le _, Nat.zero_le _⟩ (st2 := [.int v2]) (pc2 := 6) rfl rfl (fun H locs T => ?_)
  refine lv_aload_n hx hb dX4_isStep_6 rfl (lv_at hl 0 rfl) ?_
  refine lv_iload_n hx hb dX4_isStep_7 rfl (lv_at hl 1 rfl) ?_
  refine lv_iload_n hx hb dX4_isStep_8 rfl (lv_at hl 2 rfl) ?_
  obtain ⟨v4, h3, hf⟩ := bnd_inv hf
  refine cg_V (q0 := 8) (ci := 4) (As := [.int x1, .int x2]) (rest := [.int v2]) X T (kX4_high l D cy ad Xr S x1 x2 v4 h3) (cwV 2 hts gX4_isStep_X4_high rfl rfl rfl (by decide +kernel) ⟨Nat.le_of_ble_eq_true rfl, Nat.le_of_ble_eq_true rfl⟩) rfl rfl rfl hl.1 rfl (Nat.le_of_ble_eq_true rfl) dX4_isStep_9 ⟨Nat.zero_le _, Nat.zero_le _⟩ (st2 := [.int v4, .int v2]) (pc2 := 12) rfl rfl (fun H locs T => ?_)
  refine lv_isub hx hb dX4_isStep_12 ?_
  refine lv_topi (fun v5 e_v5 => ?_)
  replace hf := nm_use hf e_v5
  refine lv_istore (lv' := [(4, .int v5), (0, .ref (ad 0)), (1, .int x1), (2, .int x2), (3, .int x3)]) hx hb dX4_isStep_13 hl (by decide) rfl (fun ls hl => ?_)
  refine lv_aload_n hx hb dX4_isStep_15 rfl (lv_at hl 1 rfl) ?_
  refine lv_iload_n hx hb dX4_isStep_16 rfl (lv_at hl 3 rfl) ?_
  refine lv_iload_n hx hb dX4_isStep_17 rfl (lv_at hl 4 rfl) ?_
  obtain ⟨v7, h6, hf⟩ := bnd_inv hf
  refine cg_V (q0 := 8) (ci := 4) (As := [.int x2, .int x3]) (rest := []) X T (kX4_areBeside l D cy ad Xr S x2 x3 v7 h6) (cwV 2 hts gX4_isStep_X4_areBeside rfl rfl rfl (by decide +kernel) ⟨Nat.le_of_ble_eq_true rfl, Nat.le_of_ble_eq_true rfl⟩) rfl rfl rfl hl.1 rfl (Nat.le_of_ble_eq_true rfl) dX4_isStep_18 ⟨Nat.zero_le _, Nat.zero_le _⟩ (st2 := [.int v7]) (pc2 := 21) rfl rfl (fun H locs T => ?_)
  refine lv_if_eq (tgt := 57) hx hb dX4_isStep_21 (by decide) (fun hc => ?_) (fun hc => ?_)
  · replace hf := ifp hc hf
    refine lv_iconst (v := 0) hx hb dX4_isStep_57 (by decide) ?_
    exact rf_z hf X T hr (Or.inl rfl) dX4_isStep_58
  · replace hf := ifn hc hf
    refine lv_aload_n hx hb dX4_isStep_24 rfl (lv_at hl 1 rfl) ?_
    refine lv_iload_n hx hb dX4_isStep_25 rfl (lv_at hl 2 rfl) ?_
    refine lv_iload_n hx hb dX4_isStep_26 rfl (lv_at hl 4 rfl) ?_
    obtain ⟨v9, h8, hf⟩ := bnd_inv hf
    refine cg_V (q0 := 8) (ci := 4) (As := [.int x1, .int x3]) (rest := []) X T (kX4_high l D cy ad Xr S x1 x3 v9 h8) (cwV 2 hts gX4_isStep_X4_high rfl rfl rfl (by decide +kernel) ⟨Nat.le_of_ble_eq_true rfl, Nat.le_of_ble_eq_true rfl⟩) rfl rfl rfl hl.1 rfl (Nat.le_of_ble_eq_true rfl) dX4_isStep_27 ⟨Nat.zero_le _, Nat.zero_le _⟩ (st2 := [.int v9]) (pc2 := 30) rfl rfl (fun H locs T => ?_)
    refine lv_iconst (v := 4) hx hb dX4_isStep_30 (by decide) ?_
    refine lv_icmp_ge (tgt := 57) hx hb dX4_isStep_31 (by decide) (fun hc => ?_) (fun hc => ?_)
    · replace hf := ifp hc hf
      refine lv_iconst (v := 0) hx hb dX4_isStep_57 (by decide) ?_
      exact rf_z hf X T hr (Or.inl rfl) dX4_isStep_58
    · replace hf := ifn hc hf
      refine lv_iload hx hb dX4_isStep_34 (lv_at hl 0 rfl) ?_
      refine lv_aload_n hx hb dX4_isStep_36 rfl (lv_at hl 1 rfl) ?_
      refine va_get (D := D) (ci := 4) (v := .ref (ad 5)) (C := RX4) (T := TX4) (N := 16) hx hb hts hin_X4 hown hK.1 T.1 8 rfl rfl 8 (by decide) (hts _ (List.mem_of_getElem? (i := 1) rfl)) (fun _ h9 => h9) rfl dX4_isStep_37 ?_
      refine lv_iload_n hx hb dX4_isStep_40 rfl (lv_at hl 2 rfl) ?_
      obtain ⟨hin, hf⟩ := ck_inv hf
      refine va_zald hx hb hK.1 T.1 3 1 rfl rfl hin dX4_isStep_41 ?_
      refine lv_if_eq (tgt := 49) hx hb dX4_isStep_42 (by decide) (fun hc => ?_) (fun hc => ?_)
      · replace hf := ifp hc hf
        refine lv_iconst (v := 1) hx hb dX4_isStep_49 (by decide) ?_
        exact j_50 v5 1 _ _ _ hf T (lv_sub hl [] rfl)
      · replace hf := ifn hc hf
        refine lv_iconst (v := 0) hx hb dX4_isStep_45 (by decide) ?_
        refine lv_goto (tgt := 50) hx hb dX4_isStep_46 (by decide) ?_
        exact j_50 v5 0 _ _ _ hf T (lv_sub hl [] rfl)

noncomputable def fX4_isWinning_j30 (S : SC) (y1 : Int32) (y4 : Int32) : Option Int32 :=
  ck y1 5 <|
  ck (S.2 3 y1.toNatClampNeg) 2 <|
  if S.2 0 (S.2 3 y1.toNatClampNeg).toNatClampNeg = 5 then
    if y4 < 2 then
      some 0
    else
      some 1
  else
    some 0
noncomputable def fX4_isWinning (S : SC) (x1 : Int32) (x2 : Int32) (x3 : Int32) : Option Int32 :=
  bnd (fX4_high S x1 x2) fun v2 =>
  bnd (fX4_high S x1 x3) fun v4 =>
  nm (v2 - v4 : Int32) fun v5 =>
  bnd (fX4_high S x1 x3) fun v7 =>
  if v7 = 3 then
    if v5 < 0 then
      some 1
    else
      fX4_isWinning_j30 S x1 v5
  else
    fX4_isWinning_j30 S x1 v5
set_option maxHeartbeats 4000000 in
set_option maxRecDepth 100000 in
theorem kX4_isWinning (l : Launch) (D : va_G) (cy : Nat → ClassId) (ad : Nat → Nat) (Xr : va_W) (S : SC) (x1 : Int32) (x2 : Int32) (x3 : Int32) (r : Int32) (hf : fX4_isWinning S x1 x2 x3 = some r) : CG l D cy (wM cy ad Xr) yX4_isWinning wsX4_isWinning ({ frames := 1, cells := 0, slots := 0, locals := 22 } : Room) [.ref (ad 0), .int x1, .int x2, .int x3] S (some (.int r)) S := by
  refine CG.of (cc := cX4_isWinning) (maxL := 5) (ret := (some .boolean)) (by decide +kernel) rfl (Nat.le_of_ble_eq_true rfl) ?_
  intro p e s m below meth c A ls X hr T hl
  obtain ⟨hx, hb, hml, hown, hts, hlk, hK, hA, hwA⟩ := id X
  have hl : lv_has ls 5 [(0, .ref (ad 0)), (1, .int x1), (2, .int x2), (3, .int x3)] := hl
  have hin_X4 : ∀ w ∈ u_ws RX4 TX4 16, w ∈ wsX4_isWinning := fun w h => (List.mem_cons_of_mem _ (List.mem_append_right _ h))
  unfold fX4_isWinning at hf
  have j_30 : ∀ (y1 : Int32) (y4 : Int32) (H : Heap) (locs : List Loc) (ls : Array Slot), fX4_isWinning_j30 S y1 y4 = some r → ST D (wM cy ad Xr) A s S H locs → lv_has ls 5 [(0, .ref (ad 0)), (1, .int y1), (4, .int y4)] → W p l e ({ frames := 1, cells := 0, slots := 0, locals := 22 } : Room) s m [.ref (ad 0), .int x1, .int x2, .int x3].toArray below meth c H locs 0 0 (MQ below (QG D (wM cy ad Xr) A (some (.int r)) S) [.ref (ad 0), .int x1, .int x2, .int x3].toArray s 0 0 A) (F0 m 30 ls []) := by
    intro y1 y4 H locs ls hf T hl
    unfold fX4_isWinning_j30 at hf
    refine lv_aload_n hx hb dX4_isWinning_30 rfl (lv_at hl 0 rfl) ?_
    refine va_get (D := D) (ci := 4) (v := .ref (ad 1)) (C := RX4) (T := TX4) (N := 16) hx hb hts hin_X4 hown hK.1 T.1 8 rfl rfl 4 (by decide) (hts _ (List.mem_of_getElem? (i := 1) rfl)) (fun _ h9 => h9) rfl dX4_isWinning_31 ?_
    refine lv_aload_n hx hb dX4_isWinning_34 rfl (lv_at hl 0 rfl) ?_
    refine va_get (D := D) (ci := 4) (v := .ref (ad 4)) (C := RX4) (T := TX4) (N := 16) hx hb hts hin_X4 hown hK.1 T.1 8 rfl rfl 7 (by decide) (hts _ (List.mem_of_getElem? (i := 2) rfl)) (fun _ h9 => h9) rfl dX4_isWinning_35 ?_
    refine lv_iload_n hx hb dX4_isWinning_38 rfl (lv_at hl 1 rfl) ?_
    obtain ⟨hin, hf⟩ := ck_inv hf
    refine va_iald hx hb hK.1 T.1 4 0 rfl rfl hin dX4_isWinning_39 ?_
    obtain ⟨hin, hf⟩ := ck_inv hf
    refine va_iald hx hb hK.1 T.1 7 0 rfl rfl hin dX4_isWinning_40 ?_
    refine lv_iconst (v := 5) hx hb dX4_isWinning_41 (by decide) ?_
    refine lv_icmp_ne (tgt := 55) hx hb dX4_isWinning_42 (by decide) (fun hc => ?_) (fun hc => ?_)
    · replace hf := ifn hc hf
      refine lv_iconst (v := 0) hx hb dX4_isWinning_55 (by decide) ?_
      exact rf_z hf X T hr (Or.inl rfl) dX4_isWinning_56
    · replace hf := ifp hc hf
      refine lv_iload hx hb dX4_isWinning_45 (lv_at hl 2 rfl) ?_
      refine lv_iconst (v := 2) hx hb dX4_isWinning_47 (by decide) ?_
      refine lv_icmp_lt (tgt := 55) hx hb dX4_isWinning_48 (by decide) (fun hc => ?_) (fun hc => ?_)
      · replace hf := ifp hc hf
        refine lv_iconst (v := 0) hx hb dX4_isWinning_55 (by decide) ?_
        exact rf_z hf X T hr (Or.inl rfl) dX4_isWinning_56
      · replace hf := ifn hc hf
        refine lv_iconst (v := 1) hx hb dX4_isWinning_51 (by decide) ?_
        refine lv_goto (tgt := 56) hx hb dX4_isWinning_52 (by decide) ?_
        exact rf_z hf X T hr (Or.inr rfl) dX4_isWinning_56
  refine lv_aload_n hx hb dX4_isWinning_0 rfl (lv_at hl 0 rfl) ?_
  refine lv_iload_n hx hb dX4_isWinning_1 rfl (lv_at hl 1 rfl) ?_
  refine lv_iload_n hx hb dX4_isWinning_2 rfl (lv_at hl 2 rfl) ?_
  obtain ⟨v2, h1, hf⟩ := bnd_inv hf
  refine cg_V (q0 := 8) (ci := 4) (As := [.int x1, .int x2]) (rest := []) X T (kX4_high l D cy ad Xr S x1 x2 v2 h1) (cwV 2 hts gX4_isWinning_X4_high rfl rfl rfl (by decide +kernel) ⟨Nat.le_of_ble_eq_true rfl, Nat.le_of_ble_eq_true rfl⟩) rfl rfl rfl hl.1 rfl (Nat.le_of_ble_eq_true rfl) dX4_isWinning_3 ⟨Nat.zero_le _, Nat.zero_le _⟩ (st2 := [.int v2]) (pc2 := 6) rfl rfl (fun H locs T => ?_)
  refine lv_aload_n hx hb dX4_isWinning_6 rfl (lv_at hl 0 rfl) ?_
  refine lv_iload_n hx hb dX4_isWinning_7 rfl (lv_at hl 1 rfl) ?_
  refine lv_iload_n hx hb dX4_isWinning_8 rfl (lv_at hl 3 rfl) ?_
  obtain ⟨v4, h3, hf⟩ := bnd_inv hf
  refine cg_V (q0 := 8) (ci := 4) (As := [.int x1, .int x3]) (rest := [.int v2]) X T (kX4_high l D cy ad Xr S x1 x3 v4 h3) (cwV 2 hts gX4_isWinning_X4_high rfl rfl rfl (by decide +kernel) ⟨Nat.le_of_ble_eq_true rfl, Nat.le_of_ble_eq_true rfl⟩) rfl rfl rfl hl.1 rfl (Nat.le_of_ble_eq_true rfl) dX4_isWinning_9 ⟨Nat.zero_le _, Nat.zero_le _⟩ (st2 := [.int v4, .int v2]) (pc2 := 12) rfl rfl (fun H locs T => ?_)
  refine lv_isub hx hb dX4_isWinning_12 ?_
  refine lv_topi (fun v5 e_v5 => ?_)
  replace hf := nm_use hf e_v5
  refine lv_istore (lv' := [(4, .int v5), (0, .ref (ad 0)), (1, .int x1), (2, .int x2), (3, .int x3)]) hx hb dX4_isWinning_13 hl (by decide) rfl (fun ls hl => ?_)
  refine lv_aload_n hx hb dX4_isWinning_15 rfl (lv_at hl 1 rfl) ?_
  refine lv_iload_n hx hb dX4_isWinning_16 rfl (lv_at hl 2 rfl) ?_
  refine lv_iload_n hx hb dX4_isWinning_17 rfl (lv_at hl 4 rfl) ?_
  obtain ⟨v7, h6, hf⟩ := bnd_inv hf
  refine cg_V (q0 := 8) (ci := 4) (As := [.int x1, .int x3]) (rest := []) X T (kX4_high l D cy ad Xr S x1 x3 v7 h6) (cwV 2 hts gX4_isWinning_X4_high rfl rfl rfl (by decide +kernel) ⟨Nat.le_of_ble_eq_true rfl, Nat.le_of_ble_eq_true rfl⟩) rfl rfl rfl hl.1 rfl (Nat.le_of_ble_eq_true rfl) dX4_isWinning_18 ⟨Nat.zero_le _, Nat.zero_le _⟩ (st2 := [.int v7]) (pc2 := 21) rfl rfl (fun H locs T => ?_)
  refine lv_iconst (v := 3) hx hb dX4_isWinning_21 (by decide) ?_
  refine lv_icmp_ne (tgt := 30) hx hb dX4_isWinning_22 (by decide) (fun hc => ?_) (fun hc => ?_)
  · replace hf := ifn hc hf
    exact j_30 x1 v5 _ _ _ hf T (lv_sub hl [1, 2, 0] rfl)
  · replace hf := ifp hc hf
    refine lv_iload hx hb dX4_isWinning_25 (lv_at hl 0 rfl) ?_
    refine lv_if_lt (tgt := 51) hx hb dX4_isWinning_27 (by decide) (fun hc => ?_) (fun hc => ?_)
    · replace hf := ifp hc hf
      refine lv_iconst (v := 1) hx hb dX4_isWinning_51 (by decide) ?_
      refine lv_goto (tgt := 56) hx hb dX4_isWinning_52 (by decide) ?_
      exact rf_z hf X T hr (Or.inr rfl) dX4_isWinning_56
    · replace hf := ifn hc hf
      exact j_30 x1 v5 _ _ _ hf T (lv_sub hl [1, 2, 0] rfl)

noncomputable def fX4_mayEnter_j56 (S : SC) (y1 : Int32) (y2 : Int32) (y3 : Int32) (y5 : Int32) : Option Int32 :=
  bnd (fX4_beyond S y2 y3) fun v2 =>
  if y5 = 2 then
    some 1
  else
    if v2 = (-1) then
      some 0
    else
      bnd (fX4_builderIn S y1 v2) fun v4 =>
      if v4 = (-1) then
        bnd (fX4_high S y1 v2) fun v6 =>
        if (4 : Int32) ≤ v6 then
          some 0
        else
          some 1
      else
        some 0
noncomputable def fX4_mayEnter (S : SC) (x1 : Int32) (x2 : Int32) (x3 : Int32) : Option Int32 :=
  bnd (fX4_builderIn S x1 x3) fun v8 =>
  ck x1 5 <|
  ck (S.2 3 x1.toNatClampNeg) 2 <|
  nm (S.2 0 (S.2 3 x1.toNatClampNeg).toNatClampNeg : Int32) fun v9 =>
  if v8 = (-1) then
    some 1
  else
    ck x1 5 <|
    if v8 / 2 = S.2 3 x1.toNatClampNeg then
      some 0
    else
      if v9 = 2 then
        fX4_mayEnter_j56 S x1 x2 x3 v9
      else
        if v9 = 3 then
          fX4_mayEnter_j56 S x1 x2 x3 v9
        else
          some 0
set_option maxHeartbeats 4000000 in
set_option maxRecDepth 100000 in
theorem kX4_mayEnter (l : Launch) (D : va_G) (cy : Nat → ClassId) (ad : Nat → Nat) (Xr : va_W) (S : SC) (x1 : Int32) (x2 : Int32) (x3 : Int32) (r : Int32) (hf : fX4_mayEnter S x1 x2 x3 = some r) : CG l D cy (wM cy ad Xr) yX4_mayEnter wsX4_mayEnter ({ frames := 2, cells := 0, slots := 0, locals := 46 } : Room) [.ref (ad 0), .int x1, .int x2, .int x3] S (some (.int r)) S := by
  refine CG.of (cc := cX4_mayEnter) (maxL := 7) (ret := (some .boolean)) (by decide +kernel) rfl (Nat.le_of_ble_eq_true rfl) ?_
  intro p e s m below meth c A ls X hr T hl
  obtain ⟨hx, hb, hml, hown, hts, hlk, hK, hA, hwA⟩ := id X
  have hl : lv_has ls 7 [(0, .ref (ad 0)), (1, .int x1), (2, .int x2), (3, .int x3)] := hl
  have hin_X4 : ∀ w ∈ u_ws RX4 TX4 16, w ∈ wsX4_mayEnter := fun w h => (List.mem_cons_of_mem _ (List.mem_append_right _ h))
  unfold fX4_mayEnter at hf
  have j_56 : ∀ (y1 : Int32) (y2 : Int32) (y3 : Int32) (y5 : Int32) (H : Heap) (locs : List Loc) (ls : Array Slot), fX4_mayEnter_j56 S y1 y2 y3 y5 = some r → ST D (wM cy ad Xr) A s S H locs → lv_has ls 7 [(0, .ref (ad 0)), (1, .int y1), (2, .int y2), (3, .int y3), (5, .int y5)] → W p l e ({ frames := 2, cells := 0, slots := 0, locals := 46 } : Room) s m [.ref (ad 0), .int x1, .int x2, .int x3].toArray below meth c H locs 0 0 (MQ below (QG D (wM cy ad Xr) A (some (.int r)) S) [.ref (ad 0), .int x1, .int x2, .int x3].toArray s 0 0 A) (F0 m 56 ls []) := by
    intro y1 y2 y3 y5 H locs ls hf T hl
    unfold fX4_mayEnter_j56 at hf
    refine lv_aload_n hx hb dX4_mayEnter_56 rfl (lv_at hl 0 rfl) ?_
    refine lv_iload_n hx hb dX4_mayEnter_57 rfl (lv_at hl 2 rfl) ?_
    refine lv_iload_n hx hb dX4_mayEnter_58 rfl (lv_at hl 3 rfl) ?_
    obtain ⟨v2, h1, hf⟩ := bnd_inv hf
    refine cg_V (q0 := 8) (ci := 4) (As := [.int y2, .int y3]) (rest := []) X T (kX4_beyond l D cy ad Xr S y2 y3 v2 h1) (cwV 2 hts gX4_mayEnter_X4_beyond rfl rfl rfl (by decide +kernel) ⟨Nat.le_of_ble_eq_true rfl, Nat.le_of_ble_eq_true rfl⟩) rfl rfl rfl hl.1 rfl (Nat.le_of_ble_eq_true rfl) dX4_mayEnter_59 ⟨Nat.zero_le _, Nat.zero_le _⟩ (st2 := [.int v2]) (pc2 := 62) rfl rfl (fun H locs T => ?_)
    refine lv_istore (lv' := [(6, .int v2), (0, .ref (ad 0)), (1, .int y1), (2, .int y2), (3, .int y3), (5, .int y5)]) hx hb dX4_mayEnter_62 hl (by decide) rfl (fun ls hl => ?_)
    refine lv_iload hx hb dX4_mayEnter_64 (lv_at hl 5 rfl) ?_
    refine lv_iconst (v := 2) hx hb dX4_mayEnter_66 (by decide) ?_
    refine lv_icmp_eq (tgt := 98) hx hb dX4_mayEnter_67 (by decide) (fun hc => ?_) (fun hc => ?_)
    · replace hf := ifp hc hf
      refine lv_iconst (v := 1) hx hb dX4_mayEnter_98 (by decide) ?_
      refine lv_goto (tgt := 103) hx hb dX4_mayEnter_99 (by decide) ?_
      exact rf_z hf X T hr (Or.inr rfl) dX4_mayEnter_103
    · replace hf := ifn hc hf
      refine lv_iload hx hb dX4_mayEnter_70 (lv_at hl 0 rfl) ?_
      refine lv_iconst (v := (-1)) hx hb dX4_mayEnter_72 (by decide) ?_
      refine lv_icmp_eq (tgt := 102) hx hb dX4_mayEnter_73 (by decide) (fun hc => ?_) (fun hc => ?_)
      · replace hf := ifp hc hf
        refine lv_iconst (v := 0) hx hb dX4_mayEnter_102 (by decide) ?_
        exact rf_z hf X T hr (Or.inl rfl) dX4_mayEnter_103
      · replace hf := ifn hc hf
        refine lv_aload_n hx hb dX4_mayEnter_76 rfl (lv_at hl 1 rfl) ?_
        refine lv_iload_n hx hb dX4_mayEnter_77 rfl (lv_at hl 2 rfl) ?_
        refine lv_iload hx hb dX4_mayEnter_78 (lv_at hl 0 rfl) ?_
        obtain ⟨v4, h3, hf⟩ := bnd_inv hf
        refine cg_V (q0 := 8) (ci := 4) (As := [.int y1, .int v2]) (rest := []) X T (kX4_builderIn l D cy ad Xr S y1 v2 v4 h3) (cwV 2 hts gX4_mayEnter_X4_builderIn rfl rfl rfl (by decide +kernel) ⟨Nat.le_of_ble_eq_true rfl, Nat.le_of_ble_eq_true rfl⟩) rfl rfl rfl hl.1 rfl (Nat.le_of_ble_eq_true rfl) dX4_mayEnter_80 ⟨Nat.zero_le _, Nat.zero_le _⟩ (st2 := [.int v4]) (pc2 := 83) rfl rfl (fun H locs T => ?_)
        refine lv_iconst (v := (-1)) hx hb dX4_mayEnter_83 (by decide) ?_
        refine lv_icmp_ne (tgt := 102) hx hb dX4_mayEnter_84 (by decide) (fun hc => ?_) (fun hc => ?_)
        · replace hf := ifn hc hf
          refine lv_iconst (v := 0) hx hb dX4_mayEnter_102 (by decide) ?_
          exact rf_z hf X T hr (Or.inl rfl) dX4_mayEnter_103
        · replace hf := ifp hc hf
          refine lv_aload_n hx hb dX4_mayEnter_87 rfl (lv_at hl 1 rfl) ?_
          refine lv_iload_n hx hb dX4_mayEnter_88 rfl (lv_at hl 2 rfl) ?_
          refine lv_iload hx hb dX4_mayEnter_89 (lv_at hl 0 rfl) ?_
          obtain ⟨v6, h5, hf⟩ := bnd_inv hf
          refine cg_V (q0 := 8) (ci := 4) (As := [.int y1, .int v2]) (rest := []) X T (kX4_high l D cy ad Xr S y1 v2 v6 h5) (cwV 2 hts gX4_mayEnter_X4_high rfl rfl rfl (by decide +kernel) ⟨Nat.le_of_ble_eq_true rfl, Nat.le_of_ble_eq_true rfl⟩) rfl rfl rfl hl.1 rfl (Nat.le_of_ble_eq_true rfl) dX4_mayEnter_91 ⟨Nat.zero_le _, Nat.zero_le _⟩ (st2 := [.int v6]) (pc2 := 94) rfl rfl (fun H locs T => ?_)
          refine lv_iconst (v := 4) hx hb dX4_mayEnter_94 (by decide) ?_
          refine lv_icmp_ge (tgt := 102) hx hb dX4_mayEnter_95 (by decide) (fun hc => ?_) (fun hc => ?_)
          · replace hf := ifp hc hf
            refine lv_iconst (v := 0) hx hb dX4_mayEnter_102 (by decide) ?_
            exact rf_z hf X T hr (Or.inl rfl) dX4_mayEnter_103
          · replace hf := ifn hc hf
            refine lv_iconst (v := 1) hx hb dX4_mayEnter_98 (by decide) ?_
            refine lv_goto (tgt := 103) hx hb dX4_mayEnter_99 (by decide) ?_
            exact rf_z hf X T hr (Or.inr rfl) dX4_mayEnter_103
  refine lv_aload_n hx hb dX4_mayEnter_0 rfl (lv_at hl 0 rfl) ?_
  refine lv_iload_n hx hb dX4_mayEnter_1 rfl (lv_at hl 1 rfl) ?_
  refine lv_iload_n hx hb dX4_mayEnter_2 rfl (lv_at hl 3 rfl) ?_
  obtain ⟨v8, h7, hf⟩ := bnd_inv hf
  refine cg_V (q0 := 8) (ci := 4) (As := [.int x1, .int x3]) (rest := []) X T (kX4_builderIn l D cy ad Xr S x1 x3 v8 h7) (cwV 2 hts gX4_mayEnter_X4_builderIn rfl rfl rfl (by decide +kernel) ⟨Nat.le_of_ble_eq_true rfl, Nat.le_of_ble_eq_true rfl⟩) rfl rfl rfl hl.1 rfl (Nat.le_of_ble_eq_true rfl) dX4_mayEnter_3 ⟨Nat.zero_le _, Nat.zero_le _⟩ (st2 := [.int v8]) (pc2 := 6) rfl rfl (fun H locs T => ?_)
  refine lv_istore (lv' := [(4, .int v8), (0, .ref (ad 0)), (1, .int x1), (2, .int x2), (3, .int x3)]) hx hb dX4_mayEnter_6 hl (by decide) rfl (fun ls hl => ?_)
  refine lv_aload_n hx hb dX4_mayEnter_8 rfl (lv_at hl 1 rfl) ?_
  refine va_get (D := D) (ci := 4) (v := .ref (ad 1)) (C := RX4) (T := TX4) (N := 16) hx hb hts hin_X4 hown hK.1 T.1 8 rfl rfl 4 (by decide) (hts _ (List.mem_of_getElem? (i := 1) rfl)) (fun _ h9 => h9) rfl dX4_mayEnter_9 ?_
  refine lv_aload_n hx hb dX4_mayEnter_12 rfl (lv_at hl 1 rfl) ?_
  refine va_get (D := D) (ci := 4) (v := .ref (ad 4)) (C := RX4) (T := TX4) (N := 16) hx hb hts hin_X4 hown hK.1 T.1 8 rfl rfl 7 (by decide) (hts _ (List.mem_of_getElem? (i := 2) rfl)) (fun _ h9 => h9) rfl dX4_mayEnter_13 ?_
  refine lv_iload_n hx hb dX4_mayEnter_16 rfl (lv_at hl 2 rfl) ?_
  obtain ⟨hin, hf⟩ := ck_inv hf
  refine va_iald hx hb hK.1 T.1 4 0 rfl rfl hin dX4_mayEnter_17 ?_
  obtain ⟨hin, hf⟩ := ck_inv hf
  refine va_iald hx hb hK.1 T.1 7 0 rfl rfl hin dX4_mayEnter_18 ?_
  refine lv_topi (fun v9 e_v9 => ?_)
  replace hf := nm_use hf e_v9
  refine lv_istore (lv' := [(5, .int v9), (4, .int v8), (0, .ref (ad 0)), (1, .int x1), (2, .int x2), (3, .int x3)]) hx hb dX4_mayEnter_19 hl (by decide) rfl (fun ls hl => ?_)
  refine lv_iload hx hb dX4_mayEnter_21 (lv_at hl 1 rfl) ?_
  refine lv_iconst (v := (-1)) hx hb dX4_mayEnter_23 (by decide) ?_
  refine lv_icmp_ne (tgt := 29) hx hb dX4_mayEnter_24 (by decide) (fun hc => ?_) (fun hc => ?_)
  · replace hf := ifn hc hf
    refine lv_iload hx hb dX4_mayEnter_29 (lv_at hl 1 rfl) ?_
    refine lv_iconst (v := 2) hx hb dX4_mayEnter_31 (by decide) ?_
    refine lv_idiv hx hb dX4_mayEnter_32 (by decide) ?_
    refine lv_aload_n hx hb dX4_mayEnter_33 rfl (lv_at hl 2 rfl) ?_
    refine va_get (D := D) (ci := 4) (v := .ref (ad 4)) (C := RX4) (T := TX4) (N := 16) hx hb hts hin_X4 hown hK.1 T.1 8 rfl rfl 7 (by decide) (hts _ (List.mem_of_getElem? (i := 2) rfl)) (fun _ h9 => h9) rfl dX4_mayEnter_34 ?_
    refine lv_iload_n hx hb dX4_mayEnter_37 rfl (lv_at hl 3 rfl) ?_
    obtain ⟨hin, hf⟩ := ck_inv hf
    refine va_iald hx hb hK.1 T.1 4 0 rfl rfl hin dX4_mayEnter_38 ?_
    refine lv_icmp_eq (tgt := 54) hx hb dX4_mayEnter_39 (by decide) (fun hc => ?_) (fun hc => ?_)
    · replace hf := ifp hc hf
      refine lv_iconst (v := 0) hx hb dX4_mayEnter_54 (by decide) ?_
      exact rf_z hf X T hr (Or.inl rfl) dX4_mayEnter_55
    · replace hf := ifn hc hf
      refine lv_iload hx hb dX4_mayEnter_42 (lv_at hl 0 rfl) ?_
      refine lv_iconst (v := 2) hx hb dX4_mayEnter_44 (by decide) ?_
      refine lv_icmp_eq (tgt := 56) hx hb dX4_mayEnter_45 (by decide) (fun hc => ?_) (fun hc => ?_)
      · replace hf := ifp hc hf
        exact j_56 x1 x2 x3 v9 _ _ _ hf T (lv_sub hl [2, 3, 4, 5, 0] rfl)
      · replace hf := ifn hc hf
        refine lv_iload hx hb dX4_mayEnter_48 (lv_at hl 0 rfl) ?_
        refine lv_iconst (v := 3) hx hb dX4_mayEnter_50 (by decide) ?_
        refine lv_icmp_eq (tgt := 56) hx hb dX4_mayEnter_51 (by decide) (fun hc => ?_) (fun hc => ?_)
        · replace hf := ifp hc hf
          exact j_56 x1 x2 x3 v9 _ _ _ hf T (lv_sub hl [2, 3, 4, 5, 0] rfl)
        · replace hf := ifn hc hf
          refine lv_iconst (v := 0) hx hb dX4_mayEnter_54 (by decide) ?_
          exact rf_z hf X T hr (Or.inl rfl) dX4_mayEnter_55
  · replace hf := ifp hc hf
    refine lv_iconst (v := 1) hx hb dX4_mayEnter_27 (by decide) ?_
    exact rf_z hf X T hr (Or.inr rfl) dX4_mayEnter_28
