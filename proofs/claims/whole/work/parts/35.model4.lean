noncomputable def fX4_keep_j100 (z1 : Int32) (z2 : Int32) (S_100 : SC) : Option SC :=
  ck z1 6000 <|
  nm (setA S_100 5 z1 z2 : SC) fun S1 =>
  some S1
noncomputable def fX4_keep_b36 : (Int32 × SC) → Option ((Int32 × SC) ⊕ SC) :=
  fun st => match st with
    | (y1, S_36) =>
      if (4 : Int32) ≤ y1 then
        ex <|
        ck 0 5 <|
        if S_36.2 4 (0 : Int32).toNatClampNeg = 0 then
          fX4_keep_j100 ((((30 : Int32) * (S_36.1 6)) + 30) - 1) 0 S_36
        else
          fX4_keep_j100 ((((30 : Int32) * (S_36.1 6)) + 30) - 1) 1 S_36
      else
        ck y1 20 <|
        ck ((((30 : Int32) * (S_36.1 6)) + 25) + y1) 6000 <|
        nm (setA S_36 5 ((((30 : Int32) * (S_36.1 6)) + 25) + y1) (S_36.2 2 y1.toNatClampNeg) : SC) fun S2 =>
        nm (y1 + 1 : Int32) fun v3 =>
        some (.inl (v3, S2))
noncomputable def fX4_keep_b2 : (Int32 × SC) → Option ((Int32 × SC) ⊕ SC) :=
  fun st => match st with
    | (y1, S_2) =>
      if (25 : Int32) ≤ y1 then
        ex <|
        loop (fX4_keep_b36) FUEL (0, S_2)
      else
        ck y1 125 <|
        ck (((30 : Int32) * (S_2.1 6)) + y1) 6000 <|
        nm (setA S_2 5 (((30 : Int32) * (S_2.1 6)) + y1) (S_2.2 1 y1.toNatClampNeg) : SC) fun S4 =>
        nm (y1 + 1 : Int32) fun v5 =>
        some (.inl (v5, S4))
noncomputable def fX4_keep (S : SC) : Option SC :=
  loop (fX4_keep_b2) FUEL (0, S)
set_option maxHeartbeats 4000000 in
set_option maxRecDepth 100000 in
theorem kX4_keep (l : Launch) (D : va_G) (cy : Nat → ClassId) (ad : Nat → Nat) (Xr : va_W) (S : SC) (r : SC) (hf : fX4_keep S = some r) : CG l D cy (wM cy ad Xr) yX4_keep wsX4_keep ({ frames := 0, cells := 0, slots := 0, locals := 0 } : Room) [.ref (ad 0)] S none r := by
  refine CG.of (cc := cX4_keep) (maxL := 2) (ret := none) (by decide +kernel) rfl (Nat.le_of_ble_eq_true rfl) ?_
  intro p e s m below meth c A ls X hr T hl
  obtain ⟨hx, hb, hml, hown, hts, hlk, hK, hA, hwA⟩ := id X
  have hl : lv_has ls 2 [(0, .ref (ad 0))] := hl
  have hin_X4 : ∀ w ∈ u_ws RX4 TX4 16, w ∈ wsX4_keep := fun w h => (List.mem_cons_of_mem _ (List.mem_append_right _ h))
  unfold fX4_keep at hf
  have j_100 : ∀ (z1 : Int32) (z2 : Int32) (S_100 : SC) (H : Heap) (locs : List Loc) (ls : Array Slot), fX4_keep_j100 z1 z2 S_100 = some r → ST D (wM cy ad Xr) A s S_100 H locs → lv_has ls 2 [] → W p l e ({ frames := 0, cells := 0, slots := 0, locals := 0 } : Room) s m [.ref (ad 0)].toArray below meth c H locs 0 0 (MQ below (QG D (wM cy ad Xr) A none r) [.ref (ad 0)].toArray s 0 0 A) (F0 m 100 ls [.int z2, .int z1, .ref (ad 6)]) := by
    intro z1 z2 S_100 H locs ls hf T hl
    unfold fX4_keep_j100 at hf
    obtain ⟨hin, hf⟩ := ck_inv hf
    obtain ⟨S1, e_S1, hf⟩ := nm_inv hf
    refine va_iast hx hb hK.1 T.1 T.2.1 T.2.2 2 0 rfl rfl hin dX4_keep_100 (fun H locs hP hD hS => ?_)
    have T : ST D (wM cy ad Xr) A s S1 H locs := ⟨by rw [e_S1]; exact hP, by rw [e_S1]; exact hD, hS⟩
    exact rf_vw hf X T hr dX4_keep_101
  have l_36 : ∀ (n : Nat) (y1 : Int32) (S_36 : SC) (H : Heap) (locs : List Loc) (ls : Array Slot), loop (fX4_keep_b36) n (y1, S_36) = some r → ST D (wM cy ad Xr) A s S_36 H locs → lv_has ls 2 [(0, .ref (ad 0)), (1, .int y1)] → W p l e ({ frames := 0, cells := 0, slots := 0, locals := 0 } : Room) s m [.ref (ad 0)].toArray below meth c H locs 0 0 (MQ below (QG D (wM cy ad Xr) A none r) [.ref (ad 0)].toArray s 0 0 A) (F0 m 36 ls []) := by
    intro n
    induction n with
    | zero => intro _ _ _ _ _ hf; cases hf
    | succ n ih_36 =>
      intro y1 S_36 H locs ls hf T hl
      obtain ⟨z_36, hf, hin_36, hex_36⟩ := loop_inv hf
      unfold fX4_keep_b36 at hf
      dsimp only at hf
      refine lv_iload_n hx hb dX4_keep_36 rfl (lv_at hl 1 rfl) ?_
      refine lv_iconst (v := 4) hx hb dX4_keep_37 (by decide) ?_
      refine lv_icmp_ge (tgt := 70) hx hb dX4_keep_38 (by decide) (fun hc => ?_) (fun hc => ?_)
      · replace hf := ifp hc hf
        obtain ⟨r0, hf, hz⟩ := ex_inv hf
        rw [hex_36 r0 hz] at hf
        refine lv_aload_n hx hb dX4_keep_70 rfl (lv_at hl 0 rfl) ?_
        refine va_get (D := D) (ci := 4) (v := .ref (ad 6)) (C := RX4) (T := TX4) (N := 16) hx hb hts hin_X4 hown hK.1 T.1 8 rfl rfl 11 (by decide) (hts _ (List.mem_of_getElem? (i := 1) rfl)) (fun _ h9 => h9) rfl dX4_keep_71 ?_
        refine lv_bipush (v := 30) hx hb dX4_keep_74 (by decide) ?_
        refine lv_aload_n hx hb dX4_keep_76 rfl (lv_at hl 0 rfl) ?_
        refine va_get (D := D) (ci := 4) (v := .int (S_36.1 6)) (C := RX4) (T := TX4) (N := 16) hx hb hts hin_X4 hown hK.1 T.1 8 rfl rfl 12 (by decide) (hts _ (List.mem_of_getElem? (i := 2) rfl)) (fun _ h9 => h9) rfl dX4_keep_77 ?_
        refine lv_imul hx hb dX4_keep_80 ?_
        refine lv_bipush (v := 30) hx hb dX4_keep_81 (by decide) ?_
        refine lv_iadd hx hb dX4_keep_83 ?_
        refine lv_iconst (v := 1) hx hb dX4_keep_84 (by decide) ?_
        refine lv_isub hx hb dX4_keep_85 ?_
        refine lv_aload_n hx hb dX4_keep_86 rfl (lv_at hl 0 rfl) ?_
        refine va_get (D := D) (ci := 4) (v := .ref (ad 5)) (C := RX4) (T := TX4) (N := 16) hx hb hts hin_X4 hown hK.1 T.1 8 rfl rfl 8 (by decide) (hts _ (List.mem_of_getElem? (i := 5) rfl)) (fun _ h9 => h9) rfl dX4_keep_87 ?_
        refine lv_iconst (v := 0) hx hb dX4_keep_90 (by decide) ?_
        obtain ⟨hin, hf⟩ := ck_inv hf
        refine va_zald hx hb hK.1 T.1 3 1 rfl rfl hin dX4_keep_91 ?_
        refine lv_if_eq (tgt := 99) hx hb dX4_keep_92 (by decide) (fun hc => ?_) (fun hc => ?_)
        · replace hf := ifp hc hf
          refine lv_iconst (v := 0) hx hb dX4_keep_99 (by decide) ?_
          exact j_100 ((((30 : Int32) * (S_36.1 6)) + 30) - 1) 0 S_36 _ _ _ hf T (lv_sub hl [] rfl)
        · replace hf := ifn hc hf
          refine lv_iconst (v := 1) hx hb dX4_keep_95 (by decide) ?_
          refine lv_goto (tgt := 100) hx hb dX4_keep_96 (by decide) ?_
          exact j_100 ((((30 : Int32) * (S_36.1 6)) + 30) - 1) 1 S_36 _ _ _ hf T (lv_sub hl [] rfl)
      · replace hf := ifn hc hf
        refine lv_aload_n hx hb dX4_keep_41 rfl (lv_at hl 0 rfl) ?_
        refine va_get (D := D) (ci := 4) (v := .ref (ad 6)) (C := RX4) (T := TX4) (N := 16) hx hb hts hin_X4 hown hK.1 T.1 8 rfl rfl 11 (by decide) (hts _ (List.mem_of_getElem? (i := 1) rfl)) (fun _ h9 => h9) rfl dX4_keep_42 ?_
        refine lv_bipush (v := 30) hx hb dX4_keep_45 (by decide) ?_
        refine lv_aload_n hx hb dX4_keep_47 rfl (lv_at hl 0 rfl) ?_
        refine va_get (D := D) (ci := 4) (v := .int (S_36.1 6)) (C := RX4) (T := TX4) (N := 16) hx hb hts hin_X4 hown hK.1 T.1 8 rfl rfl 12 (by decide) (hts _ (List.mem_of_getElem? (i := 2) rfl)) (fun _ h9 => h9) rfl dX4_keep_48 ?_
        refine lv_imul hx hb dX4_keep_51 ?_
        refine lv_bipush (v := 25) hx hb dX4_keep_52 (by decide) ?_
        refine lv_iadd hx hb dX4_keep_54 ?_
        refine lv_iload_n hx hb dX4_keep_55 rfl (lv_at hl 1 rfl) ?_
        refine lv_iadd hx hb dX4_keep_56 ?_
        refine lv_aload_n hx hb dX4_keep_57 rfl (lv_at hl 0 rfl) ?_
        refine va_get (D := D) (ci := 4) (v := .ref (ad 3)) (C := RX4) (T := TX4) (N := 16) hx hb hts hin_X4 hown hK.1 T.1 8 rfl rfl 6 (by decide) (hts _ (List.mem_of_getElem? (i := 4) rfl)) (fun _ h9 => h9) rfl dX4_keep_58 ?_
        refine lv_iload_n hx hb dX4_keep_61 rfl (lv_at hl 1 rfl) ?_
        obtain ⟨hin, hf⟩ := ck_inv hf
        refine va_iald hx hb hK.1 T.1 5 0 rfl rfl hin dX4_keep_62 ?_
        obtain ⟨hin, hf⟩ := ck_inv hf
        obtain ⟨S2, e_S2, hf⟩ := nm_inv hf
        refine va_iast hx hb hK.1 T.1 T.2.1 T.2.2 2 0 rfl rfl hin dX4_keep_63 (fun H locs hP hD hS => ?_)
        have T : ST D (wM cy ad Xr) A s S2 H locs := ⟨by rw [e_S2]; exact hP, by rw [e_S2]; exact hD, hS⟩
        obtain ⟨v3, e_v3, hf⟩ := nm_inv hf
        refine lv_iinc (v := v3) (lv' := [(1, .int v3), (0, .ref (ad 0))]) hx hb dX4_keep_64 hl (k := 1) rfl (by rw [e_v3]; rfl) (by decide) rfl (fun ls hl => ?_)
        refine lv_goto (tgt := 36) hx hb dX4_keep_67 (by decide) ?_
        exact ih_36 v3 S2 _ _ _ (hin_36 _ (Option.some.inj hf).symm) T (lv_sub hl [1, 0] rfl)
  have l_2 : ∀ (n : Nat) (y1 : Int32) (S_2 : SC) (H : Heap) (locs : List Loc) (ls : Array Slot), loop (fX4_keep_b2) n (y1, S_2) = some r → ST D (wM cy ad Xr) A s S_2 H locs → lv_has ls 2 [(0, .ref (ad 0)), (1, .int y1)] → W p l e ({ frames := 0, cells := 0, slots := 0, locals := 0 } : Room) s m [.ref (ad 0)].toArray below meth c H locs 0 0 (MQ below (QG D (wM cy ad Xr) A none r) [.ref (ad 0)].toArray s 0 0 A) (F0 m 2 ls []) := by
    intro n
    induction n with
    | zero => intro _ _ _ _ _ hf; cases hf
    | succ n ih_2 =>
      intro y1 S_2 H locs ls hf T hl
      obtain ⟨z_2, hf, hin_2, hex_2⟩ := loop_inv hf
      unfold fX4_keep_b2 at hf
      dsimp only at hf
      refine lv_iload_n hx hb dX4_keep_2 rfl (lv_at hl 1 rfl) ?_
      refine lv_bipush (v := 25) hx hb dX4_keep_3 (by decide) ?_
      refine lv_icmp_ge (tgt := 34) hx hb dX4_keep_5 (by decide) (fun hc => ?_) (fun hc => ?_)
      · replace hf := ifp hc hf
        obtain ⟨r0, hf, hz⟩ := ex_inv hf
        rw [hex_2 r0 hz] at hf
        refine lv_iconst (v := 0) hx hb dX4_keep_34 (by decide) ?_
        refine lv_istore_n (lv' := [(1, .int 0), (0, .ref (ad 0))]) hx hb dX4_keep_35 rfl hl (by decide) rfl (fun ls hl => ?_)
        exact l_36 FUEL 0 S_2 _ _ _ hf T (lv_sub hl [1, 0] rfl)
      · replace hf := ifn hc hf
        refine lv_aload_n hx hb dX4_keep_8 rfl (lv_at hl 0 rfl) ?_
        refine va_get (D := D) (ci := 4) (v := .ref (ad 6)) (C := RX4) (T := TX4) (N := 16) hx hb hts hin_X4 hown hK.1 T.1 8 rfl rfl 11 (by decide) (hts _ (List.mem_of_getElem? (i := 1) rfl)) (fun _ h9 => h9) rfl dX4_keep_9 ?_
        refine lv_bipush (v := 30) hx hb dX4_keep_12 (by decide) ?_
        refine lv_aload_n hx hb dX4_keep_14 rfl (lv_at hl 0 rfl) ?_
        refine va_get (D := D) (ci := 4) (v := .int (S_2.1 6)) (C := RX4) (T := TX4) (N := 16) hx hb hts hin_X4 hown hK.1 T.1 8 rfl rfl 12 (by decide) (hts _ (List.mem_of_getElem? (i := 2) rfl)) (fun _ h9 => h9) rfl dX4_keep_15 ?_
        refine lv_imul hx hb dX4_keep_18 ?_
        refine lv_iload_n hx hb dX4_keep_19 rfl (lv_at hl 1 rfl) ?_
        refine lv_iadd hx hb dX4_keep_20 ?_
        refine lv_aload_n hx hb dX4_keep_21 rfl (lv_at hl 0 rfl) ?_
        refine va_get (D := D) (ci := 4) (v := .ref (ad 2)) (C := RX4) (T := TX4) (N := 16) hx hb hts hin_X4 hown hK.1 T.1 8 rfl rfl 5 (by decide) (hts _ (List.mem_of_getElem? (i := 3) rfl)) (fun _ h9 => h9) rfl dX4_keep_22 ?_
        refine lv_iload_n hx hb dX4_keep_25 rfl (lv_at hl 1 rfl) ?_
        obtain ⟨hin, hf⟩ := ck_inv hf
        refine va_iald hx hb hK.1 T.1 6 0 rfl rfl hin dX4_keep_26 ?_
        obtain ⟨hin, hf⟩ := ck_inv hf
        obtain ⟨S4, e_S4, hf⟩ := nm_inv hf
        refine va_iast hx hb hK.1 T.1 T.2.1 T.2.2 2 0 rfl rfl hin dX4_keep_27 (fun H locs hP hD hS => ?_)
        have T : ST D (wM cy ad Xr) A s S4 H locs := ⟨by rw [e_S4]; exact hP, by rw [e_S4]; exact hD, hS⟩
        obtain ⟨v5, e_v5, hf⟩ := nm_inv hf
        refine lv_iinc (v := v5) (lv' := [(1, .int v5), (0, .ref (ad 0))]) hx hb dX4_keep_28 hl (k := 1) rfl (by rw [e_v5]; rfl) (by decide) rfl (fun ls hl => ?_)
        refine lv_goto (tgt := 2) hx hb dX4_keep_31 (by decide) ?_
        exact ih_2 v5 S4 _ _ _ (hin_2 _ (Option.some.inj hf).symm) T (lv_sub hl [1, 0] rfl)
  refine lv_iconst (v := 0) hx hb dX4_keep_0 (by decide) ?_
  refine lv_istore_n (lv' := [(1, .int 0), (0, .ref (ad 0))]) hx hb dX4_keep_1 rfl hl (by decide) rfl (fun ls hl => ?_)
  exact l_2 FUEL 0 S _ _ _ hf T (lv_sub hl [1, 0] rfl)

noncomputable def fX4_play_j87 (z1 : Int32) (S_87 : SC) : Option (Int32 × SC) :=
  nm (setS S_87 5 z1 : SC) fun S1 =>
  some (S1.1 5, S1)
noncomputable def fX4_play_j30 (y1 : Int32) (z1 : Int32) (S_30 : SC) : Option (Int32 × SC) :=
  bnd (fX4_goesWell S_30 z1) fun v3 =>
  if v3.1 = 0 then
    some (0, v3.2)
  else
    bnd (fX4_keep v3.2) fun S5 =>
    bnd (fX4_act S5 0 y1) fun S7 =>
    nm (setS S7 6 ((S7.1 6) + 1) : SC) fun S8 =>
    bnd (fX4_judge S8) fun S10 =>
    if y1 - y1 / 100 * 100 = 99 then
      ck 0 5 <|
      fX4_play_j87 ((1 : Int32) - (S10.2 3 (0 : Int32).toNatClampNeg)) S10
    else
      fX4_play_j87 (S10.1 5) S10
noncomputable def fX4_play_j29 (y1 : Int32) (S_29 : SC) : Option (Int32 × SC) :=
  fX4_play_j30 y1 1 S_29
noncomputable def fX4_play (S : SC) (x1 : Int32) : Option (Int32 × SC) :=
  bnd (fX4_isPlaced S) fun v12 =>
  if v12 = 0 then
    fX4_play_j29 x1 S
  else
    if S.1 5 = (-1) then
      bnd (fX4_isTurn S 0 x1) fun v14 =>
      if v14 = 0 then
        fX4_play_j29 x1 S
      else
        fX4_play_j30 x1 0 S
    else
      fX4_play_j29 x1 S
set_option maxHeartbeats 4000000 in
set_option maxRecDepth 100000 in
theorem kX4_play (l : Launch) (D : va_G) (cy : Nat → ClassId) (ad : Nat → Nat) (Xr : va_W) (S : SC) (x1 : Int32) (r : (Int32 × SC)) (hf : fX4_play S x1 = some r) : CG l D cy (wM cy ad Xr) yX4_play wsX4_play ({ frames := 7, cells := 0, slots := 0, locals := 172 } : Room) [.ref (ad 0), .int x1] S (some (.int r.1)) r.2 := by
  refine CG.of (cc := cX4_play) (maxL := 2) (ret := (some .int)) (by decide +kernel) rfl (Nat.le_of_ble_eq_true rfl) ?_
  intro p e s m below meth c A ls X hr T hl
  obtain ⟨hx, hb, hml, hown, hts, hlk, hK, hA, hwA⟩ := id X
  have hl : lv_has ls 2 [(0, .ref (ad 0)), (1, .int x1)] := hl
  have hin_X4 : ∀ w ∈ u_ws RX4 TX4 16, w ∈ wsX4_play := fun w h => (List.mem_cons_of_mem _ (List.mem_append_right _ h))
  unfold fX4_play at hf
  have j_87 : ∀ (z1 : Int32) (S_87 : SC) (H : Heap) (locs : List Loc) (ls : Array Slot), fX4_play_j87 z1 S_87 = some r → ST D (wM cy ad Xr) A s S_87 H locs → lv_has ls 2 [(0, .ref (ad 0))] → W p l e ({ frames := 7, cells := 0, slots := 0, locals := 172 } : Room) s m [.ref (ad 0), .int x1].toArray below meth c H locs 0 0 (MQ below (QG D (wM cy ad Xr) A (some (.int r.1)) r.2) [.ref (ad 0), .int x1].toArray s 0 0 A) (F0 m 87 ls [.int z1, .ref (ad 0)]) := by
    intro z1 S_87 H locs ls hf T hl
    unfold fX4_play_j87 at hf
    obtain ⟨S1, e_S1, hf⟩ := nm_inv hf
    refine va_put (D := D) (ci := 4) (v := .int z1) (ty := .int) (C := RX4) (T := TX4) (N := 16) hx hb hts hin_X4 tyX4 tyX4_ok nmX4 hown hK.1 T.1 T.2.1 T.2.2 8 rfl rfl 10 (by decide) (hts _ (List.mem_of_getElem? (i := 1) rfl)) (fun _ h9 => h9) rfl (by decide +kernel) rfl rfl (Nat.le_of_ble_eq_true rfl) dX4_play_87 (fun H locs hP hD hS => ?_)
    have T : ST D (wM cy ad Xr) A s S1 H locs := ⟨by rw [e_S1]; exact hP, by rw [e_S1]; exact hD, hS⟩
    refine lv_aload_n hx hb dX4_play_90 rfl (lv_at hl 0 rfl) ?_
    refine va_get (D := D) (ci := 4) (v := .int (S1.1 5)) (C := RX4) (T := TX4) (N := 16) hx hb hts hin_X4 hown hK.1 T.1 8 rfl rfl 10 (by decide) (hts _ (List.mem_of_getElem? (i := 1) rfl)) (fun _ h9 => h9) rfl dX4_play_91 ?_
    exact rf_iw hf X T hr dX4_play_94
  have j_30 : ∀ (y1 : Int32) (z1 : Int32) (S_30 : SC) (H : Heap) (locs : List Loc) (ls : Array Slot), fX4_play_j30 y1 z1 S_30 = some r → ST D (wM cy ad Xr) A s S_30 H locs → lv_has ls 2 [(0, .ref (ad 0)), (1, .int y1)] → W p l e ({ frames := 7, cells := 0, slots := 0, locals := 172 } : Room) s m [.ref (ad 0), .int x1].toArray below meth c H locs 0 0 (MQ below (QG D (wM cy ad Xr) A (some (.int r.1)) r.2) [.ref (ad 0), .int x1].toArray s 0 0 A) (F0 m 30 ls [.int z1, .ref (ad 0)]) := by
    intro y1 z1 S_30 H locs ls hf T hl
    unfold fX4_play_j30 at hf
    obtain ⟨v3, h2, hf⟩ := bnd_inv hf
    refine cg_V (q0 := 8) (ci := 4) (As := [.int z1]) (rest := []) X T (kX4_goesWell l D cy ad Xr S_30 z1 v3 h2) (cwV 1 hts gX4_play_X4_goesWell rfl rfl rfl (by decide +kernel) ⟨Nat.le_of_ble_eq_true rfl, Nat.le_of_ble_eq_true rfl⟩) rfl rfl rfl hl.1 rfl (Nat.le_of_ble_eq_true rfl) dX4_play_30 ⟨Nat.zero_le _, Nat.zero_le _⟩ (st2 := [.int v3.1]) (pc2 := 33) rfl rfl (fun H locs T => ?_)
    refine lv_if_ne (tgt := 38) hx hb dX4_play_33 (by decide) (fun hc => ?_) (fun hc => ?_)
    · replace hf := ifn hc hf
      refine lv_aload_n hx hb dX4_play_38 rfl (lv_at hl 0 rfl) ?_
      obtain ⟨S5, h4, hf⟩ := bnd_inv hf
      refine cg_V (q0 := 8) (ci := 4) (As := []) (rest := []) X T (kX4_keep l D cy ad Xr v3.2 S5 h4) (cwV 0 hts gX4_play_X4_keep rfl rfl rfl (by decide +kernel) ⟨Nat.le_of_ble_eq_true rfl, Nat.le_of_ble_eq_true rfl⟩) rfl rfl rfl hl.1 rfl (Nat.le_of_ble_eq_true rfl) dX4_play_39 ⟨Nat.zero_le _, Nat.zero_le _⟩ (st2 := []) (pc2 := 42) rfl rfl (fun H locs T => ?_)
      refine lv_aload_n hx hb dX4_play_42 rfl (lv_at hl 0 rfl) ?_
      refine lv_iconst (v := 0) hx hb dX4_play_43 (by decide) ?_
      refine lv_iload_n hx hb dX4_play_44 rfl (lv_at hl 1 rfl) ?_
      obtain ⟨S7, h6, hf⟩ := bnd_inv hf
      refine cg_V (q0 := 8) (ci := 4) (As := [.int 0, .int y1]) (rest := []) X T (kX4_act l D cy ad Xr S5 0 y1 S7 h6) (cwV 2 hts gX4_play_X4_act rfl rfl rfl (by decide +kernel) ⟨Nat.le_of_ble_eq_true rfl, Nat.le_of_ble_eq_true rfl⟩) rfl rfl rfl hl.1 rfl (Nat.le_of_ble_eq_true rfl) dX4_play_45 ⟨Nat.zero_le _, Nat.zero_le _⟩ (st2 := []) (pc2 := 48) rfl rfl (fun H locs T => ?_)
      refine lv_aload_n hx hb dX4_play_48 rfl (lv_at hl 0 rfl) ?_
      refine lv_dup hx hb dX4_play_49 rfl ?_
      refine va_get (D := D) (ci := 4) (v := .int (S7.1 6)) (C := RX4) (T := TX4) (N := 16) hx hb hts hin_X4 hown hK.1 T.1 8 rfl rfl 12 (by decide) (hts _ (List.mem_of_getElem? (i := 2) rfl)) (fun _ h9 => h9) rfl dX4_play_50 ?_
      refine lv_iconst (v := 1) hx hb dX4_play_53 (by decide) ?_
      refine lv_iadd hx hb dX4_play_54 ?_
      obtain ⟨S8, e_S8, hf⟩ := nm_inv hf
      refine va_put (D := D) (ci := 4) (v := .int ((S7.1 6) + 1)) (ty := .int) (C := RX4) (T := TX4) (N := 16) hx hb hts hin_X4 tyX4 tyX4_ok nmX4 hown hK.1 T.1 T.2.1 T.2.2 8 rfl rfl 12 (by decide) (hts _ (List.mem_of_getElem? (i := 2) rfl)) (fun _ h9 => h9) rfl (by decide +kernel) rfl rfl (Nat.le_of_ble_eq_true rfl) dX4_play_55 (fun H locs hP hD hS => ?_)
      have T : ST D (wM cy ad Xr) A s S8 H locs := ⟨by rw [e_S8]; exact hP, by rw [e_S8]; exact hD, hS⟩
      refine lv_aload_n hx hb dX4_play_58 rfl (lv_at hl 0 rfl) ?_
      obtain ⟨S10, h9, hf⟩ := bnd_inv hf
      refine cg_V (q0 := 8) (ci := 4) (As := []) (rest := []) X T (kX4_judge l D cy ad Xr S8 S10 h9) (cwV 0 hts gX4_play_X4_judge rfl rfl rfl (by decide +kernel) ⟨Nat.le_of_ble_eq_true rfl, Nat.le_of_ble_eq_true rfl⟩) rfl rfl rfl hl.1 rfl (Nat.le_of_ble_eq_true rfl) dX4_play_59 ⟨Nat.zero_le _, Nat.zero_le _⟩ (st2 := []) (pc2 := 62) rfl rfl (fun H locs T => ?_)
      refine lv_aload_n hx hb dX4_play_62 rfl (lv_at hl 0 rfl) ?_
      refine lv_iload_n hx hb dX4_play_63 rfl (lv_at hl 1 rfl) ?_
      refine lv_bipush (v := 100) hx hb dX4_play_64 (by decide) ?_
      refine lv_irem hx hb dX4_play_66 (by decide) ?_
      refine lv_bipush (v := 99) hx hb dX4_play_67 (by decide) ?_
      refine lv_icmp_ne (tgt := 83) hx hb dX4_play_69 (by decide) (fun hc => ?_) (fun hc => ?_)
      · replace hf := ifn hc hf
        refine lv_aload_n hx hb dX4_play_83 rfl (lv_at hl 0 rfl) ?_
        refine va_get (D := D) (ci := 4) (v := .int (S10.1 5)) (C := RX4) (T := TX4) (N := 16) hx hb hts hin_X4 hown hK.1 T.1 8 rfl rfl 10 (by decide) (hts _ (List.mem_of_getElem? (i := 1) rfl)) (fun _ h9 => h9) rfl dX4_play_84 ?_
        exact j_87 (S10.1 5) S10 _ _ _ hf T (lv_sub hl [0] rfl)
      · replace hf := ifp hc hf
        refine lv_iconst (v := 1) hx hb dX4_play_72 (by decide) ?_
        refine lv_aload_n hx hb dX4_play_73 rfl (lv_at hl 0 rfl) ?_
        refine va_get (D := D) (ci := 4) (v := .ref (ad 4)) (C := RX4) (T := TX4) (N := 16) hx hb hts hin_X4 hown hK.1 T.1 8 rfl rfl 7 (by decide) (hts _ (List.mem_of_getElem? (i := 3) rfl)) (fun _ h9 => h9) rfl dX4_play_74 ?_
        refine lv_iconst (v := 0) hx hb dX4_play_77 (by decide) ?_
        obtain ⟨hin, hf⟩ := ck_inv hf
        refine va_iald hx hb hK.1 T.1 4 0 rfl rfl hin dX4_play_78 ?_
        refine lv_isub hx hb dX4_play_79 ?_
        refine lv_goto (tgt := 87) hx hb dX4_play_80 (by decide) ?_
        exact j_87 ((1 : Int32) - (S10.2 3 (0 : Int32).toNatClampNeg)) S10 _ _ _ hf T (lv_sub hl [0] rfl)
    · replace hf := ifp hc hf
      refine lv_iconst (v := 0) hx hb dX4_play_36 (by decide) ?_
      exact rf_iw hf X T hr dX4_play_37
  have j_29 : ∀ (y1 : Int32) (S_29 : SC) (H : Heap) (locs : List Loc) (ls : Array Slot), fX4_play_j29 y1 S_29 = some r → ST D (wM cy ad Xr) A s S_29 H locs → lv_has ls 2 [(0, .ref (ad 0)), (1, .int y1)] → W p l e ({ frames := 7, cells := 0, slots := 0, locals := 172 } : Room) s m [.ref (ad 0), .int x1].toArray below meth c H locs 0 0 (MQ below (QG D (wM cy ad Xr) A (some (.int r.1)) r.2) [.ref (ad 0), .int x1].toArray s 0 0 A) (F0 m 29 ls [.ref (ad 0)]) := by
    intro y1 S_29 H locs ls hf T hl
    unfold fX4_play_j29 at hf
    refine lv_iconst (v := 1) hx hb dX4_play_29 (by decide) ?_
    exact j_30 y1 1 S_29 _ _ _ hf T (lv_sub hl [0, 1] rfl)
  refine lv_aload_n hx hb dX4_play_0 rfl (lv_at hl 0 rfl) ?_
  refine lv_aload_n hx hb dX4_play_1 rfl (lv_at hl 0 rfl) ?_
  obtain ⟨v12, h11, hf⟩ := bnd_inv hf
  refine cg_V (q0 := 8) (ci := 4) (As := []) (rest := [.ref (ad 0)]) X T (kX4_isPlaced l D cy ad Xr S v12 h11) (cwV 0 hts gX4_play_X4_isPlaced rfl rfl rfl (by decide +kernel) ⟨Nat.le_of_ble_eq_true rfl, Nat.le_of_ble_eq_true rfl⟩) rfl rfl rfl hl.1 rfl (Nat.le_of_ble_eq_true rfl) dX4_play_2 ⟨Nat.zero_le _, Nat.zero_le _⟩ (st2 := [.int v12, .ref (ad 0)]) (pc2 := 5) rfl rfl (fun H locs T => ?_)
  refine lv_if_eq (tgt := 29) hx hb dX4_play_5 (by decide) (fun hc => ?_) (fun hc => ?_)
  · replace hf := ifp hc hf
    exact j_29 x1 S _ _ _ hf T (lv_sub hl [0, 1] rfl)
  · replace hf := ifn hc hf
    refine lv_aload_n hx hb dX4_play_8 rfl (lv_at hl 0 rfl) ?_
    refine va_get (D := D) (ci := 4) (v := .int (S.1 5)) (C := RX4) (T := TX4) (N := 16) hx hb hts hin_X4 hown hK.1 T.1 8 rfl rfl 10 (by decide) (hts _ (List.mem_of_getElem? (i := 1) rfl)) (fun _ h9 => h9) rfl dX4_play_9 ?_
    refine lv_iconst (v := (-1)) hx hb dX4_play_12 (by decide) ?_
    refine lv_icmp_ne (tgt := 29) hx hb dX4_play_13 (by decide) (fun hc => ?_) (fun hc => ?_)
    · replace hf := ifn hc hf
      exact j_29 x1 S _ _ _ hf T (lv_sub hl [0, 1] rfl)
    · replace hf := ifp hc hf
      refine lv_aload_n hx hb dX4_play_16 rfl (lv_at hl 0 rfl) ?_
      refine lv_iconst (v := 0) hx hb dX4_play_17 (by decide) ?_
      refine lv_iload_n hx hb dX4_play_18 rfl (lv_at hl 1 rfl) ?_
      obtain ⟨v14, h13, hf⟩ := bnd_inv hf
      refine cg_V (q0 := 8) (ci := 4) (As := [.int 0, .int x1]) (rest := [.ref (ad 0)]) X T (kX4_isTurn l D cy ad Xr S 0 x1 v14 h13) (cwV 2 hts gX4_play_X4_isTurn rfl rfl rfl (by decide +kernel) ⟨Nat.le_of_ble_eq_true rfl, Nat.le_of_ble_eq_true rfl⟩) rfl rfl rfl hl.1 rfl (Nat.le_of_ble_eq_true rfl) dX4_play_19 ⟨Nat.zero_le _, Nat.zero_le _⟩ (st2 := [.int v14, .ref (ad 0)]) (pc2 := 22) rfl rfl (fun H locs T => ?_)
      refine lv_if_eq (tgt := 29) hx hb dX4_play_22 (by decide) (fun hc => ?_) (fun hc => ?_)
      · replace hf := ifp hc hf
        exact j_29 x1 S _ _ _ hf T (lv_sub hl [0, 1] rfl)
      · replace hf := ifn hc hf
        refine lv_iconst (v := 0) hx hb dX4_play_25 (by decide) ?_
        refine lv_goto (tgt := 30) hx hb dX4_play_26 (by decide) ?_
        exact j_30 x1 0 S _ _ _ hf T (lv_sub hl [0, 1] rfl)

noncomputable def fX4_takeBack_j132 (z1 : Int32) (z2 : Int32) (S_132 : SC) : Option (Int32 × SC) :=
  ck z1 5 <|
  nm (setA S_132 4 z1 (vp_nar .boolean z2) : SC) fun S1 =>
  ck 0 5 <|
  ck 0 5 <|
  nm (setA S1 3 0 ((1 : Int32) - (S1.2 3 (0 : Int32).toNatClampNeg)) : SC) fun S2 =>
  nm (setS S2 5 (-1) : SC) fun S3 =>
  some (S3.1 6, S3)
noncomputable def fX4_takeBack_b67 : (Int32 × SC) → Option ((Int32 × SC) ⊕ (Int32 × SC)) :=
  fun st => match st with
    | (y1, S_67) =>
      if (4 : Int32) ≤ y1 then
        ex <|
        ck ((((30 : Int32) * (S_67.1 6)) + 30) - 1) 6000 <|
        if S_67.2 5 ((((30 : Int32) * (S_67.1 6)) + 30) - 1).toNatClampNeg = 1 then
          fX4_takeBack_j132 0 1 S_67
        else
          fX4_takeBack_j132 0 0 S_67
      else
        ck ((((30 : Int32) * (S_67.1 6)) + 25) + y1) 6000 <|
        ck y1 20 <|
        nm (setA S_67 2 y1 (S_67.2 5 ((((30 : Int32) * (S_67.1 6)) + 25) + y1).toNatClampNeg) : SC) fun S4 =>
        nm (y1 + 1 : Int32) fun v5 =>
        some (.inl (v5, S4))
noncomputable def fX4_takeBack_b33 : (Int32 × SC) → Option ((Int32 × SC) ⊕ (Int32 × SC)) :=
  fun st => match st with
    | (y1, S_33) =>
      if (25 : Int32) ≤ y1 then
        ex <|
        loop (fX4_takeBack_b67) FUEL (0, S_33)
      else
        ck (((30 : Int32) * (S_33.1 6)) + y1) 6000 <|
        ck y1 125 <|
        nm (setA S_33 1 y1 (S_33.2 5 (((30 : Int32) * (S_33.1 6)) + y1).toNatClampNeg) : SC) fun S6 =>
        nm (y1 + 1 : Int32) fun v7 =>
        some (.inl (v7, S6))
noncomputable def fX4_takeBack_j13 (z1 : Int32) (S_13 : SC) : Option (Int32 × SC) :=
  bnd (fX4_goesWell S_13 z1) fun v9 =>
  if v9.1 = 0 then
    some (0, v9.2)
  else
    nm (setS v9.2 6 ((v9.2.1 6) - 1) : SC) fun S10 =>
    loop (fX4_takeBack_b33) FUEL (0, S10)
noncomputable def fX4_takeBack (S : SC) : Option (Int32 × SC) :=
  if S.1 6 = 0 then
    fX4_takeBack_j13 1 S
  else
    fX4_takeBack_j13 0 S
set_option maxHeartbeats 4000000 in
set_option maxRecDepth 100000 in
theorem kX4_takeBack (l : Launch) (D : va_G) (cy : Nat → ClassId) (ad : Nat → Nat) (Xr : va_W) (S : SC) (r : (Int32 × SC)) (hf : fX4_takeBack S = some r) : CG l D cy (wM cy ad Xr) yX4_takeBack wsX4_takeBack ({ frames := 1, cells := 0, slots := 0, locals := 21 } : Room) [.ref (ad 0)] S (some (.int r.1)) r.2 := by
  refine CG.of (cc := cX4_takeBack) (maxL := 2) (ret := (some .int)) (by decide +kernel) rfl (Nat.le_of_ble_eq_true rfl) ?_
  intro p e s m below meth c A ls X hr T hl
  obtain ⟨hx, hb, hml, hown, hts, hlk, hK, hA, hwA⟩ := id X
  have hl : lv_has ls 2 [(0, .ref (ad 0))] := hl
  have hin_X4 : ∀ w ∈ u_ws RX4 TX4 16, w ∈ wsX4_takeBack := fun w h => (List.mem_cons_of_mem _ (List.mem_append_right _ h))
  unfold fX4_takeBack at hf
  have j_132 : ∀ (z1 : Int32) (z2 : Int32) (S_132 : SC) (H : Heap) (locs : List Loc) (ls : Array Slot), fX4_takeBack_j132 z1 z2 S_132 = some r → ST D (wM cy ad Xr) A s S_132 H locs → lv_has ls 2 [(0, .ref (ad 0))] → W p l e ({ frames := 1, cells := 0, slots := 0, locals := 21 } : Room) s m [.ref (ad 0)].toArray below meth c H locs 0 0 (MQ below (QG D (wM cy ad Xr) A (some (.int r.1)) r.2) [.ref (ad 0)].toArray s 0 0 A) (F0 m 132 ls [.int z2, .int z1, .ref (ad 5)]) := by
    intro z1 z2 S_132 H locs ls hf T hl
    unfold fX4_takeBack_j132 at hf
    obtain ⟨hin, hf⟩ := ck_inv hf
    obtain ⟨S1, e_S1, hf⟩ := nm_inv hf
    refine va_zast hx hb hK.1 T.1 T.2.1 T.2.2 3 1 rfl rfl hin dX4_takeBack_132 (fun H locs hP hD hS => ?_)
    have T : ST D (wM cy ad Xr) A s S1 H locs := ⟨by rw [e_S1]; exact hP, by rw [e_S1]; exact hD, hS⟩
    refine lv_aload_n hx hb dX4_takeBack_133 rfl (lv_at hl 0 rfl) ?_
    refine va_get (D := D) (ci := 4) (v := .ref (ad 4)) (C := RX4) (T := TX4) (N := 16) hx hb hts hin_X4 hown hK.1 T.1 8 rfl rfl 7 (by decide) (hts _ (List.mem_of_getElem? (i := 6) rfl)) (fun _ h9 => h9) rfl dX4_takeBack_134 ?_
    refine lv_iconst (v := 0) hx hb dX4_takeBack_137 (by decide) ?_
    refine lv_iconst (v := 1) hx hb dX4_takeBack_138 (by decide) ?_
    refine lv_aload_n hx hb dX4_takeBack_139 rfl (lv_at hl 0 rfl) ?_
    refine va_get (D := D) (ci := 4) (v := .ref (ad 4)) (C := RX4) (T := TX4) (N := 16) hx hb hts hin_X4 hown hK.1 T.1 8 rfl rfl 7 (by decide) (hts _ (List.mem_of_getElem? (i := 6) rfl)) (fun _ h9 => h9) rfl dX4_takeBack_140 ?_
    refine lv_iconst (v := 0) hx hb dX4_takeBack_143 (by decide) ?_
    obtain ⟨hin, hf⟩ := ck_inv hf
    refine va_iald hx hb hK.1 T.1 4 0 rfl rfl hin dX4_takeBack_144 ?_
    refine lv_isub hx hb dX4_takeBack_145 ?_
    obtain ⟨hin, hf⟩ := ck_inv hf
    obtain ⟨S2, e_S2, hf⟩ := nm_inv hf
    refine va_iast hx hb hK.1 T.1 T.2.1 T.2.2 4 0 rfl rfl hin dX4_takeBack_146 (fun H locs hP hD hS => ?_)
    have T : ST D (wM cy ad Xr) A s S2 H locs := ⟨by rw [e_S2]; exact hP, by rw [e_S2]; exact hD, hS⟩
    refine lv_aload_n hx hb dX4_takeBack_147 rfl (lv_at hl 0 rfl) ?_
    refine lv_iconst (v := (-1)) hx hb dX4_takeBack_148 (by decide) ?_
    obtain ⟨S3, e_S3, hf⟩ := nm_inv hf
    refine va_put (D := D) (ci := 4) (v := .int (-1)) (ty := .int) (C := RX4) (T := TX4) (N := 16) hx hb hts hin_X4 tyX4 tyX4_ok nmX4 hown hK.1 T.1 T.2.1 T.2.2 8 rfl rfl 10 (by decide) (hts _ (List.mem_of_getElem? (i := 7) rfl)) (fun _ h9 => h9) rfl (by decide +kernel) rfl rfl (Nat.le_of_ble_eq_true rfl) dX4_takeBack_149 (fun H locs hP hD hS => ?_)
    have T : ST D (wM cy ad Xr) A s S3 H locs := ⟨by rw [e_S3]; exact hP, by rw [e_S3]; exact hD, hS⟩
    refine lv_aload_n hx hb dX4_takeBack_152 rfl (lv_at hl 0 rfl) ?_
    refine va_get (D := D) (ci := 4) (v := .int (S3.1 6)) (C := RX4) (T := TX4) (N := 16) hx hb hts hin_X4 hown hK.1 T.1 8 rfl rfl 12 (by decide) (hts _ (List.mem_of_getElem? (i := 1) rfl)) (fun _ h9 => h9) rfl dX4_takeBack_153 ?_
    exact rf_iw hf X T hr dX4_takeBack_156
  have l_67 : ∀ (n : Nat) (y1 : Int32) (S_67 : SC) (H : Heap) (locs : List Loc) (ls : Array Slot), loop (fX4_takeBack_b67) n (y1, S_67) = some r → ST D (wM cy ad Xr) A s S_67 H locs → lv_has ls 2 [(0, .ref (ad 0)), (1, .int y1)] → W p l e ({ frames := 1, cells := 0, slots := 0, locals := 21 } : Room) s m [.ref (ad 0)].toArray below meth c H locs 0 0 (MQ below (QG D (wM cy ad Xr) A (some (.int r.1)) r.2) [.ref (ad 0)].toArray s 0 0 A) (F0 m 67 ls []) := by
    intro n
    induction n with
    | zero => intro _ _ _ _ _ hf; cases hf
    | succ n ih_67 =>
      intro y1 S_67 H locs ls hf T hl
      obtain ⟨z_67, hf, hin_67, hex_67⟩ := loop_inv hf
      unfold fX4_takeBack_b67 at hf
      dsimp only at hf
      refine lv_iload_n hx hb dX4_takeBack_67 rfl (lv_at hl 1 rfl) ?_
      refine lv_iconst (v := 4) hx hb dX4_takeBack_68 (by decide) ?_
      refine lv_icmp_ge (tgt := 101) hx hb dX4_takeBack_69 (by decide) (fun hc => ?_) (fun hc => ?_)
      · replace hf := ifp hc hf
        obtain ⟨r0, hf, hz⟩ := ex_inv hf
        rw [hex_67 r0 hz] at hf
        refine lv_aload_n hx hb dX4_takeBack_101 rfl (lv_at hl 0 rfl) ?_
        refine va_get (D := D) (ci := 4) (v := .ref (ad 5)) (C := RX4) (T := TX4) (N := 16) hx hb hts hin_X4 hown hK.1 T.1 8 rfl rfl 8 (by decide) (hts _ (List.mem_of_getElem? (i := 5) rfl)) (fun _ h9 => h9) rfl dX4_takeBack_102 ?_
        refine lv_iconst (v := 0) hx hb dX4_takeBack_105 (by decide) ?_
        refine lv_aload_n hx hb dX4_takeBack_106 rfl (lv_at hl 0 rfl) ?_
        refine va_get (D := D) (ci := 4) (v := .ref (ad 6)) (C := RX4) (T := TX4) (N := 16) hx hb hts hin_X4 hown hK.1 T.1 8 rfl rfl 11 (by decide) (hts _ (List.mem_of_getElem? (i := 3) rfl)) (fun _ h9 => h9) rfl dX4_takeBack_107 ?_
        refine lv_bipush (v := 30) hx hb dX4_takeBack_110 (by decide) ?_
        refine lv_aload_n hx hb dX4_takeBack_112 rfl (lv_at hl 0 rfl) ?_
        refine va_get (D := D) (ci := 4) (v := .int (S_67.1 6)) (C := RX4) (T := TX4) (N := 16) hx hb hts hin_X4 hown hK.1 T.1 8 rfl rfl 12 (by decide) (hts _ (List.mem_of_getElem? (i := 1) rfl)) (fun _ h9 => h9) rfl dX4_takeBack_113 ?_
        refine lv_imul hx hb dX4_takeBack_116 ?_
        refine lv_bipush (v := 30) hx hb dX4_takeBack_117 (by decide) ?_
        refine lv_iadd hx hb dX4_takeBack_119 ?_
        refine lv_iconst (v := 1) hx hb dX4_takeBack_120 (by decide) ?_
        refine lv_isub hx hb dX4_takeBack_121 ?_
        obtain ⟨hin, hf⟩ := ck_inv hf
        refine va_iald hx hb hK.1 T.1 2 0 rfl rfl hin dX4_takeBack_122 ?_
        refine lv_iconst (v := 1) hx hb dX4_takeBack_123 (by decide) ?_
        refine lv_icmp_ne (tgt := 131) hx hb dX4_takeBack_124 (by decide) (fun hc => ?_) (fun hc => ?_)
        · replace hf := ifn hc hf
          refine lv_iconst (v := 0) hx hb dX4_takeBack_131 (by decide) ?_
          exact j_132 0 0 S_67 _ _ _ hf T (lv_sub hl [0] rfl)
        · replace hf := ifp hc hf
          refine lv_iconst (v := 1) hx hb dX4_takeBack_127 (by decide) ?_
          refine lv_goto (tgt := 132) hx hb dX4_takeBack_128 (by decide) ?_
          exact j_132 0 1 S_67 _ _ _ hf T (lv_sub hl [0] rfl)
      · replace hf := ifn hc hf
        refine lv_aload_n hx hb dX4_takeBack_72 rfl (lv_at hl 0 rfl) ?_
        refine va_get (D := D) (ci := 4) (v := .ref (ad 3)) (C := RX4) (T := TX4) (N := 16) hx hb hts hin_X4 hown hK.1 T.1 8 rfl rfl 6 (by decide) (hts _ (List.mem_of_getElem? (i := 4) rfl)) (fun _ h9 => h9) rfl dX4_takeBack_73 ?_
        refine lv_iload_n hx hb dX4_takeBack_76 rfl (lv_at hl 1 rfl) ?_
        refine lv_aload_n hx hb dX4_takeBack_77 rfl (lv_at hl 0 rfl) ?_
        refine va_get (D := D) (ci := 4) (v := .ref (ad 6)) (C := RX4) (T := TX4) (N := 16) hx hb hts hin_X4 hown hK.1 T.1 8 rfl rfl 11 (by decide) (hts _ (List.mem_of_getElem? (i := 3) rfl)) (fun _ h9 => h9) rfl dX4_takeBack_78 ?_
        refine lv_bipush (v := 30) hx hb dX4_takeBack_81 (by decide) ?_
        refine lv_aload_n hx hb dX4_takeBack_83 rfl (lv_at hl 0 rfl) ?_
        refine va_get (D := D) (ci := 4) (v := .int (S_67.1 6)) (C := RX4) (T := TX4) (N := 16) hx hb hts hin_X4 hown hK.1 T.1 8 rfl rfl 12 (by decide) (hts _ (List.mem_of_getElem? (i := 1) rfl)) (fun _ h9 => h9) rfl dX4_takeBack_84 ?_
        refine lv_imul hx hb dX4_takeBack_87 ?_
        refine lv_bipush (v := 25) hx hb dX4_takeBack_88 (by decide) ?_
        refine lv_iadd hx hb dX4_takeBack_90 ?_
        refine lv_iload_n hx hb dX4_takeBack_91 rfl (lv_at hl 1 rfl) ?_
        refine lv_iadd hx hb dX4_takeBack_92 ?_
        obtain ⟨hin, hf⟩ := ck_inv hf
        refine va_iald hx hb hK.1 T.1 2 0 rfl rfl hin dX4_takeBack_93 ?_
        obtain ⟨hin, hf⟩ := ck_inv hf
        obtain ⟨S4, e_S4, hf⟩ := nm_inv hf
        refine va_iast hx hb hK.1 T.1 T.2.1 T.2.2 5 0 rfl rfl hin dX4_takeBack_94 (fun H locs hP hD hS => ?_)
        have T : ST D (wM cy ad Xr) A s S4 H locs := ⟨by rw [e_S4]; exact hP, by rw [e_S4]; exact hD, hS⟩
        obtain ⟨v5, e_v5, hf⟩ := nm_inv hf
        refine lv_iinc (v := v5) (lv' := [(1, .int v5), (0, .ref (ad 0))]) hx hb dX4_takeBack_95 hl (k := 1) rfl (by rw [e_v5]; rfl) (by decide) rfl (fun ls hl => ?_)
        refine lv_goto (tgt := 67) hx hb dX4_takeBack_98 (by decide) ?_
        exact ih_67 v5 S4 _ _ _ (hin_67 _ (Option.some.inj hf).symm) T (lv_sub hl [1, 0] rfl)
  have l_33 : ∀ (n : Nat) (y1 : Int32) (S_33 : SC) (H : Heap) (locs : List Loc) (ls : Array Slot), loop (fX4_takeBack_b33) n (y1, S_33) = some r → ST D (wM cy ad Xr) A s S_33 H locs → lv_has ls 2 [(0, .ref (ad 0)), (1, .int y1)] → W p l e ({ frames := 1, cells := 0, slots := 0, locals := 21 } : Room) s m [.ref (ad 0)].toArray below meth c H locs 0 0 (MQ below (QG D (wM cy ad Xr) A (some (.int r.1)) r.2) [.ref (ad 0)].toArray s 0 0 A) (F0 m 33 ls []) := by
    intro n
    induction n with
    | zero => intro _ _ _ _ _ hf; cases hf
    | succ n ih_33 =>
      intro y1 S_33 H locs ls hf T hl
      obtain ⟨z_33, hf, hin_33, hex_33⟩ := loop_inv hf
      unfold fX4_takeBack_b33 at hf
      dsimp only at hf
      refine lv_iload_n hx hb dX4_takeBack_33 rfl (lv_at hl 1 rfl) ?_
      refine lv_bipush (v := 25) hx hb dX4_takeBack_34 (by decide) ?_
      refine lv_icmp_ge (tgt := 65) hx hb dX4_takeBack_36 (by decide) (fun hc => ?_) (fun hc => ?_)
      · replace hf := ifp hc hf
        obtain ⟨r0, hf, hz⟩ := ex_inv hf
        rw [hex_33 r0 hz] at hf
        refine lv_iconst (v := 0) hx hb dX4_takeBack_65 (by decide) ?_
        refine lv_istore_n (lv' := [(1, .int 0), (0, .ref (ad 0))]) hx hb dX4_takeBack_66 rfl hl (by decide) rfl (fun ls hl => ?_)
        exact l_67 FUEL 0 S_33 _ _ _ hf T (lv_sub hl [1, 0] rfl)
      · replace hf := ifn hc hf
        refine lv_aload_n hx hb dX4_takeBack_39 rfl (lv_at hl 0 rfl) ?_
        refine va_get (D := D) (ci := 4) (v := .ref (ad 2)) (C := RX4) (T := TX4) (N := 16) hx hb hts hin_X4 hown hK.1 T.1 8 rfl rfl 5 (by decide) (hts _ (List.mem_of_getElem? (i := 2) rfl)) (fun _ h9 => h9) rfl dX4_takeBack_40 ?_
        refine lv_iload_n hx hb dX4_takeBack_43 rfl (lv_at hl 1 rfl) ?_
        refine lv_aload_n hx hb dX4_takeBack_44 rfl (lv_at hl 0 rfl) ?_
        refine va_get (D := D) (ci := 4) (v := .ref (ad 6)) (C := RX4) (T := TX4) (N := 16) hx hb hts hin_X4 hown hK.1 T.1 8 rfl rfl 11 (by decide) (hts _ (List.mem_of_getElem? (i := 3) rfl)) (fun _ h9 => h9) rfl dX4_takeBack_45 ?_
        refine lv_bipush (v := 30) hx hb dX4_takeBack_48 (by decide) ?_
        refine lv_aload_n hx hb dX4_takeBack_50 rfl (lv_at hl 0 rfl) ?_
        refine va_get (D := D) (ci := 4) (v := .int (S_33.1 6)) (C := RX4) (T := TX4) (N := 16) hx hb hts hin_X4 hown hK.1 T.1 8 rfl rfl 12 (by decide) (hts _ (List.mem_of_getElem? (i := 1) rfl)) (fun _ h9 => h9) rfl dX4_takeBack_51 ?_
        refine lv_imul hx hb dX4_takeBack_54 ?_
        refine lv_iload_n hx hb dX4_takeBack_55 rfl (lv_at hl 1 rfl) ?_
        refine lv_iadd hx hb dX4_takeBack_56 ?_
        obtain ⟨hin, hf⟩ := ck_inv hf
        refine va_iald hx hb hK.1 T.1 2 0 rfl rfl hin dX4_takeBack_57 ?_
        obtain ⟨hin, hf⟩ := ck_inv hf
        obtain ⟨S6, e_S6, hf⟩ := nm_inv hf
        refine va_iast hx hb hK.1 T.1 T.2.1 T.2.2 6 0 rfl rfl hin dX4_takeBack_58 (fun H locs hP hD hS => ?_)
        have T : ST D (wM cy ad Xr) A s S6 H locs := ⟨by rw [e_S6]; exact hP, by rw [e_S6]; exact hD, hS⟩
        obtain ⟨v7, e_v7, hf⟩ := nm_inv hf
        refine lv_iinc (v := v7) (lv' := [(1, .int v7), (0, .ref (ad 0))]) hx hb dX4_takeBack_59 hl (k := 1) rfl (by rw [e_v7]; rfl) (by decide) rfl (fun ls hl => ?_)
        refine lv_goto (tgt := 33) hx hb dX4_takeBack_62 (by decide) ?_
        exact ih_33 v7 S6 _ _ _ (hin_33 _ (Option.some.inj hf).symm) T (lv_sub hl [1, 0] rfl)
  have j_13 : ∀ (z1 : Int32) (S_13 : SC) (H : Heap) (locs : List Loc) (ls : Array Slot), fX4_takeBack_j13 z1 S_13 = some r → ST D (wM cy ad Xr) A s S_13 H locs → lv_has ls 2 [(0, .ref (ad 0))] → W p l e ({ frames := 1, cells := 0, slots := 0, locals := 21 } : Room) s m [.ref (ad 0)].toArray below meth c H locs 0 0 (MQ below (QG D (wM cy ad Xr) A (some (.int r.1)) r.2) [.ref (ad 0)].toArray s 0 0 A) (F0 m 13 ls [.int z1, .ref (ad 0)]) := by
    intro z1 S_13 H locs ls hf T hl
    unfold fX4_takeBack_j13 at hf
    obtain ⟨v9, h8, hf⟩ := bnd_inv hf
    refine cg_V (q0 := 8) (ci := 4) (As := [.int z1]) (rest := []) X T (kX4_goesWell l D cy ad Xr S_13 z1 v9 h8) (cwV 1 hts gX4_takeBack_X4_goesWell rfl rfl rfl (by decide +kernel) ⟨Nat.le_of_ble_eq_true rfl, Nat.le_of_ble_eq_true rfl⟩) rfl rfl rfl hl.1 rfl (Nat.le_of_ble_eq_true rfl) dX4_takeBack_13 ⟨Nat.zero_le _, Nat.zero_le _⟩ (st2 := [.int v9.1]) (pc2 := 16) rfl rfl (fun H locs T => ?_)
    refine lv_if_ne (tgt := 21) hx hb dX4_takeBack_16 (by decide) (fun hc => ?_) (fun hc => ?_)
    · replace hf := ifn hc hf
      refine lv_aload_n hx hb dX4_takeBack_21 rfl (lv_at hl 0 rfl) ?_
      refine lv_dup hx hb dX4_takeBack_22 rfl ?_
      refine va_get (D := D) (ci := 4) (v := .int (v9.2.1 6)) (C := RX4) (T := TX4) (N := 16) hx hb hts hin_X4 hown hK.1 T.1 8 rfl rfl 12 (by decide) (hts _ (List.mem_of_getElem? (i := 1) rfl)) (fun _ h9 => h9) rfl dX4_takeBack_23 ?_
      refine lv_iconst (v := 1) hx hb dX4_takeBack_26 (by decide) ?_
      refine lv_isub hx hb dX4_takeBack_27 ?_
      obtain ⟨S10, e_S10, hf⟩ := nm_inv hf
      refine va_put (D := D) (ci := 4) (v := .int ((v9.2.1 6) - 1)) (ty := .int) (C := RX4) (T := TX4) (N := 16) hx hb hts hin_X4 tyX4 tyX4_ok nmX4 hown hK.1 T.1 T.2.1 T.2.2 8 rfl rfl 12 (by decide) (hts _ (List.mem_of_getElem? (i := 1) rfl)) (fun _ h9 => h9) rfl (by decide +kernel) rfl rfl (Nat.le_of_ble_eq_true rfl) dX4_takeBack_28 (fun H locs hP hD hS => ?_)
      have T : ST D (wM cy ad Xr) A s S10 H locs := ⟨by rw [e_S10]; exact hP, by rw [e_S10]; exact hD, hS⟩
      refine lv_iconst (v := 0) hx hb dX4_takeBack_31 (by decide) ?_
      refine lv_istore_n (lv' := [(1, .int 0), (0, .ref (ad 0))]) hx hb dX4_takeBack_32 rfl hl (by decide) rfl (fun ls hl => ?_)
      exact l_33 FUEL 0 S10 _ _ _ hf T (lv_sub hl [1, 0] rfl)
    · replace hf := ifp hc hf
      refine lv_iconst (v := 0) hx hb dX4_takeBack_19 (by decide) ?_
      exact rf_iw hf X T hr dX4_takeBack_20
  refine lv_aload_n hx hb dX4_takeBack_0 rfl (lv_at hl 0 rfl) ?_
  refine lv_aload_n hx hb dX4_takeBack_1 rfl (lv_at hl 0 rfl) ?_
  refine va_get (D := D) (ci := 4) (v := .int (S.1 6)) (C := RX4) (T := TX4) (N := 16) hx hb hts hin_X4 hown hK.1 T.1 8 rfl rfl 12 (by decide) (hts _ (List.mem_of_getElem? (i := 1) rfl)) (fun _ h9 => h9) rfl dX4_takeBack_2 ?_
  refine lv_if_ne (tgt := 12) hx hb dX4_takeBack_5 (by decide) (fun hc => ?_) (fun hc => ?_)
  · replace hf := ifn hc hf
    refine lv_iconst (v := 0) hx hb dX4_takeBack_12 (by decide) ?_
    exact j_13 0 S _ _ _ hf T (lv_sub hl [0] rfl)
  · replace hf := ifp hc hf
    refine lv_iconst (v := 1) hx hb dX4_takeBack_8 (by decide) ?_
    refine lv_goto (tgt := 13) hx hb dX4_takeBack_9 (by decide) ?_
    exact j_13 1 S _ _ _ hf T (lv_sub hl [0] rfl)

noncomputable def fX4_open (S : SC) (x1 : Int32) : Option SC :=
  ck x1 5 <|
  nm (setA S 6 x1 (-1) : SC) fun S1 =>
  ck x1 5 <|
  nm (setA S1 7 x1 (-2) : SC) fun S2 =>
  some S2
set_option maxHeartbeats 4000000 in
set_option maxRecDepth 100000 in
theorem kX4_open (l : Launch) (D : va_G) (cy : Nat → ClassId) (ad : Nat → Nat) (Xr : va_W) (S : SC) (x1 : Int32) (r : SC) (hf : fX4_open S x1 = some r) : CG l D cy (wM cy ad Xr) yX4_open wsX4_open ({ frames := 0, cells := 0, slots := 0, locals := 0 } : Room) [.ref (ad 0), .int x1] S none r := by
  refine CG.of (cc := cX4_open) (maxL := 2) (ret := none) (by decide +kernel) rfl (Nat.le_of_ble_eq_true rfl) ?_
  intro p e s m below meth c A ls X hr T hl
  obtain ⟨hx, hb, hml, hown, hts, hlk, hK, hA, hwA⟩ := id X
  have hl : lv_has ls 2 [(0, .ref (ad 0)), (1, .int x1)] := hl
  have hin_X4 : ∀ w ∈ u_ws RX4 TX4 16, w ∈ wsX4_open := fun w h => (List.mem_cons_of_mem _ (List.mem_append_right _ h))
  unfold fX4_open at hf
  refine lv_aload_n hx hb dX4_open_0 rfl (lv_at hl 0 rfl) ?_
  refine va_get (D := D) (ci := 4) (v := .ref (ad 7)) (C := RX4) (T := TX4) (N := 16) hx hb hts hin_X4 hown hK.1 T.1 8 rfl rfl 13 (by decide) (hts _ (List.mem_of_getElem? (i := 1) rfl)) (fun _ h9 => h9) rfl dX4_open_1 ?_
  refine lv_iload_n hx hb dX4_open_4 rfl (lv_at hl 1 rfl) ?_
  refine lv_iconst (v := (-1)) hx hb dX4_open_5 (by decide) ?_
  obtain ⟨hin, hf⟩ := ck_inv hf
  obtain ⟨S1, e_S1, hf⟩ := nm_inv hf
  refine va_iast hx hb hK.1 T.1 T.2.1 T.2.2 1 0 rfl rfl hin dX4_open_6 (fun H locs hP hD hS => ?_)
  have T : ST D (wM cy ad Xr) A s S1 H locs := ⟨by rw [e_S1]; exact hP, by rw [e_S1]; exact hD, hS⟩
  refine lv_aload_n hx hb dX4_open_7 rfl (lv_at hl 0 rfl) ?_
  refine va_get (D := D) (ci := 4) (v := .ref (ad 8)) (C := RX4) (T := TX4) (N := 16) hx hb hts hin_X4 hown hK.1 T.1 8 rfl rfl 14 (by decide) (hts _ (List.mem_of_getElem? (i := 2) rfl)) (fun _ h9 => h9) rfl dX4_open_8 ?_
  refine lv_iload_n hx hb dX4_open_11 rfl (lv_at hl 1 rfl) ?_
  refine lv_bipush (v := (-2)) hx hb dX4_open_12 (by decide) ?_
  obtain ⟨hin, hf⟩ := ck_inv hf
  obtain ⟨S2, e_S2, hf⟩ := nm_inv hf
  refine va_iast hx hb hK.1 T.1 T.2.1 T.2.2 0 0 rfl rfl hin dX4_open_14 (fun H locs hP hD hS => ?_)
  have T : ST D (wM cy ad Xr) A s S2 H locs := ⟨by rw [e_S2]; exact hP, by rw [e_S2]; exact hD, hS⟩
  exact rf_vw hf X T hr dX4_open_15

noncomputable def fX4_take_j35 (z1 : Int32) (S_35 : SC) : Option SC :=
  nm (setS S_35 7 z1 : SC) fun S1 =>
  some S1
noncomputable def fX4_take (S : SC) (x1 : Int32) (x2 : Int32) : Option SC :=
  ck x1 5 <|
  if x2 ≤ S.2 7 x1.toNatClampNeg then
    some S
  else
    ck x1 5 <|
    nm (setA S 7 x1 x2 : SC) fun S2 =>
    if x1 = 0 then
      ck 0 5 <|
      fX4_take_j35 (S2.2 6 (0 : Int32).toNatClampNeg) S2
    else
      fX4_take_j35 (S2.1 7) S2
set_option maxHeartbeats 4000000 in
set_option maxRecDepth 100000 in
theorem kX4_take (l : Launch) (D : va_G) (cy : Nat → ClassId) (ad : Nat → Nat) (Xr : va_W) (S : SC) (x1 : Int32) (x2 : Int32) (r : SC) (hf : fX4_take S x1 x2 = some r) : CG l D cy (wM cy ad Xr) yX4_take wsX4_take ({ frames := 0, cells := 0, slots := 0, locals := 0 } : Room) [.ref (ad 0), .int x1, .int x2] S none r := by
  refine CG.of (cc := cX4_take) (maxL := 3) (ret := none) (by decide +kernel) rfl (Nat.le_of_ble_eq_true rfl) ?_
  intro p e s m below meth c A ls X hr T hl
  obtain ⟨hx, hb, hml, hown, hts, hlk, hK, hA, hwA⟩ := id X
  have hl : lv_has ls 3 [(0, .ref (ad 0)), (1, .int x1), (2, .int x2)] := hl
  have hin_X4 : ∀ w ∈ u_ws RX4 TX4 16, w ∈ wsX4_take := fun w h => (List.mem_cons_of_mem _ (List.mem_append_right _ h))
  unfold fX4_take at hf
  have j_35 : ∀ (z1 : Int32) (S_35 : SC) (H : Heap) (locs : List Loc) (ls : Array Slot), fX4_take_j35 z1 S_35 = some r → ST D (wM cy ad Xr) A s S_35 H locs → lv_has ls 3 [] → W p l e ({ frames := 0, cells := 0, slots := 0, locals := 0 } : Room) s m [.ref (ad 0), .int x1, .int x2].toArray below meth c H locs 0 0 (MQ below (QG D (wM cy ad Xr) A none r) [.ref (ad 0), .int x1, .int x2].toArray s 0 0 A) (F0 m 35 ls [.int z1, .ref (ad 0)]) := by
    intro z1 S_35 H locs ls hf T hl
    unfold fX4_take_j35 at hf
    obtain ⟨S1, e_S1, hf⟩ := nm_inv hf
    refine va_put (D := D) (ci := 4) (v := .int z1) (ty := .int) (C := RX4) (T := TX4) (N := 16) hx hb hts hin_X4 tyX4 tyX4_ok nmX4 hown hK.1 T.1 T.2.1 T.2.2 8 rfl rfl 15 (by decide) (hts _ (List.mem_of_getElem? (i := 3) rfl)) (fun _ h9 => h9) rfl (by decide +kernel) rfl rfl (Nat.le_of_ble_eq_true rfl) dX4_take_35 (fun H locs hP hD hS => ?_)
    have T : ST D (wM cy ad Xr) A s S1 H locs := ⟨by rw [e_S1]; exact hP, by rw [e_S1]; exact hD, hS⟩
    exact rf_vw hf X T hr dX4_take_38
  refine lv_iload_n hx hb dX4_take_0 rfl (lv_at hl 2 rfl) ?_
  refine lv_aload_n hx hb dX4_take_1 rfl (lv_at hl 0 rfl) ?_
  refine va_get (D := D) (ci := 4) (v := .ref (ad 8)) (C := RX4) (T := TX4) (N := 16) hx hb hts hin_X4 hown hK.1 T.1 8 rfl rfl 14 (by decide) (hts _ (List.mem_of_getElem? (i := 1) rfl)) (fun _ h9 => h9) rfl dX4_take_2 ?_
  refine lv_iload_n hx hb dX4_take_5 rfl (lv_at hl 1 rfl) ?_
  obtain ⟨hin, hf⟩ := ck_inv hf
  refine va_iald hx hb hK.1 T.1 0 0 rfl rfl hin dX4_take_6 ?_
  refine lv_icmp_le (tgt := 38) hx hb dX4_take_7 (by decide) (fun hc => ?_) (fun hc => ?_)
  · replace hf := ifp hc hf
    exact rf_vw hf X T hr dX4_take_38
  · replace hf := ifn hc hf
    refine lv_aload_n hx hb dX4_take_10 rfl (lv_at hl 0 rfl) ?_
    refine va_get (D := D) (ci := 4) (v := .ref (ad 8)) (C := RX4) (T := TX4) (N := 16) hx hb hts hin_X4 hown hK.1 T.1 8 rfl rfl 14 (by decide) (hts _ (List.mem_of_getElem? (i := 1) rfl)) (fun _ h9 => h9) rfl dX4_take_11 ?_
    refine lv_iload_n hx hb dX4_take_14 rfl (lv_at hl 1 rfl) ?_
    refine lv_iload_n hx hb dX4_take_15 rfl (lv_at hl 2 rfl) ?_
    obtain ⟨hin, hf⟩ := ck_inv hf
    obtain ⟨S2, e_S2, hf⟩ := nm_inv hf
    refine va_iast hx hb hK.1 T.1 T.2.1 T.2.2 0 0 rfl rfl hin dX4_take_16 (fun H locs hP hD hS => ?_)
    have T : ST D (wM cy ad Xr) A s S2 H locs := ⟨by rw [e_S2]; exact hP, by rw [e_S2]; exact hD, hS⟩
    refine lv_aload_n hx hb dX4_take_17 rfl (lv_at hl 0 rfl) ?_
    refine lv_iload_n hx hb dX4_take_18 rfl (lv_at hl 1 rfl) ?_
    refine lv_if_ne (tgt := 31) hx hb dX4_take_19 (by decide) (fun hc => ?_) (fun hc => ?_)
    · replace hf := ifn hc hf
      refine lv_aload_n hx hb dX4_take_31 rfl (lv_at hl 0 rfl) ?_
      refine va_get (D := D) (ci := 4) (v := .int (S2.1 7)) (C := RX4) (T := TX4) (N := 16) hx hb hts hin_X4 hown hK.1 T.1 8 rfl rfl 15 (by decide) (hts _ (List.mem_of_getElem? (i := 3) rfl)) (fun _ h9 => h9) rfl dX4_take_32 ?_
      exact j_35 (S2.1 7) S2 _ _ _ hf T (lv_sub hl [] rfl)
    · replace hf := ifp hc hf
      refine lv_aload_n hx hb dX4_take_22 rfl (lv_at hl 0 rfl) ?_
      refine va_get (D := D) (ci := 4) (v := .ref (ad 7)) (C := RX4) (T := TX4) (N := 16) hx hb hts hin_X4 hown hK.1 T.1 8 rfl rfl 13 (by decide) (hts _ (List.mem_of_getElem? (i := 2) rfl)) (fun _ h9 => h9) rfl dX4_take_23 ?_
      refine lv_iconst (v := 0) hx hb dX4_take_26 (by decide) ?_
      obtain ⟨hin, hf⟩ := ck_inv hf
      refine va_iald hx hb hK.1 T.1 1 0 rfl rfl hin dX4_take_27 ?_
      refine lv_goto (tgt := 35) hx hb dX4_take_28 (by decide) ?_
      exact j_35 (S2.2 6 (0 : Int32).toNatClampNeg) S2 _ _ _ hf T (lv_sub hl [] rfl)

noncomputable def fX4_look_j150 (y1 : Int32) (y2 : Int32) (S_150 : SC) : Option ((Int32 × SC) ⊕ (Int32 × SC)) :=
  some (.inl (y2, S_150))
noncomputable def fX4_look_j130 (y1 : Int32) (y2 : Int32) (z0 : Int32) (S_130 : SC) : Option ((Int32 × SC) ⊕ (Int32 × SC)) :=
  if y2 = 0 then
    ex <|
    some (z0, S_130)
  else
    nm (y2 + (-1) : Int32) fun v1 =>
    bnd (fX4_take S_130 v1 (-z0)) fun S3 =>
    fX4_look_j150 y1 v1 S3
noncomputable def fX4_look_j52 (y1 : Int32) (y2 : Int32) (y3 : Int32) (S_52 : SC) : Option ((Int32 × SC) ⊕ (Int32 × SC)) :=
  if y3 = (-1) then
    ck y2 5 <|
    if S_52.2 7 y2.toNatClampNeg = (-2) then
      fX4_look_j130 y1 y2 (-1) S_52
    else
      ck y2 5 <|
      fX4_look_j130 y1 y2 (S_52.2 7 y2.toNatClampNeg) S_52
  else
    ck y2 5 <|
    nm (setA S_52 6 y2 y3 : SC) fun S4 =>
    if y3 - y3 / 100 * 100 = 99 then
      bnd (fX4_take S4 y2 1) fun S13 =>
      fX4_look_j150 y1 y2 S13
    else
      bnd (fX4_copy S4 y2 (y2 + 1)) fun S6 =>
      bnd (fX4_act S6 (y2 + 1) y3) fun S8 =>
      nm (y2 + 1 : Int32) fun v9 =>
      bnd (fX4_open S8 v9) fun S11 =>
      fX4_look_j150 y1 v9 S11
noncomputable def fX4_look_j32 (y1 : Int32) (y2 : Int32) (z0 : Int32) (S_32 : SC) : Option ((Int32 × SC) ⊕ (Int32 × SC)) :=
  if z0 = (-1) then
    fX4_look_j52 y1 y2 z0 S_32
  else
    if y2 = y1 then
      ck y2 5 <|
      nm (setA S_32 7 y2 0 : SC) fun S14 =>
      fX4_look_j52 y1 y2 (-1) S14
    else
      fX4_look_j52 y1 y2 z0 S_32
noncomputable def fX4_look_b7 (y1 : Int32) : (Int32 × SC) → Option ((Int32 × SC) ⊕ (Int32 × SC)) :=
  fun st => match st with
    | (y2, S_7) =>
      ck y2 5 <|
      if S_7.2 7 y2.toNatClampNeg = 1 then
        fX4_look_j32 y1 y2 (-1) S_7
      else
        ck y2 5 <|
        bnd (fX4_nextTurn S_7 y2 (S_7.2 6 y2.toNatClampNeg)) fun v16 =>
        fX4_look_j32 y1 y2 v16 S_7
noncomputable def fX4_look (S : SC) (x1 : Int32) : Option (Int32 × SC) :=
  bnd (fX4_open S 0) fun S18 =>
  loop (fX4_look_b7 x1) FUEL (0, S18)
set_option maxHeartbeats 4000000 in
set_option maxRecDepth 100000 in
theorem kX4_look (l : Launch) (D : va_G) (cy : Nat → ClassId) (ad : Nat → Nat) (Xr : va_W) (S : SC) (x1 : Int32) (r : (Int32 × SC)) (hf : fX4_look S x1 = some r) : CG l D cy (wM cy ad Xr) yX4_look wsX4_look ({ frames := 6, cells := 0, slots := 0, locals := 152 } : Room) [.ref (ad 0), .int x1] S (some (.int r.1)) r.2 := by
  refine CG.of (cc := cX4_look) (maxL := 5) (ret := (some .int)) (by decide +kernel) rfl (Nat.le_of_ble_eq_true rfl) ?_
  intro p e s m below meth c A ls X hr T hl
  obtain ⟨hx, hb, hml, hown, hts, hlk, hK, hA, hwA⟩ := id X
  have hl : lv_has ls 5 [(0, .ref (ad 0)), (1, .int x1)] := hl
  have hin_X4 : ∀ w ∈ u_ws RX4 TX4 16, w ∈ wsX4_look := fun w h => (List.mem_cons_of_mem _ (List.mem_append_right _ h))
  unfold fX4_look at hf
  have l_7 : ∀ (y1 : Int32) (n : Nat) (y2 : Int32) (S_7 : SC) (H : Heap) (locs : List Loc) (ls : Array Slot), loop (fX4_look_b7 y1) n (y2, S_7) = some r → ST D (wM cy ad Xr) A s S_7 H locs → lv_has ls 5 [(0, .ref (ad 0)), (1, .int y1), (2, .int y2)] → W p l e ({ frames := 6, cells := 0, slots := 0, locals := 152 } : Room) s m [.ref (ad 0), .int x1].toArray below meth c H locs 0 0 (MQ below (QG D (wM cy ad Xr) A (some (.int r.1)) r.2) [.ref (ad 0), .int x1].toArray s 0 0 A) (F0 m 7 ls []) := by
    intro y1 n
    induction n with
    | zero => intro _ _ _ _ _ hf; cases hf
    | succ n ih_7 =>
      intro y2 S_7 H locs ls hf T hl
      obtain ⟨z_7, hf, hin_7, hex_7⟩ := loop_inv hf
      unfold fX4_look_b7 at hf
      dsimp only at hf
      have j_150 : ∀ (y2 : Int32) (S_150 : SC) (H : Heap) (locs : List Loc) (ls : Array Slot), fX4_look_j150 y1 y2 S_150 = some z_7 → ST D (wM cy ad Xr) A s S_150 H locs → lv_has ls 5 [(0, .ref (ad 0)), (1, .int y1), (2, .int y2)] → W p l e ({ frames := 6, cells := 0, slots := 0, locals := 152 } : Room) s m [.ref (ad 0), .int x1].toArray below meth c H locs 0 0 (MQ below (QG D (wM cy ad Xr) A (some (.int r.1)) r.2) [.ref (ad 0), .int x1].toArray s 0 0 A) (F0 m 150 ls []) := by
        intro y2 S_150 H locs ls hf T hl
        unfold fX4_look_j150 at hf
        refine lv_goto (tgt := 7) hx hb dX4_look_150 (by decide) ?_
        exact ih_7 y2 S_150 _ _ _ (hin_7 _ (Option.some.inj hf).symm) T (lv_sub hl [0, 1, 2] rfl)
      have j_130 : ∀ (y2 : Int32) (z0 : Int32) (S_130 : SC) (H : Heap) (locs : List Loc) (ls : Array Slot), fX4_look_j130 y1 y2 z0 S_130 = some z_7 → ST D (wM cy ad Xr) A s S_130 H locs → lv_has ls 5 [(0, .ref (ad 0)), (1, .int y1), (2, .int y2)] → W p l e ({ frames := 6, cells := 0, slots := 0, locals := 152 } : Room) s m [.ref (ad 0), .int x1].toArray below meth c H locs 0 0 (MQ below (QG D (wM cy ad Xr) A (some (.int r.1)) r.2) [.ref (ad 0), .int x1].toArray s 0 0 A) (F0 m 130 ls [.int z0]) := by
        intro y2 z0 S_130 H locs ls hf T hl
        unfold fX4_look_j130 at hf
        refine lv_istore (lv' := [(4, .int z0), (0, .ref (ad 0)), (1, .int y1), (2, .int y2)]) hx hb dX4_look_130 hl (by decide) rfl (fun ls hl => ?_)
        refine lv_iload_n hx hb dX4_look_132 rfl (lv_at hl 3 rfl) ?_
        refine lv_if_ne (tgt := 139) hx hb dX4_look_133 (by decide) (fun hc => ?_) (fun hc => ?_)
        · replace hf := ifn hc hf
          obtain ⟨v1, e_v1, hf⟩ := nm_inv hf
          refine lv_iinc (v := v1) (lv' := [(2, .int v1), (4, .int z0), (0, .ref (ad 0)), (1, .int y1)]) hx hb dX4_look_139 hl (k := 3) rfl (by rw [e_v1]; rfl) (by decide) rfl (fun ls hl => ?_)
          refine lv_aload_n hx hb dX4_look_142 rfl (lv_at hl 2 rfl) ?_
          refine lv_iload_n hx hb dX4_look_143 rfl (lv_at hl 0 rfl) ?_
          refine lv_iload hx hb dX4_look_144 (lv_at hl 1 rfl) ?_
          refine lv_ineg hx hb dX4_look_146 ?_
          obtain ⟨S3, h2, hf⟩ := bnd_inv hf
          refine cg_V (q0 := 8) (ci := 4) (As := [.int v1, .int (-z0)]) (rest := []) X T (kX4_take l D cy ad Xr S_130 v1 (-z0) S3 h2) (cwV 2 hts gX4_look_X4_take rfl rfl rfl (by decide +kernel) ⟨Nat.le_of_ble_eq_true rfl, Nat.le_of_ble_eq_true rfl⟩) rfl rfl rfl hl.1 rfl (Nat.le_of_ble_eq_true rfl) dX4_look_147 ⟨Nat.zero_le _, Nat.zero_le _⟩ (st2 := []) (pc2 := 150) rfl rfl (fun H locs T => ?_)
          exact j_150 v1 S3 _ _ _ hf T (lv_sub hl [2, 3, 0] rfl)
        · replace hf := ifp hc hf
          obtain ⟨r0, hf, hz⟩ := ex_inv hf
          rw [hex_7 r0 hz] at hf
          refine lv_iload hx hb dX4_look_136 (lv_at hl 0 rfl) ?_
          exact rf_iw hf X T hr dX4_look_138
      have j_52 : ∀ (y2 : Int32) (y3 : Int32) (S_52 : SC) (H : Heap) (locs : List Loc) (ls : Array Slot), fX4_look_j52 y1 y2 y3 S_52 = some z_7 → ST D (wM cy ad Xr) A s S_52 H locs → lv_has ls 5 [(0, .ref (ad 0)), (1, .int y1), (2, .int y2), (3, .int y3)] → W p l e ({ frames := 6, cells := 0, slots := 0, locals := 152 } : Room) s m [.ref (ad 0), .int x1].toArray below meth c H locs 0 0 (MQ below (QG D (wM cy ad Xr) A (some (.int r.1)) r.2) [.ref (ad 0), .int x1].toArray s 0 0 A) (F0 m 52 ls []) := by
        intro y2 y3 S_52 H locs ls hf T hl
        unfold fX4_look_j52 at hf
        refine lv_iload_n hx hb dX4_look_52 rfl (lv_at hl 3 rfl) ?_
        refine lv_iconst (v := (-1)) hx hb dX4_look_53 (by decide) ?_
        refine lv_icmp_eq (tgt := 109) hx hb dX4_look_54 (by decide) (fun hc => ?_) (fun hc => ?_)
        · replace hf := ifp hc hf
          refine lv_aload_n hx hb dX4_look_109 rfl (lv_at hl 0 rfl) ?_
          refine va_get (D := D) (ci := 4) (v := .ref (ad 8)) (C := RX4) (T := TX4) (N := 16) hx hb hts hin_X4 hown hK.1 T.1 8 rfl rfl 14 (by decide) (hts _ (List.mem_of_getElem? (i := 1) rfl)) (fun _ h9 => h9) rfl dX4_look_110 ?_
          refine lv_iload_n hx hb dX4_look_113 rfl (lv_at hl 2 rfl) ?_
          obtain ⟨hin, hf⟩ := ck_inv hf
          refine va_iald hx hb hK.1 T.1 0 0 rfl rfl hin dX4_look_114 ?_
          refine lv_bipush (v := (-2)) hx hb dX4_look_115 (by decide) ?_
          refine lv_icmp_ne (tgt := 124) hx hb dX4_look_117 (by decide) (fun hc => ?_) (fun hc => ?_)
          · replace hf := ifn hc hf
            refine lv_aload_n hx hb dX4_look_124 rfl (lv_at hl 0 rfl) ?_
            refine va_get (D := D) (ci := 4) (v := .ref (ad 8)) (C := RX4) (T := TX4) (N := 16) hx hb hts hin_X4 hown hK.1 T.1 8 rfl rfl 14 (by decide) (hts _ (List.mem_of_getElem? (i := 1) rfl)) (fun _ h9 => h9) rfl dX4_look_125 ?_
            refine lv_iload_n hx hb dX4_look_128 rfl (lv_at hl 2 rfl) ?_
            obtain ⟨hin, hf⟩ := ck_inv hf
            refine va_iald hx hb hK.1 T.1 0 0 rfl rfl hin dX4_look_129 ?_
            exact j_130 y2 (S_52.2 7 y2.toNatClampNeg) S_52 _ _ _ hf T (lv_sub hl [0, 1, 2] rfl)
          · replace hf := ifp hc hf
            refine lv_iconst (v := (-1)) hx hb dX4_look_120 (by decide) ?_
            refine lv_goto (tgt := 130) hx hb dX4_look_121 (by decide) ?_
            exact j_130 y2 (-1) S_52 _ _ _ hf T (lv_sub hl [0, 1, 2] rfl)
        · replace hf := ifn hc hf
          refine lv_aload_n hx hb dX4_look_57 rfl (lv_at hl 0 rfl) ?_
          refine va_get (D := D) (ci := 4) (v := .ref (ad 7)) (C := RX4) (T := TX4) (N := 16) hx hb hts hin_X4 hown hK.1 T.1 8 rfl rfl 13 (by decide) (hts _ (List.mem_of_getElem? (i := 2) rfl)) (fun _ h9 => h9) rfl dX4_look_58 ?_
          refine lv_iload_n hx hb dX4_look_61 rfl (lv_at hl 2 rfl) ?_
          refine lv_iload_n hx hb dX4_look_62 rfl (lv_at hl 3 rfl) ?_
          obtain ⟨hin, hf⟩ := ck_inv hf
          obtain ⟨S4, e_S4, hf⟩ := nm_inv hf
          refine va_iast hx hb hK.1 T.1 T.2.1 T.2.2 1 0 rfl rfl hin dX4_look_63 (fun H locs hP hD hS => ?_)
          have T : ST D (wM cy ad Xr) A s S4 H locs := ⟨by rw [e_S4]; exact hP, by rw [e_S4]; exact hD, hS⟩
          refine lv_iload_n hx hb dX4_look_64 rfl (lv_at hl 3 rfl) ?_
          refine lv_bipush (v := 100) hx hb dX4_look_65 (by decide) ?_
          refine lv_irem hx hb dX4_look_67 (by decide) ?_
          refine lv_bipush (v := 99) hx hb dX4_look_68 (by decide) ?_
          refine lv_icmp_ne (tgt := 82) hx hb dX4_look_70 (by decide) (fun hc => ?_) (fun hc => ?_)
          · replace hf := ifn hc hf
            refine lv_aload_n hx hb dX4_look_82 rfl (lv_at hl 0 rfl) ?_
            refine lv_iload_n hx hb dX4_look_83 rfl (lv_at hl 2 rfl) ?_
            refine lv_iload_n hx hb dX4_look_84 rfl (lv_at hl 2 rfl) ?_
            refine lv_iconst (v := 1) hx hb dX4_look_85 (by decide) ?_
            refine lv_iadd hx hb dX4_look_86 ?_
            obtain ⟨S6, h5, hf⟩ := bnd_inv hf
            refine cg_V (q0 := 8) (ci := 4) (As := [.int y2, .int (y2 + 1)]) (rest := []) X T (kX4_copy l D cy ad Xr S4 y2 (y2 + 1) S6 h5) (cwV 2 hts gX4_look_X4_copy rfl rfl rfl (by decide +kernel) ⟨Nat.le_of_ble_eq_true rfl, Nat.le_of_ble_eq_true rfl⟩) rfl rfl rfl hl.1 rfl (Nat.le_of_ble_eq_true rfl) dX4_look_87 ⟨Nat.zero_le _, Nat.zero_le _⟩ (st2 := []) (pc2 := 90) rfl rfl (fun H locs T => ?_)
            refine lv_aload_n hx hb dX4_look_90 rfl (lv_at hl 0 rfl) ?_
            refine lv_iload_n hx hb dX4_look_91 rfl (lv_at hl 2 rfl) ?_
            refine lv_iconst (v := 1) hx hb dX4_look_92 (by decide) ?_
            refine lv_iadd hx hb dX4_look_93 ?_
            refine lv_iload_n hx hb dX4_look_94 rfl (lv_at hl 3 rfl) ?_
            obtain ⟨S8, h7, hf⟩ := bnd_inv hf
            refine cg_V (q0 := 8) (ci := 4) (As := [.int (y2 + 1), .int y3]) (rest := []) X T (kX4_act l D cy ad Xr S6 (y2 + 1) y3 S8 h7) (cwV 2 hts gX4_look_X4_act rfl rfl rfl (by decide +kernel) ⟨Nat.le_of_ble_eq_true rfl, Nat.le_of_ble_eq_true rfl⟩) rfl rfl rfl hl.1 rfl (Nat.le_of_ble_eq_true rfl) dX4_look_95 ⟨Nat.zero_le _, Nat.zero_le _⟩ (st2 := []) (pc2 := 98) rfl rfl (fun H locs T => ?_)
            obtain ⟨v9, e_v9, hf⟩ := nm_inv hf
            refine lv_iinc (v := v9) (lv' := [(2, .int v9), (0, .ref (ad 0)), (1, .int y1), (3, .int y3)]) hx hb dX4_look_98 hl (k := 2) rfl (by rw [e_v9]; rfl) (by decide) rfl (fun ls hl => ?_)
            refine lv_aload_n hx hb dX4_look_101 rfl (lv_at hl 1 rfl) ?_
            refine lv_iload_n hx hb dX4_look_102 rfl (lv_at hl 0 rfl) ?_
            obtain ⟨S11, h10, hf⟩ := bnd_inv hf
            refine cg_V (q0 := 8) (ci := 4) (As := [.int v9]) (rest := []) X T (kX4_open l D cy ad Xr S8 v9 S11 h10) (cwV 1 hts gX4_look_X4_open rfl rfl rfl (by decide +kernel) ⟨Nat.le_of_ble_eq_true rfl, Nat.le_of_ble_eq_true rfl⟩) rfl rfl rfl hl.1 rfl (Nat.le_of_ble_eq_true rfl) dX4_look_103 ⟨Nat.zero_le _, Nat.zero_le _⟩ (st2 := []) (pc2 := 106) rfl rfl (fun H locs T => ?_)
            refine lv_goto (tgt := 150) hx hb dX4_look_106 (by decide) ?_
            exact j_150 v9 S11 _ _ _ hf T (lv_sub hl [1, 2, 0] rfl)
          · replace hf := ifp hc hf
            refine lv_aload_n hx hb dX4_look_73 rfl (lv_at hl 0 rfl) ?_
            refine lv_iload_n hx hb dX4_look_74 rfl (lv_at hl 2 rfl) ?_
            refine lv_iconst (v := 1) hx hb dX4_look_75 (by decide) ?_
            obtain ⟨S13, h12, hf⟩ := bnd_inv hf
            refine cg_V (q0 := 8) (ci := 4) (As := [.int y2, .int 1]) (rest := []) X T (kX4_take l D cy ad Xr S4 y2 1 S13 h12) (cwV 2 hts gX4_look_X4_take rfl rfl rfl (by decide +kernel) ⟨Nat.le_of_ble_eq_true rfl, Nat.le_of_ble_eq_true rfl⟩) rfl rfl rfl hl.1 rfl (Nat.le_of_ble_eq_true rfl) dX4_look_76 ⟨Nat.zero_le _, Nat.zero_le _⟩ (st2 := []) (pc2 := 79) rfl rfl (fun H locs T => ?_)
            refine lv_goto (tgt := 150) hx hb dX4_look_79 (by decide) ?_
            exact j_150 y2 S13 _ _ _ hf T (lv_sub hl [0, 1, 2] rfl)
      have j_32 : ∀ (y2 : Int32) (z0 : Int32) (S_32 : SC) (H : Heap) (locs : List Loc) (ls : Array Slot), fX4_look_j32 y1 y2 z0 S_32 = some z_7 → ST D (wM cy ad Xr) A s S_32 H locs → lv_has ls 5 [(0, .ref (ad 0)), (1, .int y1), (2, .int y2)] → W p l e ({ frames := 6, cells := 0, slots := 0, locals := 152 } : Room) s m [.ref (ad 0), .int x1].toArray below meth c H locs 0 0 (MQ below (QG D (wM cy ad Xr) A (some (.int r.1)) r.2) [.ref (ad 0), .int x1].toArray s 0 0 A) (F0 m 32 ls [.int z0]) := by
        intro y2 z0 S_32 H locs ls hf T hl
        unfold fX4_look_j32 at hf
        refine lv_istore_n (lv' := [(3, .int z0), (0, .ref (ad 0)), (1, .int y1), (2, .int y2)]) hx hb dX4_look_32 rfl hl (by decide) rfl (fun ls hl => ?_)
        refine lv_iload_n hx hb dX4_look_33 rfl (lv_at hl 0 rfl) ?_
        refine lv_iconst (v := (-1)) hx hb dX4_look_34 (by decide) ?_
        refine lv_icmp_eq (tgt := 52) hx hb dX4_look_35 (by decide) (fun hc => ?_) (fun hc => ?_)
        · replace hf := ifp hc hf
          exact j_52 y2 z0 S_32 _ _ _ hf T (lv_sub hl [1, 2, 3, 0] rfl)
        · replace hf := ifn hc hf
          refine lv_iload_n hx hb dX4_look_38 rfl (lv_at hl 3 rfl) ?_
          refine lv_iload_n hx hb dX4_look_39 rfl (lv_at hl 2 rfl) ?_
          refine lv_icmp_ne (tgt := 52) hx hb dX4_look_40 (by decide) (fun hc => ?_) (fun hc => ?_)
          · replace hf := ifn hc hf
            exact j_52 y2 z0 S_32 _ _ _ hf T (lv_sub hl [1, 2, 3, 0] rfl)
          · replace hf := ifp hc hf
            refine lv_aload_n hx hb dX4_look_43 rfl (lv_at hl 1 rfl) ?_
            refine va_get (D := D) (ci := 4) (v := .ref (ad 8)) (C := RX4) (T := TX4) (N := 16) hx hb hts hin_X4 hown hK.1 T.1 8 rfl rfl 14 (by decide) (hts _ (List.mem_of_getElem? (i := 1) rfl)) (fun _ h9 => h9) rfl dX4_look_44 ?_
            refine lv_iload_n hx hb dX4_look_47 rfl (lv_at hl 3 rfl) ?_
            refine lv_iconst (v := 0) hx hb dX4_look_48 (by decide) ?_
            obtain ⟨hin, hf⟩ := ck_inv hf
            obtain ⟨S14, e_S14, hf⟩ := nm_inv hf
            refine va_iast hx hb hK.1 T.1 T.2.1 T.2.2 0 0 rfl rfl hin dX4_look_49 (fun H locs hP hD hS => ?_)
            have T : ST D (wM cy ad Xr) A s S14 H locs := ⟨by rw [e_S14]; exact hP, by rw [e_S14]; exact hD, hS⟩
            refine lv_iconst (v := (-1)) hx hb dX4_look_50 (by decide) ?_
            refine lv_istore_n (lv' := [(3, .int (-1)), (0, .ref (ad 0)), (1, .int y1), (2, .int y2)]) hx hb dX4_look_51 rfl hl (by decide) rfl (fun ls hl => ?_)
            exact j_52 y2 (-1) S14 _ _ _ hf T (lv_sub hl [1, 2, 3, 0] rfl)
      refine lv_aload_n hx hb dX4_look_7 rfl (lv_at hl 0 rfl) ?_
      refine va_get (D := D) (ci := 4) (v := .ref (ad 8)) (C := RX4) (T := TX4) (N := 16) hx hb hts hin_X4 hown hK.1 T.1 8 rfl rfl 14 (by decide) (hts _ (List.mem_of_getElem? (i := 1) rfl)) (fun _ h9 => h9) rfl dX4_look_8 ?_
      refine lv_iload_n hx hb dX4_look_11 rfl (lv_at hl 2 rfl) ?_
      obtain ⟨hin, hf⟩ := ck_inv hf
      refine va_iald hx hb hK.1 T.1 0 0 rfl rfl hin dX4_look_12 ?_
      refine lv_iconst (v := 1) hx hb dX4_look_13 (by decide) ?_
      refine lv_icmp_ne (tgt := 21) hx hb dX4_look_14 (by decide) (fun hc => ?_) (fun hc => ?_)
      · replace hf := ifn hc hf
        refine lv_aload_n hx hb dX4_look_21 rfl (lv_at hl 0 rfl) ?_
        refine lv_iload_n hx hb dX4_look_22 rfl (lv_at hl 2 rfl) ?_
        refine lv_aload_n hx hb dX4_look_23 rfl (lv_at hl 0 rfl) ?_
        refine va_get (D := D) (ci := 4) (v := .ref (ad 7)) (C := RX4) (T := TX4) (N := 16) hx hb hts hin_X4 hown hK.1 T.1 8 rfl rfl 13 (by decide) (hts _ (List.mem_of_getElem? (i := 2) rfl)) (fun _ h9 => h9) rfl dX4_look_24 ?_
        refine lv_iload_n hx hb dX4_look_27 rfl (lv_at hl 2 rfl) ?_
        obtain ⟨hin, hf⟩ := ck_inv hf
        refine va_iald hx hb hK.1 T.1 1 0 rfl rfl hin dX4_look_28 ?_
        obtain ⟨v16, h15, hf⟩ := bnd_inv hf
        refine cg_V (q0 := 8) (ci := 4) (As := [.int y2, .int (S_7.2 6 y2.toNatClampNeg)]) (rest := []) X T (kX4_nextTurn l D cy ad Xr S_7 y2 (S_7.2 6 y2.toNatClampNeg) v16 h15) (cwV 2 hts gX4_look_X4_nextTurn rfl rfl rfl (by decide +kernel) ⟨Nat.le_of_ble_eq_true rfl, Nat.le_of_ble_eq_true rfl⟩) rfl rfl rfl hl.1 rfl (Nat.le_of_ble_eq_true rfl) dX4_look_29 ⟨Nat.zero_le _, Nat.zero_le _⟩ (st2 := [.int v16]) (pc2 := 32) rfl rfl (fun H locs T => ?_)
        exact j_32 y2 v16 S_7 _ _ _ hf T (lv_sub hl [0, 1, 2] rfl)
      · replace hf := ifp hc hf
        refine lv_iconst (v := (-1)) hx hb dX4_look_17 (by decide) ?_
        refine lv_goto (tgt := 32) hx hb dX4_look_18 (by decide) ?_
        exact j_32 y2 (-1) S_7 _ _ _ hf T (lv_sub hl [0, 1, 2] rfl)
  refine lv_iconst (v := 0) hx hb dX4_look_0 (by decide) ?_
  refine lv_istore_n (lv' := [(2, .int 0), (0, .ref (ad 0)), (1, .int x1)]) hx hb dX4_look_1 rfl hl (by decide) rfl (fun ls hl => ?_)
  refine lv_aload_n hx hb dX4_look_2 rfl (lv_at hl 1 rfl) ?_
  refine lv_iconst (v := 0) hx hb dX4_look_3 (by decide) ?_
  obtain ⟨S18, h17, hf⟩ := bnd_inv hf
  refine cg_V (q0 := 8) (ci := 4) (As := [.int 0]) (rest := []) X T (kX4_open l D cy ad Xr S 0 S18 h17) (cwV 1 hts gX4_look_X4_open rfl rfl rfl (by decide +kernel) ⟨Nat.le_of_ble_eq_true rfl, Nat.le_of_ble_eq_true rfl⟩) rfl rfl rfl hl.1 rfl (Nat.le_of_ble_eq_true rfl) dX4_look_4 ⟨Nat.zero_le _, Nat.zero_le _⟩ (st2 := []) (pc2 := 7) rfl rfl (fun H locs T => ?_)
  exact l_7 x1 FUEL 0 S18 _ _ _ hf T (lv_sub hl [1, 2, 0] rfl)

noncomputable def fX4_canLook (S : SC) (x1 : Int32) : Option Int32 :=
  bnd (fX4_isPlaced S) fun v2 =>
  if v2 = 0 then
    some 0
  else
    if S.1 5 = (-1) then
      if x1 < 3 then
        some 1
      else
        bnd (fX4_cells S) fun v4 =>
        if (8 : Int32) < v4 then
          some 0
        else
          some 1
    else
      some 0
set_option maxHeartbeats 4000000 in
set_option maxRecDepth 100000 in
theorem kX4_canLook (l : Launch) (D : va_G) (cy : Nat → ClassId) (ad : Nat → Nat) (Xr : va_W) (S : SC) (x1 : Int32) (r : Int32) (hf : fX4_canLook S x1 = some r) : CG l D cy (wM cy ad Xr) yX4_canLook wsX4_canLook ({ frames := 1, cells := 0, slots := 0, locals := 20 } : Room) [.ref (ad 0), .int x1] S (some (.int r)) S := by
  refine CG.of (cc := cX4_canLook) (maxL := 2) (ret := (some .boolean)) (by decide +kernel) rfl (Nat.le_of_ble_eq_true rfl) ?_
  intro p e s m below meth c A ls X hr T hl
  obtain ⟨hx, hb, hml, hown, hts, hlk, hK, hA, hwA⟩ := id X
  have hl : lv_has ls 2 [(0, .ref (ad 0)), (1, .int x1)] := hl
  have hin_X4 : ∀ w ∈ u_ws RX4 TX4 16, w ∈ wsX4_canLook := fun w h => (List.mem_cons_of_mem _ (List.mem_append_right _ h))
  unfold fX4_canLook at hf
  refine lv_aload_n hx hb dX4_canLook_0 rfl (lv_at hl 0 rfl) ?_
  obtain ⟨v2, h1, hf⟩ := bnd_inv hf
  refine cg_V (q0 := 8) (ci := 4) (As := []) (rest := []) X T (kX4_isPlaced l D cy ad Xr S v2 h1) (cwV 0 hts gX4_canLook_X4_isPlaced rfl rfl rfl (by decide +kernel) ⟨Nat.le_of_ble_eq_true rfl, Nat.le_of_ble_eq_true rfl⟩) rfl rfl rfl hl.1 rfl (Nat.le_of_ble_eq_true rfl) dX4_canLook_1 ⟨Nat.zero_le _, Nat.zero_le _⟩ (st2 := [.int v2]) (pc2 := 4) rfl rfl (fun H locs T => ?_)
  refine lv_if_eq (tgt := 33) hx hb dX4_canLook_4 (by decide) (fun hc => ?_) (fun hc => ?_)
  · replace hf := ifp hc hf
    refine lv_iconst (v := 0) hx hb dX4_canLook_33 (by decide) ?_
    exact rf_z hf X T hr (Or.inl rfl) dX4_canLook_34
  · replace hf := ifn hc hf
    refine lv_aload_n hx hb dX4_canLook_7 rfl (lv_at hl 0 rfl) ?_
    refine va_get (D := D) (ci := 4) (v := .int (S.1 5)) (C := RX4) (T := TX4) (N := 16) hx hb hts hin_X4 hown hK.1 T.1 8 rfl rfl 10 (by decide) (hts _ (List.mem_of_getElem? (i := 1) rfl)) (fun _ h9 => h9) rfl dX4_canLook_8 ?_
    refine lv_iconst (v := (-1)) hx hb dX4_canLook_11 (by decide) ?_
    refine lv_icmp_ne (tgt := 33) hx hb dX4_canLook_12 (by decide) (fun hc => ?_) (fun hc => ?_)
    · replace hf := ifn hc hf
      refine lv_iconst (v := 0) hx hb dX4_canLook_33 (by decide) ?_
      exact rf_z hf X T hr (Or.inl rfl) dX4_canLook_34
    · replace hf := ifp hc hf
      refine lv_iload_n hx hb dX4_canLook_15 rfl (lv_at hl 1 rfl) ?_
      refine lv_iconst (v := 3) hx hb dX4_canLook_16 (by decide) ?_
      refine lv_icmp_lt (tgt := 29) hx hb dX4_canLook_17 (by decide) (fun hc => ?_) (fun hc => ?_)
      · replace hf := ifp hc hf
        refine lv_iconst (v := 1) hx hb dX4_canLook_29 (by decide) ?_
        refine lv_goto (tgt := 34) hx hb dX4_canLook_30 (by decide) ?_
        exact rf_z hf X T hr (Or.inr rfl) dX4_canLook_34
      · replace hf := ifn hc hf
        refine lv_aload_n hx hb dX4_canLook_20 rfl (lv_at hl 0 rfl) ?_
        obtain ⟨v4, h3, hf⟩ := bnd_inv hf
        refine cg_V (q0 := 8) (ci := 4) (As := []) (rest := []) X T (kX4_cells l D cy ad Xr S v4 h3) (cwV 0 hts gX4_canLook_X4_cells rfl rfl rfl (by decide +kernel) ⟨Nat.le_of_ble_eq_true rfl, Nat.le_of_ble_eq_true rfl⟩) rfl rfl rfl hl.1 rfl (Nat.le_of_ble_eq_true rfl) dX4_canLook_21 ⟨Nat.zero_le _, Nat.zero_le _⟩ (st2 := [.int v4]) (pc2 := 24) rfl rfl (fun H locs T => ?_)
        refine lv_bipush (v := 8) hx hb dX4_canLook_24 (by decide) ?_
        refine lv_icmp_gt (tgt := 33) hx hb dX4_canLook_26 (by decide) (fun hc => ?_) (fun hc => ?_)
        · replace hf := ifp hc hf
          refine lv_iconst (v := 0) hx hb dX4_canLook_33 (by decide) ?_
          exact rf_z hf X T hr (Or.inl rfl) dX4_canLook_34
        · replace hf := ifn hc hf
          refine lv_iconst (v := 1) hx hb dX4_canLook_29 (by decide) ?_
          refine lv_goto (tgt := 34) hx hb dX4_canLook_30 (by decide) ?_
          exact rf_z hf X T hr (Or.inr rfl) dX4_canLook_34

noncomputable def fX4_worth_j27 (y1 : Int32) (z1 : Int32) (S_27 : SC) : Option (Int32 × SC) :=
  bnd (fX4_goesWell S_27 z1) fun v2 =>
  if v2.1 = 0 then
    some (0, v2.2)
  else
    bnd (fX4_look v2.2 y1) fun v4 =>
    some (v4.1, v4.2)
noncomputable def fX4_worth (S : SC) (x1 : Int32) : Option (Int32 × SC) :=
  bnd (fX4_in S x1 0 3) fun v6 =>
  if v6 = 0 then
    fX4_worth_j27 x1 1 S
  else
    bnd (fX4_canLook S x1) fun v8 =>
    if v8 = 0 then
      fX4_worth_j27 x1 2 S
    else
      fX4_worth_j27 x1 0 S
set_option maxHeartbeats 4000000 in
set_option maxRecDepth 100000 in
theorem kX4_worth (l : Launch) (D : va_G) (cy : Nat → ClassId) (ad : Nat → Nat) (Xr : va_W) (S : SC) (x1 : Int32) (r : (Int32 × SC)) (hf : fX4_worth S x1 = some r) : CG l D cy (wM cy ad Xr) yX4_worth wsX4_worth ({ frames := 7, cells := 0, slots := 0, locals := 176 } : Room) [.ref (ad 0), .int x1] S (some (.int r.1)) r.2 := by
  refine CG.of (cc := cX4_worth) (maxL := 2) (ret := (some .int)) (by decide +kernel) rfl (Nat.le_of_ble_eq_true rfl) ?_
  intro p e s m below meth c A ls X hr T hl
  obtain ⟨hx, hb, hml, hown, hts, hlk, hK, hA, hwA⟩ := id X
  have hl : lv_has ls 2 [(0, .ref (ad 0)), (1, .int x1)] := hl
  unfold fX4_worth at hf
  have j_27 : ∀ (y1 : Int32) (z1 : Int32) (S_27 : SC) (H : Heap) (locs : List Loc) (ls : Array Slot), fX4_worth_j27 y1 z1 S_27 = some r → ST D (wM cy ad Xr) A s S_27 H locs → lv_has ls 2 [(0, .ref (ad 0)), (1, .int y1)] → W p l e ({ frames := 7, cells := 0, slots := 0, locals := 176 } : Room) s m [.ref (ad 0), .int x1].toArray below meth c H locs 0 0 (MQ below (QG D (wM cy ad Xr) A (some (.int r.1)) r.2) [.ref (ad 0), .int x1].toArray s 0 0 A) (F0 m 27 ls [.int z1, .ref (ad 0)]) := by
    intro y1 z1 S_27 H locs ls hf T hl
    unfold fX4_worth_j27 at hf
    obtain ⟨v2, h1, hf⟩ := bnd_inv hf
    refine cg_V (q0 := 8) (ci := 4) (As := [.int z1]) (rest := []) X T (kX4_goesWell l D cy ad Xr S_27 z1 v2 h1) (cwV 1 hts gX4_worth_X4_goesWell rfl rfl rfl (by decide +kernel) ⟨Nat.le_of_ble_eq_true rfl, Nat.le_of_ble_eq_true rfl⟩) rfl rfl rfl hl.1 rfl (Nat.le_of_ble_eq_true rfl) dX4_worth_27 ⟨Nat.zero_le _, Nat.zero_le _⟩ (st2 := [.int v2.1]) (pc2 := 30) rfl rfl (fun H locs T => ?_)
    refine lv_if_eq (tgt := 41) hx hb dX4_worth_30 (by decide) (fun hc => ?_) (fun hc => ?_)
    · replace hf := ifp hc hf
      refine lv_iconst (v := 0) hx hb dX4_worth_41 (by decide) ?_
      exact rf_iw hf X T hr dX4_worth_42
    · replace hf := ifn hc hf
      refine lv_aload_n hx hb dX4_worth_33 rfl (lv_at hl 0 rfl) ?_
      refine lv_iload_n hx hb dX4_worth_34 rfl (lv_at hl 1 rfl) ?_
      obtain ⟨v4, h3, hf⟩ := bnd_inv hf
      refine cg_V (q0 := 8) (ci := 4) (As := [.int y1]) (rest := []) X T (kX4_look l D cy ad Xr v2.2 y1 v4 h3) (cwV 1 hts gX4_worth_X4_look rfl rfl rfl (by decide +kernel) ⟨Nat.le_of_ble_eq_true rfl, Nat.le_of_ble_eq_true rfl⟩) rfl rfl rfl hl.1 rfl (Nat.le_of_ble_eq_true rfl) dX4_worth_35 ⟨Nat.zero_le _, Nat.zero_le _⟩ (st2 := [.int v4.1]) (pc2 := 38) rfl rfl (fun H locs T => ?_)
      refine lv_goto (tgt := 42) hx hb dX4_worth_38 (by decide) ?_
      exact rf_iw hf X T hr dX4_worth_42
  refine lv_aload_n hx hb dX4_worth_0 rfl (lv_at hl 0 rfl) ?_
  refine lv_iload_n hx hb dX4_worth_1 rfl (lv_at hl 1 rfl) ?_
  refine lv_iconst (v := 0) hx hb dX4_worth_2 (by decide) ?_
  refine lv_iconst (v := 3) hx hb dX4_worth_3 (by decide) ?_
  obtain ⟨v6, h5, hf⟩ := bnd_inv hf
  refine cg_S (As := [.int x1, .int 0, .int 3]) (rest := [.ref (ad 0)]) X T (kX4_in l D cy ad Xr S x1 0 3 v6 h5) (va_cwS 3 hts gX4_worth_X4_in rfl rfl rfl (by decide +kernel) ⟨Nat.le_of_ble_eq_true rfl, Nat.le_of_ble_eq_true rfl⟩) rfl hl.1 rfl (Nat.le_of_ble_eq_true rfl) dX4_worth_4 ⟨Nat.zero_le _, Nat.zero_le _⟩ (st2 := [.int v6, .ref (ad 0)]) (pc2 := 7) rfl rfl (fun H locs T => ?_)
  refine lv_if_ne (tgt := 14) hx hb dX4_worth_7 (by decide) (fun hc => ?_) (fun hc => ?_)
  · replace hf := ifn hc hf
    refine lv_aload_n hx hb dX4_worth_14 rfl (lv_at hl 0 rfl) ?_
    refine lv_iload_n hx hb dX4_worth_15 rfl (lv_at hl 1 rfl) ?_
    obtain ⟨v8, h7, hf⟩ := bnd_inv hf
    refine cg_V (q0 := 8) (ci := 4) (As := [.int x1]) (rest := [.ref (ad 0)]) X T (kX4_canLook l D cy ad Xr S x1 v8 h7) (cwV 1 hts gX4_worth_X4_canLook rfl rfl rfl (by decide +kernel) ⟨Nat.le_of_ble_eq_true rfl, Nat.le_of_ble_eq_true rfl⟩) rfl rfl rfl hl.1 rfl (Nat.le_of_ble_eq_true rfl) dX4_worth_16 ⟨Nat.zero_le _, Nat.zero_le _⟩ (st2 := [.int v8, .ref (ad 0)]) (pc2 := 19) rfl rfl (fun H locs T => ?_)
    refine lv_if_eq (tgt := 26) hx hb dX4_worth_19 (by decide) (fun hc => ?_) (fun hc => ?_)
    · replace hf := ifp hc hf
      refine lv_iconst (v := 2) hx hb dX4_worth_26 (by decide) ?_
      exact j_27 x1 2 S _ _ _ hf T (lv_sub hl [0, 1] rfl)
    · replace hf := ifn hc hf
      refine lv_iconst (v := 0) hx hb dX4_worth_22 (by decide) ?_
      refine lv_goto (tgt := 27) hx hb dX4_worth_23 (by decide) ?_
      exact j_27 x1 0 S _ _ _ hf T (lv_sub hl [0, 1] rfl)
  · replace hf := ifp hc hf
    refine lv_iconst (v := 1) hx hb dX4_worth_10 (by decide) ?_
    refine lv_goto (tgt := 27) hx hb dX4_worth_11 (by decide) ?_
    exact j_27 x1 1 S _ _ _ hf T (lv_sub hl [0, 1] rfl)

noncomputable def fX4_best_j27 (y1 : Int32) (z1 : Int32) (S_27 : SC) : Option (Int32 × SC) :=
  bnd (fX4_goesWell S_27 z1) fun v2 =>
  if v2.1 = 0 then
    some (0, v2.2)
  else
    bnd (fX4_look v2.2 y1) fun v4 =>
    some (v4.2.1 7, v4.2)
noncomputable def fX4_best (S : SC) (x1 : Int32) : Option (Int32 × SC) :=
  bnd (fX4_in S x1 1 3) fun v6 =>
  if v6 = 0 then
    fX4_best_j27 x1 1 S
  else
    bnd (fX4_canLook S x1) fun v8 =>
    if v8 = 0 then
      fX4_best_j27 x1 2 S
    else
      fX4_best_j27 x1 0 S
set_option maxHeartbeats 4000000 in
set_option maxRecDepth 100000 in
theorem kX4_best (l : Launch) (D : va_G) (cy : Nat → ClassId) (ad : Nat → Nat) (Xr : va_W) (S : SC) (x1 : Int32) (r : (Int32 × SC)) (hf : fX4_best S x1 = some r) : CG l D cy (wM cy ad Xr) yX4_best wsX4_best ({ frames := 7, cells := 0, slots := 0, locals := 176 } : Room) [.ref (ad 0), .int x1] S (some (.int r.1)) r.2 := by
  refine CG.of (cc := cX4_best) (maxL := 3) (ret := (some .int)) (by decide +kernel) rfl (Nat.le_of_ble_eq_true rfl) ?_
  intro p e s m below meth c A ls X hr T hl
  obtain ⟨hx, hb, hml, hown, hts, hlk, hK, hA, hwA⟩ := id X
  have hl : lv_has ls 3 [(0, .ref (ad 0)), (1, .int x1)] := hl
  have hin_X4 : ∀ w ∈ u_ws RX4 TX4 16, w ∈ wsX4_best := fun w h => (List.mem_cons_of_mem _ (List.mem_append_right _ h))
  unfold fX4_best at hf
  have j_27 : ∀ (y1 : Int32) (z1 : Int32) (S_27 : SC) (H : Heap) (locs : List Loc) (ls : Array Slot), fX4_best_j27 y1 z1 S_27 = some r → ST D (wM cy ad Xr) A s S_27 H locs → lv_has ls 3 [(0, .ref (ad 0)), (1, .int y1)] → W p l e ({ frames := 7, cells := 0, slots := 0, locals := 176 } : Room) s m [.ref (ad 0), .int x1].toArray below meth c H locs 0 0 (MQ below (QG D (wM cy ad Xr) A (some (.int r.1)) r.2) [.ref (ad 0), .int x1].toArray s 0 0 A) (F0 m 27 ls [.int z1, .ref (ad 0)]) := by
    intro y1 z1 S_27 H locs ls hf T hl
    unfold fX4_best_j27 at hf
    obtain ⟨v2, h1, hf⟩ := bnd_inv hf
    refine cg_V (q0 := 8) (ci := 4) (As := [.int z1]) (rest := []) X T (kX4_goesWell l D cy ad Xr S_27 z1 v2 h1) (cwV 1 hts gX4_best_X4_goesWell rfl rfl rfl (by decide +kernel) ⟨Nat.le_of_ble_eq_true rfl, Nat.le_of_ble_eq_true rfl⟩) rfl rfl rfl hl.1 rfl (Nat.le_of_ble_eq_true rfl) dX4_best_27 ⟨Nat.zero_le _, Nat.zero_le _⟩ (st2 := [.int v2.1]) (pc2 := 30) rfl rfl (fun H locs T => ?_)
    refine lv_if_ne (tgt := 35) hx hb dX4_best_30 (by decide) (fun hc => ?_) (fun hc => ?_)
    · replace hf := ifn hc hf
      refine lv_aload_n hx hb dX4_best_35 rfl (lv_at hl 0 rfl) ?_
      refine lv_iload_n hx hb dX4_best_36 rfl (lv_at hl 1 rfl) ?_
      obtain ⟨v4, h3, hf⟩ := bnd_inv hf
      refine cg_V (q0 := 8) (ci := 4) (As := [.int y1]) (rest := []) X T (kX4_look l D cy ad Xr v2.2 y1 v4 h3) (cwV 1 hts gX4_best_X4_look rfl rfl rfl (by decide +kernel) ⟨Nat.le_of_ble_eq_true rfl, Nat.le_of_ble_eq_true rfl⟩) rfl rfl rfl hl.1 rfl (Nat.le_of_ble_eq_true rfl) dX4_best_37 ⟨Nat.zero_le _, Nat.zero_le _⟩ (st2 := [.int v4.1]) (pc2 := 40) rfl rfl (fun H locs T => ?_)
      refine lv_istore_n (lv' := [(2, .int v4.1), (0, .ref (ad 0)), (1, .int y1)]) hx hb dX4_best_40 rfl hl (by decide) rfl (fun ls hl => ?_)
      refine lv_aload_n hx hb dX4_best_41 rfl (lv_at hl 1 rfl) ?_
      refine va_get (D := D) (ci := 4) (v := .int (v4.2.1 7)) (C := RX4) (T := TX4) (N := 16) hx hb hts hin_X4 hown hK.1 T.1 8 rfl rfl 15 (by decide) (hts _ (List.mem_of_getElem? (i := 1) rfl)) (fun _ h9 => h9) rfl dX4_best_42 ?_
      exact rf_iw hf X T hr dX4_best_45
    · replace hf := ifp hc hf
      refine lv_iconst (v := 0) hx hb dX4_best_33 (by decide) ?_
      exact rf_iw hf X T hr dX4_best_34
  refine lv_aload_n hx hb dX4_best_0 rfl (lv_at hl 0 rfl) ?_
  refine lv_iload_n hx hb dX4_best_1 rfl (lv_at hl 1 rfl) ?_
  refine lv_iconst (v := 1) hx hb dX4_best_2 (by decide) ?_
  refine lv_iconst (v := 3) hx hb dX4_best_3 (by decide) ?_
  obtain ⟨v6, h5, hf⟩ := bnd_inv hf
  refine cg_S (As := [.int x1, .int 1, .int 3]) (rest := [.ref (ad 0)]) X T (kX4_in l D cy ad Xr S x1 1 3 v6 h5) (va_cwS 3 hts gX4_best_X4_in rfl rfl rfl (by decide +kernel) ⟨Nat.le_of_ble_eq_true rfl, Nat.le_of_ble_eq_true rfl⟩) rfl hl.1 rfl (Nat.le_of_ble_eq_true rfl) dX4_best_4 ⟨Nat.zero_le _, Nat.zero_le _⟩ (st2 := [.int v6, .ref (ad 0)]) (pc2 := 7) rfl rfl (fun H locs T => ?_)
  refine lv_if_ne (tgt := 14) hx hb dX4_best_7 (by decide) (fun hc => ?_) (fun hc => ?_)
  · replace hf := ifn hc hf
    refine lv_aload_n hx hb dX4_best_14 rfl (lv_at hl 0 rfl) ?_
    refine lv_iload_n hx hb dX4_best_15 rfl (lv_at hl 1 rfl) ?_
    obtain ⟨v8, h7, hf⟩ := bnd_inv hf
    refine cg_V (q0 := 8) (ci := 4) (As := [.int x1]) (rest := [.ref (ad 0)]) X T (kX4_canLook l D cy ad Xr S x1 v8 h7) (cwV 1 hts gX4_best_X4_canLook rfl rfl rfl (by decide +kernel) ⟨Nat.le_of_ble_eq_true rfl, Nat.le_of_ble_eq_true rfl⟩) rfl rfl rfl hl.1 rfl (Nat.le_of_ble_eq_true rfl) dX4_best_16 ⟨Nat.zero_le _, Nat.zero_le _⟩ (st2 := [.int v8, .ref (ad 0)]) (pc2 := 19) rfl rfl (fun H locs T => ?_)
    refine lv_if_eq (tgt := 26) hx hb dX4_best_19 (by decide) (fun hc => ?_) (fun hc => ?_)
    · replace hf := ifp hc hf
      refine lv_iconst (v := 2) hx hb dX4_best_26 (by decide) ?_
      exact j_27 x1 2 S _ _ _ hf T (lv_sub hl [0, 1] rfl)
    · replace hf := ifn hc hf
      refine lv_iconst (v := 0) hx hb dX4_best_22 (by decide) ?_
      refine lv_goto (tgt := 27) hx hb dX4_best_23 (by decide) ?_
      exact j_27 x1 0 S _ _ _ hf T (lv_sub hl [0, 1] rfl)
  · replace hf := ifp hc hf
    refine lv_iconst (v := 1) hx hb dX4_best_10 (by decide) ?_
    refine lv_goto (tgt := 27) hx hb dX4_best_11 (by decide) ?_
    exact j_27 x1 1 S _ _ _ hf T (lv_sub hl [0, 1] rfl)

noncomputable def fX4_reached_j62 (y1 : Int32) (y3 : Int32) (z0 : Int32) (z1 : Int32) (S_62 : SC) : Option ((Int32 × Int32 × SC) ⊕ (Int32 × SC)) :=
  nm (z0 + z1 : Int32) fun v1 =>
  nm (y3 + 1 : Int32) fun v2 =>
  some (.inl (v1, v2, S_62))
noncomputable def fX4_reached_b27 (y1 : Int32) : (Int32 × Int32 × SC) → Option ((Int32 × Int32 × SC) ⊕ (Int32 × SC)) :=
  fun st => match st with
    | (y2, y3, S_27) =>
      if (2 : Int32) ≤ y3 then
        ex <|
        some (y2, S_27)
      else
        ck (((2 : Int32) * y1) + y3) 20 <|
        nm (S_27.2 2 (((2 : Int32) * y1) + y3).toNatClampNeg : Int32) fun v3 =>
        if v3 = (-1) then
          fX4_reached_j62 y1 y3 y2 0 S_27
        else
          ck v3 125 <|
          fX4_reached_j62 y1 y3 y2 (S_27.2 1 v3.toNatClampNeg) S_27
noncomputable def fX4_reached_j15 (y1 : Int32) (z1 : Int32) (S_15 : SC) : Option (Int32 × SC) :=
  bnd (fX4_goesWell S_15 z1) fun v5 =>
  if v5.1 = 0 then
    some (0, v5.2)
  else
    loop (fX4_reached_b27 y1) FUEL (0, 0, v5.2)
noncomputable def fX4_reached (S : SC) (x1 : Int32) : Option (Int32 × SC) :=
  bnd (fX4_in S x1 0 1) fun v7 =>
  if v7 = 0 then
    fX4_reached_j15 x1 1 S
  else
    fX4_reached_j15 x1 0 S
set_option maxHeartbeats 4000000 in
set_option maxRecDepth 100000 in
theorem kX4_reached (l : Launch) (D : va_G) (cy : Nat → ClassId) (ad : Nat → Nat) (Xr : va_W) (S : SC) (x1 : Int32) (r : (Int32 × SC)) (hf : fX4_reached S x1 = some r) : CG l D cy (wM cy ad Xr) yX4_reached wsX4_reached ({ frames := 1, cells := 0, slots := 0, locals := 22 } : Room) [.ref (ad 0), .int x1] S (some (.int r.1)) r.2 := by
  refine CG.of (cc := cX4_reached) (maxL := 5) (ret := (some .int)) (by decide +kernel) rfl (Nat.le_of_ble_eq_true rfl) ?_
  intro p e s m below meth c A ls X hr T hl
  obtain ⟨hx, hb, hml, hown, hts, hlk, hK, hA, hwA⟩ := id X
  have hl : lv_has ls 5 [(0, .ref (ad 0)), (1, .int x1)] := hl
  have hin_X4 : ∀ w ∈ u_ws RX4 TX4 16, w ∈ wsX4_reached := fun w h => (List.mem_cons_of_mem _ (List.mem_append_right _ h))
  unfold fX4_reached at hf
  have l_27 : ∀ (y1 : Int32) (n : Nat) (y2 : Int32) (y3 : Int32) (S_27 : SC) (H : Heap) (locs : List Loc) (ls : Array Slot), loop (fX4_reached_b27 y1) n (y2, y3, S_27) = some r → ST D (wM cy ad Xr) A s S_27 H locs → lv_has ls 5 [(0, .ref (ad 0)), (1, .int y1), (2, .int y2), (3, .int y3)] → W p l e ({ frames := 1, cells := 0, slots := 0, locals := 22 } : Room) s m [.ref (ad 0), .int x1].toArray below meth c H locs 0 0 (MQ below (QG D (wM cy ad Xr) A (some (.int r.1)) r.2) [.ref (ad 0), .int x1].toArray s 0 0 A) (F0 m 27 ls []) := by
    intro y1 n
    induction n with
    | zero => intro _ _ _ _ _ _ hf; cases hf
    | succ n ih_27 =>
      intro y2 y3 S_27 H locs ls hf T hl
      obtain ⟨z_27, hf, hin_27, hex_27⟩ := loop_inv hf
      unfold fX4_reached_b27 at hf
      dsimp only at hf
      have j_62 : ∀ (y3 : Int32) (z0 : Int32) (z1 : Int32) (S_62 : SC) (H : Heap) (locs : List Loc) (ls : Array Slot), fX4_reached_j62 y1 y3 z0 z1 S_62 = some z_27 → ST D (wM cy ad Xr) A s S_62 H locs → lv_has ls 5 [(0, .ref (ad 0)), (1, .int y1), (3, .int y3)] → W p l e ({ frames := 1, cells := 0, slots := 0, locals := 22 } : Room) s m [.ref (ad 0), .int x1].toArray below meth c H locs 0 0 (MQ below (QG D (wM cy ad Xr) A (some (.int r.1)) r.2) [.ref (ad 0), .int x1].toArray s 0 0 A) (F0 m 62 ls [.int z1, .int z0]) := by
        intro y3 z0 z1 S_62 H locs ls hf T hl
        unfold fX4_reached_j62 at hf
        refine lv_iadd hx hb dX4_reached_62 ?_
        refine lv_topi (fun v1 e_v1 => ?_)
        replace hf := nm_use hf e_v1
        refine lv_istore_n (lv' := [(2, .int v1), (0, .ref (ad 0)), (1, .int y1), (3, .int y3)]) hx hb dX4_reached_63 rfl hl (by decide) rfl (fun ls hl => ?_)
        obtain ⟨v2, e_v2, hf⟩ := nm_inv hf
        refine lv_iinc (v := v2) (lv' := [(3, .int v2), (2, .int v1), (0, .ref (ad 0)), (1, .int y1)]) hx hb dX4_reached_64 hl (k := 3) rfl (by rw [e_v2]; rfl) (by decide) rfl (fun ls hl => ?_)
        refine lv_goto (tgt := 27) hx hb dX4_reached_67 (by decide) ?_
        exact ih_27 v1 v2 S_62 _ _ _ (hin_27 _ (Option.some.inj hf).symm) T (lv_sub hl [2, 3, 1, 0] rfl)
      refine lv_iload_n hx hb dX4_reached_27 rfl (lv_at hl 3 rfl) ?_
      refine lv_iconst (v := 2) hx hb dX4_reached_28 (by decide) ?_
      refine lv_icmp_ge (tgt := 70) hx hb dX4_reached_29 (by decide) (fun hc => ?_) (fun hc => ?_)
      · replace hf := ifp hc hf
        obtain ⟨r0, hf, hz⟩ := ex_inv hf
        rw [hex_27 r0 hz] at hf
        refine lv_iload_n hx hb dX4_reached_70 rfl (lv_at hl 2 rfl) ?_
        exact rf_iw hf X T hr dX4_reached_71
      · replace hf := ifn hc hf
        refine lv_aload_n hx hb dX4_reached_32 rfl (lv_at hl 0 rfl) ?_
        refine va_get (D := D) (ci := 4) (v := .ref (ad 3)) (C := RX4) (T := TX4) (N := 16) hx hb hts hin_X4 hown hK.1 T.1 8 rfl rfl 6 (by decide) (hts _ (List.mem_of_getElem? (i := 1) rfl)) (fun _ h9 => h9) rfl dX4_reached_33 ?_
        refine lv_iconst (v := 2) hx hb dX4_reached_36 (by decide) ?_
        refine lv_iload_n hx hb dX4_reached_37 rfl (lv_at hl 1 rfl) ?_
        refine lv_imul hx hb dX4_reached_38 ?_
        refine lv_iload_n hx hb dX4_reached_39 rfl (lv_at hl 3 rfl) ?_
        refine lv_iadd hx hb dX4_reached_40 ?_
        obtain ⟨hin, hf⟩ := ck_inv hf
        refine va_iald hx hb hK.1 T.1 5 0 rfl rfl hin dX4_reached_41 ?_
        refine lv_topi (fun v3 e_v3 => ?_)
        replace hf := nm_use hf e_v3
        refine lv_istore (lv' := [(4, .int v3), (0, .ref (ad 0)), (1, .int y1), (2, .int y2), (3, .int y3)]) hx hb dX4_reached_42 hl (by decide) rfl (fun ls hl => ?_)
        refine lv_iload_n hx hb dX4_reached_44 rfl (lv_at hl 3 rfl) ?_
        refine lv_iload hx hb dX4_reached_45 (lv_at hl 0 rfl) ?_
        refine lv_iconst (v := (-1)) hx hb dX4_reached_47 (by decide) ?_
        refine lv_icmp_ne (tgt := 55) hx hb dX4_reached_48 (by decide) (fun hc => ?_) (fun hc => ?_)
        · replace hf := ifn hc hf
          refine lv_aload_n hx hb dX4_reached_55 rfl (lv_at hl 1 rfl) ?_
          refine va_get (D := D) (ci := 4) (v := .ref (ad 2)) (C := RX4) (T := TX4) (N := 16) hx hb hts hin_X4 hown hK.1 T.1 8 rfl rfl 5 (by decide) (hts _ (List.mem_of_getElem? (i := 2) rfl)) (fun _ h9 => h9) rfl dX4_reached_56 ?_
          refine lv_iload hx hb dX4_reached_59 (lv_at hl 0 rfl) ?_
          obtain ⟨hin, hf⟩ := ck_inv hf
          refine va_iald hx hb hK.1 T.1 6 0 rfl rfl hin dX4_reached_61 ?_
          exact j_62 y3 y2 (S_27.2 1 v3.toNatClampNeg) S_27 _ _ _ hf T (lv_sub hl [1, 2, 4] rfl)
        · replace hf := ifp hc hf
          refine lv_iconst (v := 0) hx hb dX4_reached_51 (by decide) ?_
          refine lv_goto (tgt := 62) hx hb dX4_reached_52 (by decide) ?_
          exact j_62 y3 y2 0 S_27 _ _ _ hf T (lv_sub hl [1, 2, 4] rfl)
  have j_15 : ∀ (y1 : Int32) (z1 : Int32) (S_15 : SC) (H : Heap) (locs : List Loc) (ls : Array Slot), fX4_reached_j15 y1 z1 S_15 = some r → ST D (wM cy ad Xr) A s S_15 H locs → lv_has ls 5 [(0, .ref (ad 0)), (1, .int y1)] → W p l e ({ frames := 1, cells := 0, slots := 0, locals := 22 } : Room) s m [.ref (ad 0), .int x1].toArray below meth c H locs 0 0 (MQ below (QG D (wM cy ad Xr) A (some (.int r.1)) r.2) [.ref (ad 0), .int x1].toArray s 0 0 A) (F0 m 15 ls [.int z1, .ref (ad 0)]) := by
    intro y1 z1 S_15 H locs ls hf T hl
    unfold fX4_reached_j15 at hf
    obtain ⟨v5, h4, hf⟩ := bnd_inv hf
    refine cg_V (q0 := 8) (ci := 4) (As := [.int z1]) (rest := []) X T (kX4_goesWell l D cy ad Xr S_15 z1 v5 h4) (cwV 1 hts gX4_reached_X4_goesWell rfl rfl rfl (by decide +kernel) ⟨Nat.le_of_ble_eq_true rfl, Nat.le_of_ble_eq_true rfl⟩) rfl rfl rfl hl.1 rfl (Nat.le_of_ble_eq_true rfl) dX4_reached_15 ⟨Nat.zero_le _, Nat.zero_le _⟩ (st2 := [.int v5.1]) (pc2 := 18) rfl rfl (fun H locs T => ?_)
    refine lv_if_ne (tgt := 23) hx hb dX4_reached_18 (by decide) (fun hc => ?_) (fun hc => ?_)
    · replace hf := ifn hc hf
      refine lv_iconst (v := 0) hx hb dX4_reached_23 (by decide) ?_
      refine lv_istore_n (lv' := [(2, .int 0), (0, .ref (ad 0)), (1, .int y1)]) hx hb dX4_reached_24 rfl hl (by decide) rfl (fun ls hl => ?_)
      refine lv_iconst (v := 0) hx hb dX4_reached_25 (by decide) ?_
      refine lv_istore_n (lv' := [(3, .int 0), (2, .int 0), (0, .ref (ad 0)), (1, .int y1)]) hx hb dX4_reached_26 rfl hl (by decide) rfl (fun ls hl => ?_)
      exact l_27 y1 FUEL 0 0 v5.2 _ _ _ hf T (lv_sub hl [2, 3, 1, 0] rfl)
    · replace hf := ifp hc hf
      refine lv_iconst (v := 0) hx hb dX4_reached_21 (by decide) ?_
      exact rf_iw hf X T hr dX4_reached_22
  refine lv_aload_n hx hb dX4_reached_0 rfl (lv_at hl 0 rfl) ?_
  refine lv_iload_n hx hb dX4_reached_1 rfl (lv_at hl 1 rfl) ?_
  refine lv_iconst (v := 0) hx hb dX4_reached_2 (by decide) ?_
  refine lv_iconst (v := 1) hx hb dX4_reached_3 (by decide) ?_
  obtain ⟨v7, h6, hf⟩ := bnd_inv hf
  refine cg_S (As := [.int x1, .int 0, .int 1]) (rest := [.ref (ad 0)]) X T (kX4_in l D cy ad Xr S x1 0 1 v7 h6) (va_cwS 3 hts gX4_reached_X4_in rfl rfl rfl (by decide +kernel) ⟨Nat.le_of_ble_eq_true rfl, Nat.le_of_ble_eq_true rfl⟩) rfl hl.1 rfl (Nat.le_of_ble_eq_true rfl) dX4_reached_4 ⟨Nat.zero_le _, Nat.zero_le _⟩ (st2 := [.int v7, .ref (ad 0)]) (pc2 := 7) rfl rfl (fun H locs T => ?_)
  refine lv_if_eq (tgt := 14) hx hb dX4_reached_7 (by decide) (fun hc => ?_) (fun hc => ?_)
  · replace hf := ifp hc hf
    refine lv_iconst (v := 1) hx hb dX4_reached_14 (by decide) ?_
    exact j_15 x1 1 S _ _ _ hf T (lv_sub hl [0, 1] rfl)
  · replace hf := ifn hc hf
    refine lv_iconst (v := 0) hx hb dX4_reached_10 (by decide) ?_
    refine lv_goto (tgt := 15) hx hb dX4_reached_11 (by decide) ?_
    exact j_15 x1 0 S _ _ _ hf T (lv_sub hl [0, 1] rfl)
