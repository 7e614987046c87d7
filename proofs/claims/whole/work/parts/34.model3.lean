noncomputable def fX4_begin_j88 (y1 : Int32) (y2 : Int32) (y3 : Int32) (y4 : Int32) (y5 : Int32) (z1 : Int32) (S_88 : SC) : Option (Int32 × SC) :=
  bnd (fX4_goesWell S_88 z1) fun v2 =>
  if v2.1 = 0 then
    some (0, v2.2)
  else
    nm (setS v2.2 1 y1 : SC) fun S3 =>
    nm (setS S3 2 y2 : SC) fun S4 =>
    nm (setS S4 3 y3 : SC) fun S5 =>
    ck 0 2 <|
    nm (setA S5 0 0 y4 : SC) fun S6 =>
    ck 1 2 <|
    nm (setA S6 0 1 y5 : SC) fun S7 =>
    bnd (fX4_lay S7) fun S9 =>
    bnd (fX4_cells S9) fun v11 =>
    some (v11, S9)
noncomputable def fX4_begin_j75 (y1 : Int32) (y2 : Int32) (y3 : Int32) (y4 : Int32) (y5 : Int32) (z0 : Int32) (S_75 : SC) : Option (Int32 × SC) :=
  if z0 = 0 then
    fX4_begin_j88 y1 y2 y3 y4 y5 1 S_75
  else
    fX4_begin_j88 y1 y2 y3 y4 y5 0 S_75
noncomputable def fX4_begin_j74 (y1 : Int32) (y2 : Int32) (y3 : Int32) (y4 : Int32) (y5 : Int32) (S_74 : SC) : Option (Int32 × SC) :=
  fX4_begin_j75 y1 y2 y3 y4 y5 0 S_74
noncomputable def fX4_begin_j32 (y1 : Int32) (y2 : Int32) (y3 : Int32) (y4 : Int32) (y5 : Int32) (z0 : Int32) (S_32 : SC) : Option (Int32 × SC) :=
  if z0 = 0 then
    fX4_begin_j74 y1 y2 y3 y4 y5 S_32
  else
    bnd (fX4_in S_32 y4 0 6) fun v13 =>
    if v13 = 0 then
      fX4_begin_j74 y1 y2 y3 y4 y5 S_32
    else
      bnd (fX4_in S_32 y5 0 6) fun v15 =>
      if v15 = 0 then
        fX4_begin_j74 y1 y2 y3 y4 y5 S_32
      else
        if y1 * y2 ≤ (2 : Int32) * y3 then
          fX4_begin_j74 y1 y2 y3 y4 y5 S_32
        else
          fX4_begin_j75 y1 y2 y3 y4 y5 1 S_32
noncomputable def fX4_begin_j31 (y1 : Int32) (y2 : Int32) (y3 : Int32) (y4 : Int32) (y5 : Int32) (S_31 : SC) : Option (Int32 × SC) :=
  fX4_begin_j32 y1 y2 y3 y4 y5 0 S_31
noncomputable def fX4_begin (S : SC) (x1 : Int32) (x2 : Int32) (x3 : Int32) (x4 : Int32) (x5 : Int32) : Option (Int32 × SC) :=
  bnd (fX4_in S x1 2 5) fun v17 =>
  if v17 = 0 then
    fX4_begin_j31 x1 x2 x3 x4 x5 S
  else
    bnd (fX4_in S x2 2 5) fun v19 =>
    if v19 = 0 then
      fX4_begin_j31 x1 x2 x3 x4 x5 S
    else
      bnd (fX4_in S x3 1 2) fun v21 =>
      if v21 = 0 then
        fX4_begin_j31 x1 x2 x3 x4 x5 S
      else
        fX4_begin_j32 x1 x2 x3 x4 x5 1 S
set_option maxHeartbeats 4000000 in
set_option maxRecDepth 100000 in
theorem kX4_begin (l : Launch) (D : va_G) (cy : Nat → ClassId) (ad : Nat → Nat) (Xr : va_W) (S : SC) (x1 : Int32) (x2 : Int32) (x3 : Int32) (x4 : Int32) (x5 : Int32) (r : (Int32 × SC)) (hf : fX4_begin S x1 x2 x3 x4 x5 = some r) : CG l D cy (wM cy ad Xr) yX4_begin wsX4_begin ({ frames := 1, cells := 0, slots := 0, locals := 22 } : Room) [.ref (ad 0), .int x1, .int x2, .int x3, .int x4, .int x5] S (some (.int r.1)) r.2 := by
  refine CG.of (cc := cX4_begin) (maxL := 8) (ret := (some .int)) (by decide +kernel) rfl (Nat.le_of_ble_eq_true rfl) ?_
  intro p e s m below meth c A ls X hr T hl
  obtain ⟨hx, hb, hml, hown, hts, hlk, hK, hA, hwA⟩ := id X
  have hl : lv_has ls 8 [(0, .ref (ad 0)), (1, .int x1), (2, .int x2), (3, .int x3), (4, .int x4), (5, .int x5)] := hl
  have hin_X4 : ∀ w ∈ u_ws RX4 TX4 16, w ∈ wsX4_begin := fun w h => (List.mem_cons_of_mem _ (List.mem_append_right _ h))
  unfold fX4_begin at hf
  have j_88 : ∀ (y1 : Int32) (y2 : Int32) (y3 : Int32) (y4 : Int32) (y5 : Int32) (z1 : Int32) (S_88 : SC) (H : Heap) (locs : List Loc) (ls : Array Slot), fX4_begin_j88 y1 y2 y3 y4 y5 z1 S_88 = some r → ST D (wM cy ad Xr) A s S_88 H locs → lv_has ls 8 [(0, .ref (ad 0)), (1, .int y1), (2, .int y2), (3, .int y3), (4, .int y4), (5, .int y5)] → W p l e ({ frames := 1, cells := 0, slots := 0, locals := 22 } : Room) s m [.ref (ad 0), .int x1, .int x2, .int x3, .int x4, .int x5].toArray below meth c H locs 0 0 (MQ below (QG D (wM cy ad Xr) A (some (.int r.1)) r.2) [.ref (ad 0), .int x1, .int x2, .int x3, .int x4, .int x5].toArray s 0 0 A) (F0 m 88 ls [.int z1, .ref (ad 0)]) := by
    intro y1 y2 y3 y4 y5 z1 S_88 H locs ls hf T hl
    unfold fX4_begin_j88 at hf
    obtain ⟨v2, h1, hf⟩ := bnd_inv hf
    refine cg_V (q0 := 8) (ci := 4) (As := [.int z1]) (rest := []) X T (kX4_goesWell l D cy ad Xr S_88 z1 v2 h1) (cwV 1 hts gX4_begin_X4_goesWell rfl rfl rfl (by decide +kernel) ⟨Nat.le_of_ble_eq_true rfl, Nat.le_of_ble_eq_true rfl⟩) rfl rfl rfl hl.1 rfl (Nat.le_of_ble_eq_true rfl) dX4_begin_88 ⟨Nat.zero_le _, Nat.zero_le _⟩ (st2 := [.int v2.1]) (pc2 := 91) rfl rfl (fun H locs T => ?_)
    refine lv_if_ne (tgt := 96) hx hb dX4_begin_91 (by decide) (fun hc => ?_) (fun hc => ?_)
    · replace hf := ifn hc hf
      refine lv_aload_n hx hb dX4_begin_96 rfl (lv_at hl 0 rfl) ?_
      refine lv_iload_n hx hb dX4_begin_97 rfl (lv_at hl 1 rfl) ?_
      obtain ⟨S3, e_S3, hf⟩ := nm_inv hf
      refine va_put (D := D) (ci := 4) (v := .int y1) (ty := .int) (C := RX4) (T := TX4) (N := 16) hx hb hts hin_X4 tyX4 tyX4_ok nmX4 hown hK.1 T.1 T.2.1 T.2.2 8 rfl rfl 1 (by decide) (hts _ (List.mem_of_getElem? (i := 1) rfl)) (fun _ h9 => h9) rfl (by decide +kernel) rfl rfl (Nat.le_of_ble_eq_true rfl) dX4_begin_98 (fun H locs hP hD hS => ?_)
      have T : ST D (wM cy ad Xr) A s S3 H locs := ⟨by rw [e_S3]; exact hP, by rw [e_S3]; exact hD, hS⟩
      refine lv_aload_n hx hb dX4_begin_101 rfl (lv_at hl 0 rfl) ?_
      refine lv_iload_n hx hb dX4_begin_102 rfl (lv_at hl 2 rfl) ?_
      obtain ⟨S4, e_S4, hf⟩ := nm_inv hf
      refine va_put (D := D) (ci := 4) (v := .int y2) (ty := .int) (C := RX4) (T := TX4) (N := 16) hx hb hts hin_X4 tyX4 tyX4_ok nmX4 hown hK.1 T.1 T.2.1 T.2.2 8 rfl rfl 2 (by decide) (hts _ (List.mem_of_getElem? (i := 2) rfl)) (fun _ h9 => h9) rfl (by decide +kernel) rfl rfl (Nat.le_of_ble_eq_true rfl) dX4_begin_103 (fun H locs hP hD hS => ?_)
      have T : ST D (wM cy ad Xr) A s S4 H locs := ⟨by rw [e_S4]; exact hP, by rw [e_S4]; exact hD, hS⟩
      refine lv_aload_n hx hb dX4_begin_106 rfl (lv_at hl 0 rfl) ?_
      refine lv_iload_n hx hb dX4_begin_107 rfl (lv_at hl 3 rfl) ?_
      obtain ⟨S5, e_S5, hf⟩ := nm_inv hf
      refine va_put (D := D) (ci := 4) (v := .int y3) (ty := .int) (C := RX4) (T := TX4) (N := 16) hx hb hts hin_X4 tyX4 tyX4_ok nmX4 hown hK.1 T.1 T.2.1 T.2.2 8 rfl rfl 3 (by decide) (hts _ (List.mem_of_getElem? (i := 3) rfl)) (fun _ h9 => h9) rfl (by decide +kernel) rfl rfl (Nat.le_of_ble_eq_true rfl) dX4_begin_108 (fun H locs hP hD hS => ?_)
      have T : ST D (wM cy ad Xr) A s S5 H locs := ⟨by rw [e_S5]; exact hP, by rw [e_S5]; exact hD, hS⟩
      refine lv_aload_n hx hb dX4_begin_111 rfl (lv_at hl 0 rfl) ?_
      refine va_get (D := D) (ci := 4) (v := .ref (ad 1)) (C := RX4) (T := TX4) (N := 16) hx hb hts hin_X4 hown hK.1 T.1 8 rfl rfl 4 (by decide) (hts _ (List.mem_of_getElem? (i := 4) rfl)) (fun _ h9 => h9) rfl dX4_begin_112 ?_
      refine lv_iconst (v := 0) hx hb dX4_begin_115 (by decide) ?_
      refine lv_iload hx hb dX4_begin_116 (lv_at hl 4 rfl) ?_
      obtain ⟨hin, hf⟩ := ck_inv hf
      obtain ⟨S6, e_S6, hf⟩ := nm_inv hf
      refine va_iast hx hb hK.1 T.1 T.2.1 T.2.2 7 0 rfl rfl hin dX4_begin_118 (fun H locs hP hD hS => ?_)
      have T : ST D (wM cy ad Xr) A s S6 H locs := ⟨by rw [e_S6]; exact hP, by rw [e_S6]; exact hD, hS⟩
      refine lv_aload_n hx hb dX4_begin_119 rfl (lv_at hl 0 rfl) ?_
      refine va_get (D := D) (ci := 4) (v := .ref (ad 1)) (C := RX4) (T := TX4) (N := 16) hx hb hts hin_X4 hown hK.1 T.1 8 rfl rfl 4 (by decide) (hts _ (List.mem_of_getElem? (i := 4) rfl)) (fun _ h9 => h9) rfl dX4_begin_120 ?_
      refine lv_iconst (v := 1) hx hb dX4_begin_123 (by decide) ?_
      refine lv_iload hx hb dX4_begin_124 (lv_at hl 5 rfl) ?_
      obtain ⟨hin, hf⟩ := ck_inv hf
      obtain ⟨S7, e_S7, hf⟩ := nm_inv hf
      refine va_iast hx hb hK.1 T.1 T.2.1 T.2.2 7 0 rfl rfl hin dX4_begin_126 (fun H locs hP hD hS => ?_)
      have T : ST D (wM cy ad Xr) A s S7 H locs := ⟨by rw [e_S7]; exact hP, by rw [e_S7]; exact hD, hS⟩
      refine lv_aload_n hx hb dX4_begin_127 rfl (lv_at hl 0 rfl) ?_
      obtain ⟨S9, h8, hf⟩ := bnd_inv hf
      refine cg_V (q0 := 8) (ci := 4) (As := []) (rest := []) X T (kX4_lay l D cy ad Xr S7 S9 h8) (cwV 0 hts gX4_begin_X4_lay rfl rfl rfl (by decide +kernel) ⟨Nat.le_of_ble_eq_true rfl, Nat.le_of_ble_eq_true rfl⟩) rfl rfl rfl hl.1 rfl (Nat.le_of_ble_eq_true rfl) dX4_begin_128 ⟨Nat.zero_le _, Nat.zero_le _⟩ (st2 := []) (pc2 := 131) rfl rfl (fun H locs T => ?_)
      refine lv_aload_n hx hb dX4_begin_131 rfl (lv_at hl 0 rfl) ?_
      obtain ⟨v11, h10, hf⟩ := bnd_inv hf
      refine cg_V (q0 := 8) (ci := 4) (As := []) (rest := []) X T (kX4_cells l D cy ad Xr S9 v11 h10) (cwV 0 hts gX4_begin_X4_cells rfl rfl rfl (by decide +kernel) ⟨Nat.le_of_ble_eq_true rfl, Nat.le_of_ble_eq_true rfl⟩) rfl rfl rfl hl.1 rfl (Nat.le_of_ble_eq_true rfl) dX4_begin_132 ⟨Nat.zero_le _, Nat.zero_le _⟩ (st2 := [.int v11]) (pc2 := 135) rfl rfl (fun H locs T => ?_)
      exact rf_iw hf X T hr dX4_begin_135
    · replace hf := ifp hc hf
      refine lv_iconst (v := 0) hx hb dX4_begin_94 (by decide) ?_
      exact rf_iw hf X T hr dX4_begin_95
  have j_75 : ∀ (y1 : Int32) (y2 : Int32) (y3 : Int32) (y4 : Int32) (y5 : Int32) (z0 : Int32) (S_75 : SC) (H : Heap) (locs : List Loc) (ls : Array Slot), fX4_begin_j75 y1 y2 y3 y4 y5 z0 S_75 = some r → ST D (wM cy ad Xr) A s S_75 H locs → lv_has ls 8 [(0, .ref (ad 0)), (1, .int y1), (2, .int y2), (3, .int y3), (4, .int y4), (5, .int y5)] → W p l e ({ frames := 1, cells := 0, slots := 0, locals := 22 } : Room) s m [.ref (ad 0), .int x1, .int x2, .int x3, .int x4, .int x5].toArray below meth c H locs 0 0 (MQ below (QG D (wM cy ad Xr) A (some (.int r.1)) r.2) [.ref (ad 0), .int x1, .int x2, .int x3, .int x4, .int x5].toArray s 0 0 A) (F0 m 75 ls [.int z0]) := by
    intro y1 y2 y3 y4 y5 z0 S_75 H locs ls hf T hl
    unfold fX4_begin_j75 at hf
    refine lv_istore (lv' := [(7, .int z0), (0, .ref (ad 0)), (1, .int y1), (2, .int y2), (3, .int y3), (4, .int y4), (5, .int y5)]) hx hb dX4_begin_75 hl (by decide) rfl (fun ls hl => ?_)
    refine lv_aload_n hx hb dX4_begin_77 rfl (lv_at hl 1 rfl) ?_
    refine lv_iload hx hb dX4_begin_78 (lv_at hl 0 rfl) ?_
    refine lv_if_eq (tgt := 87) hx hb dX4_begin_80 (by decide) (fun hc => ?_) (fun hc => ?_)
    · replace hf := ifp hc hf
      refine lv_iconst (v := 1) hx hb dX4_begin_87 (by decide) ?_
      exact j_88 y1 y2 y3 y4 y5 1 S_75 _ _ _ hf T (lv_sub hl [1, 2, 3, 4, 5, 6] rfl)
    · replace hf := ifn hc hf
      refine lv_iconst (v := 0) hx hb dX4_begin_83 (by decide) ?_
      refine lv_goto (tgt := 88) hx hb dX4_begin_84 (by decide) ?_
      exact j_88 y1 y2 y3 y4 y5 0 S_75 _ _ _ hf T (lv_sub hl [1, 2, 3, 4, 5, 6] rfl)
  have j_74 : ∀ (y1 : Int32) (y2 : Int32) (y3 : Int32) (y4 : Int32) (y5 : Int32) (S_74 : SC) (H : Heap) (locs : List Loc) (ls : Array Slot), fX4_begin_j74 y1 y2 y3 y4 y5 S_74 = some r → ST D (wM cy ad Xr) A s S_74 H locs → lv_has ls 8 [(0, .ref (ad 0)), (1, .int y1), (2, .int y2), (3, .int y3), (4, .int y4), (5, .int y5)] → W p l e ({ frames := 1, cells := 0, slots := 0, locals := 22 } : Room) s m [.ref (ad 0), .int x1, .int x2, .int x3, .int x4, .int x5].toArray below meth c H locs 0 0 (MQ below (QG D (wM cy ad Xr) A (some (.int r.1)) r.2) [.ref (ad 0), .int x1, .int x2, .int x3, .int x4, .int x5].toArray s 0 0 A) (F0 m 74 ls []) := by
    intro y1 y2 y3 y4 y5 S_74 H locs ls hf T hl
    unfold fX4_begin_j74 at hf
    refine lv_iconst (v := 0) hx hb dX4_begin_74 (by decide) ?_
    exact j_75 y1 y2 y3 y4 y5 0 S_74 _ _ _ hf T (lv_sub hl [0, 1, 2, 3, 4, 5] rfl)
  have j_32 : ∀ (y1 : Int32) (y2 : Int32) (y3 : Int32) (y4 : Int32) (y5 : Int32) (z0 : Int32) (S_32 : SC) (H : Heap) (locs : List Loc) (ls : Array Slot), fX4_begin_j32 y1 y2 y3 y4 y5 z0 S_32 = some r → ST D (wM cy ad Xr) A s S_32 H locs → lv_has ls 8 [(0, .ref (ad 0)), (1, .int y1), (2, .int y2), (3, .int y3), (4, .int y4), (5, .int y5)] → W p l e ({ frames := 1, cells := 0, slots := 0, locals := 22 } : Room) s m [.ref (ad 0), .int x1, .int x2, .int x3, .int x4, .int x5].toArray below meth c H locs 0 0 (MQ below (QG D (wM cy ad Xr) A (some (.int r.1)) r.2) [.ref (ad 0), .int x1, .int x2, .int x3, .int x4, .int x5].toArray s 0 0 A) (F0 m 32 ls [.int z0]) := by
    intro y1 y2 y3 y4 y5 z0 S_32 H locs ls hf T hl
    unfold fX4_begin_j32 at hf
    refine lv_istore (lv' := [(6, .int z0), (0, .ref (ad 0)), (1, .int y1), (2, .int y2), (3, .int y3), (4, .int y4), (5, .int y5)]) hx hb dX4_begin_32 hl (by decide) rfl (fun ls hl => ?_)
    refine lv_iload hx hb dX4_begin_34 (lv_at hl 0 rfl) ?_
    refine lv_if_eq (tgt := 74) hx hb dX4_begin_36 (by decide) (fun hc => ?_) (fun hc => ?_)
    · replace hf := ifp hc hf
      exact j_74 y1 y2 y3 y4 y5 S_32 _ _ _ hf T (lv_sub hl [1, 2, 3, 4, 5, 6] rfl)
    · replace hf := ifn hc hf
      refine lv_iload hx hb dX4_begin_39 (lv_at hl 5 rfl) ?_
      refine lv_iconst (v := 0) hx hb dX4_begin_41 (by decide) ?_
      refine lv_bipush (v := 6) hx hb dX4_begin_42 (by decide) ?_
      obtain ⟨v13, h12, hf⟩ := bnd_inv hf
      refine cg_S (As := [.int y4, .int 0, .int 6]) (rest := []) X T (kX4_in l D cy ad Xr S_32 y4 0 6 v13 h12) (va_cwS 3 hts gX4_begin_X4_in rfl rfl rfl (by decide +kernel) ⟨Nat.le_of_ble_eq_true rfl, Nat.le_of_ble_eq_true rfl⟩) rfl hl.1 rfl (Nat.le_of_ble_eq_true rfl) dX4_begin_44 ⟨Nat.zero_le _, Nat.zero_le _⟩ (st2 := [.int v13]) (pc2 := 47) rfl rfl (fun H locs T => ?_)
      refine lv_if_eq (tgt := 74) hx hb dX4_begin_47 (by decide) (fun hc => ?_) (fun hc => ?_)
      · replace hf := ifp hc hf
        exact j_74 y1 y2 y3 y4 y5 S_32 _ _ _ hf T (lv_sub hl [1, 2, 3, 4, 5, 6] rfl)
      · replace hf := ifn hc hf
        refine lv_iload hx hb dX4_begin_50 (lv_at hl 6 rfl) ?_
        refine lv_iconst (v := 0) hx hb dX4_begin_52 (by decide) ?_
        refine lv_bipush (v := 6) hx hb dX4_begin_53 (by decide) ?_
        obtain ⟨v15, h14, hf⟩ := bnd_inv hf
        refine cg_S (As := [.int y5, .int 0, .int 6]) (rest := []) X T (kX4_in l D cy ad Xr S_32 y5 0 6 v15 h14) (va_cwS 3 hts gX4_begin_X4_in rfl rfl rfl (by decide +kernel) ⟨Nat.le_of_ble_eq_true rfl, Nat.le_of_ble_eq_true rfl⟩) rfl hl.1 rfl (Nat.le_of_ble_eq_true rfl) dX4_begin_55 ⟨Nat.zero_le _, Nat.zero_le _⟩ (st2 := [.int v15]) (pc2 := 58) rfl rfl (fun H locs T => ?_)
        refine lv_if_eq (tgt := 74) hx hb dX4_begin_58 (by decide) (fun hc => ?_) (fun hc => ?_)
        · replace hf := ifp hc hf
          exact j_74 y1 y2 y3 y4 y5 S_32 _ _ _ hf T (lv_sub hl [1, 2, 3, 4, 5, 6] rfl)
        · replace hf := ifn hc hf
          refine lv_iconst (v := 2) hx hb dX4_begin_61 (by decide) ?_
          refine lv_iload_n hx hb dX4_begin_62 rfl (lv_at hl 4 rfl) ?_
          refine lv_imul hx hb dX4_begin_63 ?_
          refine lv_iload_n hx hb dX4_begin_64 rfl (lv_at hl 2 rfl) ?_
          refine lv_iload_n hx hb dX4_begin_65 rfl (lv_at hl 3 rfl) ?_
          refine lv_imul hx hb dX4_begin_66 ?_
          refine lv_icmp_ge (tgt := 74) hx hb dX4_begin_67 (by decide) (fun hc => ?_) (fun hc => ?_)
          · replace hf := ifp hc hf
            exact j_74 y1 y2 y3 y4 y5 S_32 _ _ _ hf T (lv_sub hl [1, 2, 3, 4, 5, 6] rfl)
          · replace hf := ifn hc hf
            refine lv_iconst (v := 1) hx hb dX4_begin_70 (by decide) ?_
            refine lv_goto (tgt := 75) hx hb dX4_begin_71 (by decide) ?_
            exact j_75 y1 y2 y3 y4 y5 1 S_32 _ _ _ hf T (lv_sub hl [1, 2, 3, 4, 5, 6] rfl)
  have j_31 : ∀ (y1 : Int32) (y2 : Int32) (y3 : Int32) (y4 : Int32) (y5 : Int32) (S_31 : SC) (H : Heap) (locs : List Loc) (ls : Array Slot), fX4_begin_j31 y1 y2 y3 y4 y5 S_31 = some r → ST D (wM cy ad Xr) A s S_31 H locs → lv_has ls 8 [(0, .ref (ad 0)), (1, .int y1), (2, .int y2), (3, .int y3), (4, .int y4), (5, .int y5)] → W p l e ({ frames := 1, cells := 0, slots := 0, locals := 22 } : Room) s m [.ref (ad 0), .int x1, .int x2, .int x3, .int x4, .int x5].toArray below meth c H locs 0 0 (MQ below (QG D (wM cy ad Xr) A (some (.int r.1)) r.2) [.ref (ad 0), .int x1, .int x2, .int x3, .int x4, .int x5].toArray s 0 0 A) (F0 m 31 ls []) := by
    intro y1 y2 y3 y4 y5 S_31 H locs ls hf T hl
    unfold fX4_begin_j31 at hf
    refine lv_iconst (v := 0) hx hb dX4_begin_31 (by decide) ?_
    exact j_32 y1 y2 y3 y4 y5 0 S_31 _ _ _ hf T (lv_sub hl [0, 1, 2, 3, 4, 5] rfl)
  refine lv_iload_n hx hb dX4_begin_0 rfl (lv_at hl 1 rfl) ?_
  refine lv_iconst (v := 2) hx hb dX4_begin_1 (by decide) ?_
  refine lv_iconst (v := 5) hx hb dX4_begin_2 (by decide) ?_
  obtain ⟨v17, h16, hf⟩ := bnd_inv hf
  refine cg_S (As := [.int x1, .int 2, .int 5]) (rest := []) X T (kX4_in l D cy ad Xr S x1 2 5 v17 h16) (va_cwS 3 hts gX4_begin_X4_in rfl rfl rfl (by decide +kernel) ⟨Nat.le_of_ble_eq_true rfl, Nat.le_of_ble_eq_true rfl⟩) rfl hl.1 rfl (Nat.le_of_ble_eq_true rfl) dX4_begin_3 ⟨Nat.zero_le _, Nat.zero_le _⟩ (st2 := [.int v17]) (pc2 := 6) rfl rfl (fun H locs T => ?_)
  refine lv_if_eq (tgt := 31) hx hb dX4_begin_6 (by decide) (fun hc => ?_) (fun hc => ?_)
  · replace hf := ifp hc hf
    exact j_31 x1 x2 x3 x4 x5 S _ _ _ hf T (lv_sub hl [0, 1, 2, 3, 4, 5] rfl)
  · replace hf := ifn hc hf
    refine lv_iload_n hx hb dX4_begin_9 rfl (lv_at hl 2 rfl) ?_
    refine lv_iconst (v := 2) hx hb dX4_begin_10 (by decide) ?_
    refine lv_iconst (v := 5) hx hb dX4_begin_11 (by decide) ?_
    obtain ⟨v19, h18, hf⟩ := bnd_inv hf
    refine cg_S (As := [.int x2, .int 2, .int 5]) (rest := []) X T (kX4_in l D cy ad Xr S x2 2 5 v19 h18) (va_cwS 3 hts gX4_begin_X4_in rfl rfl rfl (by decide +kernel) ⟨Nat.le_of_ble_eq_true rfl, Nat.le_of_ble_eq_true rfl⟩) rfl hl.1 rfl (Nat.le_of_ble_eq_true rfl) dX4_begin_12 ⟨Nat.zero_le _, Nat.zero_le _⟩ (st2 := [.int v19]) (pc2 := 15) rfl rfl (fun H locs T => ?_)
    refine lv_if_eq (tgt := 31) hx hb dX4_begin_15 (by decide) (fun hc => ?_) (fun hc => ?_)
    · replace hf := ifp hc hf
      exact j_31 x1 x2 x3 x4 x5 S _ _ _ hf T (lv_sub hl [0, 1, 2, 3, 4, 5] rfl)
    · replace hf := ifn hc hf
      refine lv_iload_n hx hb dX4_begin_18 rfl (lv_at hl 3 rfl) ?_
      refine lv_iconst (v := 1) hx hb dX4_begin_19 (by decide) ?_
      refine lv_iconst (v := 2) hx hb dX4_begin_20 (by decide) ?_
      obtain ⟨v21, h20, hf⟩ := bnd_inv hf
      refine cg_S (As := [.int x3, .int 1, .int 2]) (rest := []) X T (kX4_in l D cy ad Xr S x3 1 2 v21 h20) (va_cwS 3 hts gX4_begin_X4_in rfl rfl rfl (by decide +kernel) ⟨Nat.le_of_ble_eq_true rfl, Nat.le_of_ble_eq_true rfl⟩) rfl hl.1 rfl (Nat.le_of_ble_eq_true rfl) dX4_begin_21 ⟨Nat.zero_le _, Nat.zero_le _⟩ (st2 := [.int v21]) (pc2 := 24) rfl rfl (fun H locs T => ?_)
      refine lv_if_eq (tgt := 31) hx hb dX4_begin_24 (by decide) (fun hc => ?_) (fun hc => ?_)
      · replace hf := ifp hc hf
        exact j_31 x1 x2 x3 x4 x5 S _ _ _ hf T (lv_sub hl [0, 1, 2, 3, 4, 5] rfl)
      · replace hf := ifn hc hf
        refine lv_iconst (v := 1) hx hb dX4_begin_27 (by decide) ?_
        refine lv_goto (tgt := 32) hx hb dX4_begin_28 (by decide) ?_
        exact j_32 x1 x2 x3 x4 x5 1 S _ _ _ hf T (lv_sub hl [0, 1, 2, 3, 4, 5] rfl)

noncomputable def fX4_place_j63 (y1 : Int32) (z1 : Int32) (S_63 : SC) : Option (Int32 × SC) :=
  bnd (fX4_goesWell S_63 z1) fun v2 =>
  if v2.1 = 0 then
    some (0, v2.2)
  else
    cp (¬ v2.2.1 3 = 0) <|
    cp (¬ v2.2.1 3 = 0) <|
    ck (((2 : Int32) * ((v2.2.1 4) / (v2.2.1 3))) + ((v2.2.1 4) - (v2.2.1 4) / (v2.2.1 3) * (v2.2.1 3))) 20 <|
    nm (setA v2.2 2 (((2 : Int32) * ((v2.2.1 4) / (v2.2.1 3))) + ((v2.2.1 4) - (v2.2.1 4) / (v2.2.1 3) * (v2.2.1 3))) y1 : SC) fun S3 =>
    nm (setS S3 4 ((S3.1 4) + 1) : SC) fun S4 =>
    bnd (fX4_judge S4) fun S6 =>
    bnd (fX4_onTurnNow S6) fun v8 =>
    some (v8, S6)
noncomputable def fX4_place_j40 (y1 : Int32) (z0 : Int32) (S_40 : SC) : Option (Int32 × SC) :=
  bnd (fX4_isCell S_40 y1) fun v10 =>
  if v10 = 0 then
    fX4_place_j63 y1 1 S_40
  else
    if z0 = 0 then
      fX4_place_j63 y1 0 S_40
    else
      fX4_place_j63 y1 2 S_40
noncomputable def fX4_place_j39 (y1 : Int32) (S_39 : SC) : Option (Int32 × SC) :=
  fX4_place_j40 y1 0 S_39
noncomputable def fX4_place_j35 (y1 : Int32) (S_35 : SC) : Option (Int32 × SC) :=
  fX4_place_j40 y1 1 S_35
noncomputable def fX4_place (S : SC) (x1 : Int32) : Option (Int32 × SC) :=
  bnd (fX4_isCell S x1) fun v12 =>
  if v12 = 0 then
    fX4_place_j39 x1 S
  else
    bnd (fX4_isPlaced S) fun v14 =>
    if v14 = 0 then
      bnd (fX4_builderIn S 0 x1) fun v16 =>
      if v16 = (-1) then
        ck x1 125 <|
        if S.2 1 x1.toNatClampNeg = 4 then
          fX4_place_j35 x1 S
        else
          fX4_place_j39 x1 S
      else
        fX4_place_j35 x1 S
    else
      fX4_place_j35 x1 S
set_option maxHeartbeats 4000000 in
set_option maxRecDepth 100000 in
theorem kX4_place (l : Launch) (D : va_G) (cy : Nat → ClassId) (ad : Nat → Nat) (Xr : va_W) (S : SC) (x1 : Int32) (r : (Int32 × SC)) (hf : fX4_place S x1 = some r) : CG l D cy (wM cy ad Xr) yX4_place wsX4_place ({ frames := 7, cells := 0, slots := 0, locals := 172 } : Room) [.ref (ad 0), .int x1] S (some (.int r.1)) r.2 := by
  refine CG.of (cc := cX4_place) (maxL := 3) (ret := (some .int)) (by decide +kernel) rfl (Nat.le_of_ble_eq_true rfl) ?_
  intro p e s m below meth c A ls X hr T hl
  obtain ⟨hx, hb, hml, hown, hts, hlk, hK, hA, hwA⟩ := id X
  have hl : lv_has ls 3 [(0, .ref (ad 0)), (1, .int x1)] := hl
  have hin_X4 : ∀ w ∈ u_ws RX4 TX4 16, w ∈ wsX4_place := fun w h => (List.mem_cons_of_mem _ (List.mem_append_right _ h))
  unfold fX4_place at hf
  have j_63 : ∀ (y1 : Int32) (z1 : Int32) (S_63 : SC) (H : Heap) (locs : List Loc) (ls : Array Slot), fX4_place_j63 y1 z1 S_63 = some r → ST D (wM cy ad Xr) A s S_63 H locs → lv_has ls 3 [(0, .ref (ad 0)), (1, .int y1)] → W p l e ({ frames := 7, cells := 0, slots := 0, locals := 172 } : Room) s m [.ref (ad 0), .int x1].toArray below meth c H locs 0 0 (MQ below (QG D (wM cy ad Xr) A (some (.int r.1)) r.2) [.ref (ad 0), .int x1].toArray s 0 0 A) (F0 m 63 ls [.int z1, .ref (ad 0)]) := by
    intro y1 z1 S_63 H locs ls hf T hl
    unfold fX4_place_j63 at hf
    obtain ⟨v2, h1, hf⟩ := bnd_inv hf
    refine cg_V (q0 := 8) (ci := 4) (As := [.int z1]) (rest := []) X T (kX4_goesWell l D cy ad Xr S_63 z1 v2 h1) (cwV 1 hts gX4_place_X4_goesWell rfl rfl rfl (by decide +kernel) ⟨Nat.le_of_ble_eq_true rfl, Nat.le_of_ble_eq_true rfl⟩) rfl rfl rfl hl.1 rfl (Nat.le_of_ble_eq_true rfl) dX4_place_63 ⟨Nat.zero_le _, Nat.zero_le _⟩ (st2 := [.int v2.1]) (pc2 := 66) rfl rfl (fun H locs T => ?_)
    refine lv_if_ne (tgt := 71) hx hb dX4_place_66 (by decide) (fun hc => ?_) (fun hc => ?_)
    · replace hf := ifn hc hf
      refine lv_aload_n hx hb dX4_place_71 rfl (lv_at hl 0 rfl) ?_
      refine va_get (D := D) (ci := 4) (v := .ref (ad 3)) (C := RX4) (T := TX4) (N := 16) hx hb hts hin_X4 hown hK.1 T.1 8 rfl rfl 6 (by decide) (hts _ (List.mem_of_getElem? (i := 2) rfl)) (fun _ h9 => h9) rfl dX4_place_72 ?_
      refine lv_iconst (v := 2) hx hb dX4_place_75 (by decide) ?_
      refine lv_aload_n hx hb dX4_place_76 rfl (lv_at hl 0 rfl) ?_
      refine va_get (D := D) (ci := 4) (v := .int (v2.2.1 4)) (C := RX4) (T := TX4) (N := 16) hx hb hts hin_X4 hown hK.1 T.1 8 rfl rfl 9 (by decide) (hts _ (List.mem_of_getElem? (i := 3) rfl)) (fun _ h9 => h9) rfl dX4_place_77 ?_
      refine lv_aload_n hx hb dX4_place_80 rfl (lv_at hl 0 rfl) ?_
      refine va_get (D := D) (ci := 4) (v := .int (v2.2.1 3)) (C := RX4) (T := TX4) (N := 16) hx hb hts hin_X4 hown hK.1 T.1 8 rfl rfl 3 (by decide) (hts _ (List.mem_of_getElem? (i := 4) rfl)) (fun _ h9 => h9) rfl dX4_place_81 ?_
      obtain ⟨hne, hf⟩ := cp_inv hf
      refine lv_idiv hx hb dX4_place_84 hne ?_
      refine lv_imul hx hb dX4_place_85 ?_
      refine lv_aload_n hx hb dX4_place_86 rfl (lv_at hl 0 rfl) ?_
      refine va_get (D := D) (ci := 4) (v := .int (v2.2.1 4)) (C := RX4) (T := TX4) (N := 16) hx hb hts hin_X4 hown hK.1 T.1 8 rfl rfl 9 (by decide) (hts _ (List.mem_of_getElem? (i := 3) rfl)) (fun _ h9 => h9) rfl dX4_place_87 ?_
      refine lv_aload_n hx hb dX4_place_90 rfl (lv_at hl 0 rfl) ?_
      refine va_get (D := D) (ci := 4) (v := .int (v2.2.1 3)) (C := RX4) (T := TX4) (N := 16) hx hb hts hin_X4 hown hK.1 T.1 8 rfl rfl 3 (by decide) (hts _ (List.mem_of_getElem? (i := 4) rfl)) (fun _ h9 => h9) rfl dX4_place_91 ?_
      obtain ⟨hne, hf⟩ := cp_inv hf
      refine lv_irem hx hb dX4_place_94 hne ?_
      refine lv_iadd hx hb dX4_place_95 ?_
      refine lv_iload_n hx hb dX4_place_96 rfl (lv_at hl 1 rfl) ?_
      obtain ⟨hin, hf⟩ := ck_inv hf
      obtain ⟨S3, e_S3, hf⟩ := nm_inv hf
      refine va_iast hx hb hK.1 T.1 T.2.1 T.2.2 5 0 rfl rfl hin dX4_place_97 (fun H locs hP hD hS => ?_)
      have T : ST D (wM cy ad Xr) A s S3 H locs := ⟨by rw [e_S3]; exact hP, by rw [e_S3]; exact hD, hS⟩
      refine lv_aload_n hx hb dX4_place_98 rfl (lv_at hl 0 rfl) ?_
      refine lv_dup hx hb dX4_place_99 rfl ?_
      refine va_get (D := D) (ci := 4) (v := .int (S3.1 4)) (C := RX4) (T := TX4) (N := 16) hx hb hts hin_X4 hown hK.1 T.1 8 rfl rfl 9 (by decide) (hts _ (List.mem_of_getElem? (i := 3) rfl)) (fun _ h9 => h9) rfl dX4_place_100 ?_
      refine lv_iconst (v := 1) hx hb dX4_place_103 (by decide) ?_
      refine lv_iadd hx hb dX4_place_104 ?_
      obtain ⟨S4, e_S4, hf⟩ := nm_inv hf
      refine va_put (D := D) (ci := 4) (v := .int ((S3.1 4) + 1)) (ty := .int) (C := RX4) (T := TX4) (N := 16) hx hb hts hin_X4 tyX4 tyX4_ok nmX4 hown hK.1 T.1 T.2.1 T.2.2 8 rfl rfl 9 (by decide) (hts _ (List.mem_of_getElem? (i := 3) rfl)) (fun _ h9 => h9) rfl (by decide +kernel) rfl rfl (Nat.le_of_ble_eq_true rfl) dX4_place_105 (fun H locs hP hD hS => ?_)
      have T : ST D (wM cy ad Xr) A s S4 H locs := ⟨by rw [e_S4]; exact hP, by rw [e_S4]; exact hD, hS⟩
      refine lv_aload_n hx hb dX4_place_108 rfl (lv_at hl 0 rfl) ?_
      obtain ⟨S6, h5, hf⟩ := bnd_inv hf
      refine cg_V (q0 := 8) (ci := 4) (As := []) (rest := []) X T (kX4_judge l D cy ad Xr S4 S6 h5) (cwV 0 hts gX4_place_X4_judge rfl rfl rfl (by decide +kernel) ⟨Nat.le_of_ble_eq_true rfl, Nat.le_of_ble_eq_true rfl⟩) rfl rfl rfl hl.1 rfl (Nat.le_of_ble_eq_true rfl) dX4_place_109 ⟨Nat.zero_le _, Nat.zero_le _⟩ (st2 := []) (pc2 := 112) rfl rfl (fun H locs T => ?_)
      refine lv_aload_n hx hb dX4_place_112 rfl (lv_at hl 0 rfl) ?_
      obtain ⟨v8, h7, hf⟩ := bnd_inv hf
      refine cg_V (q0 := 8) (ci := 4) (As := []) (rest := []) X T (kX4_onTurnNow l D cy ad Xr S6 v8 h7) (cwV 0 hts gX4_place_X4_onTurnNow rfl rfl rfl (by decide +kernel) ⟨Nat.le_of_ble_eq_true rfl, Nat.le_of_ble_eq_true rfl⟩) rfl rfl rfl hl.1 rfl (Nat.le_of_ble_eq_true rfl) dX4_place_113 ⟨Nat.zero_le _, Nat.zero_le _⟩ (st2 := [.int v8]) (pc2 := 116) rfl rfl (fun H locs T => ?_)
      exact rf_iw hf X T hr dX4_place_116
    · replace hf := ifp hc hf
      refine lv_iconst (v := 0) hx hb dX4_place_69 (by decide) ?_
      exact rf_iw hf X T hr dX4_place_70
  have j_40 : ∀ (y1 : Int32) (z0 : Int32) (S_40 : SC) (H : Heap) (locs : List Loc) (ls : Array Slot), fX4_place_j40 y1 z0 S_40 = some r → ST D (wM cy ad Xr) A s S_40 H locs → lv_has ls 3 [(0, .ref (ad 0)), (1, .int y1)] → W p l e ({ frames := 7, cells := 0, slots := 0, locals := 172 } : Room) s m [.ref (ad 0), .int x1].toArray below meth c H locs 0 0 (MQ below (QG D (wM cy ad Xr) A (some (.int r.1)) r.2) [.ref (ad 0), .int x1].toArray s 0 0 A) (F0 m 40 ls [.int z0]) := by
    intro y1 z0 S_40 H locs ls hf T hl
    unfold fX4_place_j40 at hf
    refine lv_istore_n (lv' := [(2, .int z0), (0, .ref (ad 0)), (1, .int y1)]) hx hb dX4_place_40 rfl hl (by decide) rfl (fun ls hl => ?_)
    refine lv_aload_n hx hb dX4_place_41 rfl (lv_at hl 1 rfl) ?_
    refine lv_aload_n hx hb dX4_place_42 rfl (lv_at hl 1 rfl) ?_
    refine lv_iload_n hx hb dX4_place_43 rfl (lv_at hl 2 rfl) ?_
    obtain ⟨v10, h9, hf⟩ := bnd_inv hf
    refine cg_V (q0 := 8) (ci := 4) (As := [.int y1]) (rest := [.ref (ad 0)]) X T (kX4_isCell l D cy ad Xr S_40 y1 v10 h9) (cwV 1 hts gX4_place_X4_isCell rfl rfl rfl (by decide +kernel) ⟨Nat.le_of_ble_eq_true rfl, Nat.le_of_ble_eq_true rfl⟩) rfl rfl rfl hl.1 rfl (Nat.le_of_ble_eq_true rfl) dX4_place_44 ⟨Nat.zero_le _, Nat.zero_le _⟩ (st2 := [.int v10, .ref (ad 0)]) (pc2 := 47) rfl rfl (fun H locs T => ?_)
    refine lv_if_ne (tgt := 54) hx hb dX4_place_47 (by decide) (fun hc => ?_) (fun hc => ?_)
    · replace hf := ifn hc hf
      refine lv_iload_n hx hb dX4_place_54 rfl (lv_at hl 0 rfl) ?_
      refine lv_if_eq (tgt := 62) hx hb dX4_place_55 (by decide) (fun hc => ?_) (fun hc => ?_)
      · replace hf := ifp hc hf
        refine lv_iconst (v := 0) hx hb dX4_place_62 (by decide) ?_
        exact j_63 y1 0 S_40 _ _ _ hf T (lv_sub hl [1, 2] rfl)
      · replace hf := ifn hc hf
        refine lv_iconst (v := 2) hx hb dX4_place_58 (by decide) ?_
        refine lv_goto (tgt := 63) hx hb dX4_place_59 (by decide) ?_
        exact j_63 y1 2 S_40 _ _ _ hf T (lv_sub hl [1, 2] rfl)
    · replace hf := ifp hc hf
      refine lv_iconst (v := 1) hx hb dX4_place_50 (by decide) ?_
      refine lv_goto (tgt := 63) hx hb dX4_place_51 (by decide) ?_
      exact j_63 y1 1 S_40 _ _ _ hf T (lv_sub hl [1, 2] rfl)
  have j_39 : ∀ (y1 : Int32) (S_39 : SC) (H : Heap) (locs : List Loc) (ls : Array Slot), fX4_place_j39 y1 S_39 = some r → ST D (wM cy ad Xr) A s S_39 H locs → lv_has ls 3 [(0, .ref (ad 0)), (1, .int y1)] → W p l e ({ frames := 7, cells := 0, slots := 0, locals := 172 } : Room) s m [.ref (ad 0), .int x1].toArray below meth c H locs 0 0 (MQ below (QG D (wM cy ad Xr) A (some (.int r.1)) r.2) [.ref (ad 0), .int x1].toArray s 0 0 A) (F0 m 39 ls []) := by
    intro y1 S_39 H locs ls hf T hl
    unfold fX4_place_j39 at hf
    refine lv_iconst (v := 0) hx hb dX4_place_39 (by decide) ?_
    exact j_40 y1 0 S_39 _ _ _ hf T (lv_sub hl [0, 1] rfl)
  have j_35 : ∀ (y1 : Int32) (S_35 : SC) (H : Heap) (locs : List Loc) (ls : Array Slot), fX4_place_j35 y1 S_35 = some r → ST D (wM cy ad Xr) A s S_35 H locs → lv_has ls 3 [(0, .ref (ad 0)), (1, .int y1)] → W p l e ({ frames := 7, cells := 0, slots := 0, locals := 172 } : Room) s m [.ref (ad 0), .int x1].toArray below meth c H locs 0 0 (MQ below (QG D (wM cy ad Xr) A (some (.int r.1)) r.2) [.ref (ad 0), .int x1].toArray s 0 0 A) (F0 m 35 ls []) := by
    intro y1 S_35 H locs ls hf T hl
    unfold fX4_place_j35 at hf
    refine lv_iconst (v := 1) hx hb dX4_place_35 (by decide) ?_
    refine lv_goto (tgt := 40) hx hb dX4_place_36 (by decide) ?_
    exact j_40 y1 1 S_35 _ _ _ hf T (lv_sub hl [0, 1] rfl)
  refine lv_aload_n hx hb dX4_place_0 rfl (lv_at hl 0 rfl) ?_
  refine lv_iload_n hx hb dX4_place_1 rfl (lv_at hl 1 rfl) ?_
  obtain ⟨v12, h11, hf⟩ := bnd_inv hf
  refine cg_V (q0 := 8) (ci := 4) (As := [.int x1]) (rest := []) X T (kX4_isCell l D cy ad Xr S x1 v12 h11) (cwV 1 hts gX4_place_X4_isCell rfl rfl rfl (by decide +kernel) ⟨Nat.le_of_ble_eq_true rfl, Nat.le_of_ble_eq_true rfl⟩) rfl rfl rfl hl.1 rfl (Nat.le_of_ble_eq_true rfl) dX4_place_2 ⟨Nat.zero_le _, Nat.zero_le _⟩ (st2 := [.int v12]) (pc2 := 5) rfl rfl (fun H locs T => ?_)
  refine lv_if_eq (tgt := 39) hx hb dX4_place_5 (by decide) (fun hc => ?_) (fun hc => ?_)
  · replace hf := ifp hc hf
    exact j_39 x1 S _ _ _ hf T (lv_sub hl [0, 1] rfl)
  · replace hf := ifn hc hf
    refine lv_aload_n hx hb dX4_place_8 rfl (lv_at hl 0 rfl) ?_
    obtain ⟨v14, h13, hf⟩ := bnd_inv hf
    refine cg_V (q0 := 8) (ci := 4) (As := []) (rest := []) X T (kX4_isPlaced l D cy ad Xr S v14 h13) (cwV 0 hts gX4_place_X4_isPlaced rfl rfl rfl (by decide +kernel) ⟨Nat.le_of_ble_eq_true rfl, Nat.le_of_ble_eq_true rfl⟩) rfl rfl rfl hl.1 rfl (Nat.le_of_ble_eq_true rfl) dX4_place_9 ⟨Nat.zero_le _, Nat.zero_le _⟩ (st2 := [.int v14]) (pc2 := 12) rfl rfl (fun H locs T => ?_)
    refine lv_if_ne (tgt := 35) hx hb dX4_place_12 (by decide) (fun hc => ?_) (fun hc => ?_)
    · replace hf := ifn hc hf
      exact j_35 x1 S _ _ _ hf T (lv_sub hl [0, 1] rfl)
    · replace hf := ifp hc hf
      refine lv_aload_n hx hb dX4_place_15 rfl (lv_at hl 0 rfl) ?_
      refine lv_iconst (v := 0) hx hb dX4_place_16 (by decide) ?_
      refine lv_iload_n hx hb dX4_place_17 rfl (lv_at hl 1 rfl) ?_
      obtain ⟨v16, h15, hf⟩ := bnd_inv hf
      refine cg_V (q0 := 8) (ci := 4) (As := [.int 0, .int x1]) (rest := []) X T (kX4_builderIn l D cy ad Xr S 0 x1 v16 h15) (cwV 2 hts gX4_place_X4_builderIn rfl rfl rfl (by decide +kernel) ⟨Nat.le_of_ble_eq_true rfl, Nat.le_of_ble_eq_true rfl⟩) rfl rfl rfl hl.1 rfl (Nat.le_of_ble_eq_true rfl) dX4_place_18 ⟨Nat.zero_le _, Nat.zero_le _⟩ (st2 := [.int v16]) (pc2 := 21) rfl rfl (fun H locs T => ?_)
      refine lv_iconst (v := (-1)) hx hb dX4_place_21 (by decide) ?_
      refine lv_icmp_ne (tgt := 35) hx hb dX4_place_22 (by decide) (fun hc => ?_) (fun hc => ?_)
      · replace hf := ifn hc hf
        exact j_35 x1 S _ _ _ hf T (lv_sub hl [0, 1] rfl)
      · replace hf := ifp hc hf
        refine lv_aload_n hx hb dX4_place_25 rfl (lv_at hl 0 rfl) ?_
        refine va_get (D := D) (ci := 4) (v := .ref (ad 2)) (C := RX4) (T := TX4) (N := 16) hx hb hts hin_X4 hown hK.1 T.1 8 rfl rfl 5 (by decide) (hts _ (List.mem_of_getElem? (i := 1) rfl)) (fun _ h9 => h9) rfl dX4_place_26 ?_
        refine lv_iload_n hx hb dX4_place_29 rfl (lv_at hl 1 rfl) ?_
        obtain ⟨hin, hf⟩ := ck_inv hf
        refine va_iald hx hb hK.1 T.1 6 0 rfl rfl hin dX4_place_30 ?_
        refine lv_iconst (v := 4) hx hb dX4_place_31 (by decide) ?_
        refine lv_icmp_ne (tgt := 39) hx hb dX4_place_32 (by decide) (fun hc => ?_) (fun hc => ?_)
        · replace hf := ifn hc hf
          exact j_39 x1 S _ _ _ hf T (lv_sub hl [0, 1] rfl)
        · replace hf := ifp hc hf
          exact j_35 x1 S _ _ _ hf T (lv_sub hl [0, 1] rfl)

noncomputable def fX4_raise_j66 (y1 : Int32) (y2 : Int32) (z1 : Int32) (S_66 : SC) : Option (Int32 × SC) :=
  bnd (fX4_goesWell S_66 z1) fun v2 =>
  if v2.1 = 0 then
    some (0, v2.2)
  else
    ck y1 125 <|
    nm (v2.2.2 1 y1.toNatClampNeg : Int32) fun v3 =>
    ck y1 125 <|
    nm (setA v2.2 1 y1 y2 : SC) fun S4 =>
    some (v3, S4)
noncomputable def fX4_raise_j30 (y1 : Int32) (y2 : Int32) (z0 : Int32) (S_30 : SC) : Option (Int32 × SC) :=
  bnd (fX4_isCell S_30 y1) fun v6 =>
  if v6 = 0 then
    fX4_raise_j66 y1 y2 1 S_30
  else
    bnd (fX4_in S_30 y2 0 4) fun v8 =>
    if v8 = 0 then
      fX4_raise_j66 y1 y2 2 S_30
    else
      if z0 = 0 then
        fX4_raise_j66 y1 y2 0 S_30
      else
        fX4_raise_j66 y1 y2 3 S_30
noncomputable def fX4_raise_j29 (y1 : Int32) (y2 : Int32) (S_29 : SC) : Option (Int32 × SC) :=
  fX4_raise_j30 y1 y2 0 S_29
noncomputable def fX4_raise_j25 (y1 : Int32) (y2 : Int32) (S_25 : SC) : Option (Int32 × SC) :=
  fX4_raise_j30 y1 y2 1 S_25
noncomputable def fX4_raise (S : SC) (x1 : Int32) (x2 : Int32) : Option (Int32 × SC) :=
  bnd (fX4_isCell S x1) fun v10 =>
  if v10 = 0 then
    fX4_raise_j29 x1 x2 S
  else
    bnd (fX4_isPlaced S) fun v12 =>
    if v12 = 0 then
      bnd (fX4_builderIn S 0 x1) fun v14 =>
      if v14 = (-1) then
        fX4_raise_j29 x1 x2 S
      else
        fX4_raise_j25 x1 x2 S
    else
      fX4_raise_j25 x1 x2 S
set_option maxHeartbeats 4000000 in
set_option maxRecDepth 100000 in
theorem kX4_raise (l : Launch) (D : va_G) (cy : Nat → ClassId) (ad : Nat → Nat) (Xr : va_W) (S : SC) (x1 : Int32) (x2 : Int32) (r : (Int32 × SC)) (hf : fX4_raise S x1 x2 = some r) : CG l D cy (wM cy ad Xr) yX4_raise wsX4_raise ({ frames := 2, cells := 0, slots := 0, locals := 43 } : Room) [.ref (ad 0), .int x1, .int x2] S (some (.int r.1)) r.2 := by
  refine CG.of (cc := cX4_raise) (maxL := 5) (ret := (some .int)) (by decide +kernel) rfl (Nat.le_of_ble_eq_true rfl) ?_
  intro p e s m below meth c A ls X hr T hl
  obtain ⟨hx, hb, hml, hown, hts, hlk, hK, hA, hwA⟩ := id X
  have hl : lv_has ls 5 [(0, .ref (ad 0)), (1, .int x1), (2, .int x2)] := hl
  have hin_X4 : ∀ w ∈ u_ws RX4 TX4 16, w ∈ wsX4_raise := fun w h => (List.mem_cons_of_mem _ (List.mem_append_right _ h))
  unfold fX4_raise at hf
  have j_66 : ∀ (y1 : Int32) (y2 : Int32) (z1 : Int32) (S_66 : SC) (H : Heap) (locs : List Loc) (ls : Array Slot), fX4_raise_j66 y1 y2 z1 S_66 = some r → ST D (wM cy ad Xr) A s S_66 H locs → lv_has ls 5 [(0, .ref (ad 0)), (1, .int y1), (2, .int y2)] → W p l e ({ frames := 2, cells := 0, slots := 0, locals := 43 } : Room) s m [.ref (ad 0), .int x1, .int x2].toArray below meth c H locs 0 0 (MQ below (QG D (wM cy ad Xr) A (some (.int r.1)) r.2) [.ref (ad 0), .int x1, .int x2].toArray s 0 0 A) (F0 m 66 ls [.int z1, .ref (ad 0)]) := by
    intro y1 y2 z1 S_66 H locs ls hf T hl
    unfold fX4_raise_j66 at hf
    obtain ⟨v2, h1, hf⟩ := bnd_inv hf
    refine cg_V (q0 := 8) (ci := 4) (As := [.int z1]) (rest := []) X T (kX4_goesWell l D cy ad Xr S_66 z1 v2 h1) (cwV 1 hts gX4_raise_X4_goesWell rfl rfl rfl (by decide +kernel) ⟨Nat.le_of_ble_eq_true rfl, Nat.le_of_ble_eq_true rfl⟩) rfl rfl rfl hl.1 rfl (Nat.le_of_ble_eq_true rfl) dX4_raise_66 ⟨Nat.zero_le _, Nat.zero_le _⟩ (st2 := [.int v2.1]) (pc2 := 69) rfl rfl (fun H locs T => ?_)
    refine lv_if_ne (tgt := 74) hx hb dX4_raise_69 (by decide) (fun hc => ?_) (fun hc => ?_)
    · replace hf := ifn hc hf
      refine lv_aload_n hx hb dX4_raise_74 rfl (lv_at hl 0 rfl) ?_
      refine va_get (D := D) (ci := 4) (v := .ref (ad 2)) (C := RX4) (T := TX4) (N := 16) hx hb hts hin_X4 hown hK.1 T.1 8 rfl rfl 5 (by decide) (hts _ (List.mem_of_getElem? (i := 1) rfl)) (fun _ h9 => h9) rfl dX4_raise_75 ?_
      refine lv_iload_n hx hb dX4_raise_78 rfl (lv_at hl 1 rfl) ?_
      obtain ⟨hin, hf⟩ := ck_inv hf
      refine va_iald hx hb hK.1 T.1 6 0 rfl rfl hin dX4_raise_79 ?_
      refine lv_topi (fun v3 e_v3 => ?_)
      replace hf := nm_use hf e_v3
      refine lv_istore (lv' := [(4, .int v3), (0, .ref (ad 0)), (1, .int y1), (2, .int y2)]) hx hb dX4_raise_80 hl (by decide) rfl (fun ls hl => ?_)
      refine lv_aload_n hx hb dX4_raise_82 rfl (lv_at hl 1 rfl) ?_
      refine va_get (D := D) (ci := 4) (v := .ref (ad 2)) (C := RX4) (T := TX4) (N := 16) hx hb hts hin_X4 hown hK.1 T.1 8 rfl rfl 5 (by decide) (hts _ (List.mem_of_getElem? (i := 1) rfl)) (fun _ h9 => h9) rfl dX4_raise_83 ?_
      refine lv_iload_n hx hb dX4_raise_86 rfl (lv_at hl 2 rfl) ?_
      refine lv_iload_n hx hb dX4_raise_87 rfl (lv_at hl 3 rfl) ?_
      obtain ⟨hin, hf⟩ := ck_inv hf
      obtain ⟨S4, e_S4, hf⟩ := nm_inv hf
      refine va_iast hx hb hK.1 T.1 T.2.1 T.2.2 6 0 rfl rfl hin dX4_raise_88 (fun H locs hP hD hS => ?_)
      have T : ST D (wM cy ad Xr) A s S4 H locs := ⟨by rw [e_S4]; exact hP, by rw [e_S4]; exact hD, hS⟩
      refine lv_iload hx hb dX4_raise_89 (lv_at hl 0 rfl) ?_
      exact rf_iw hf X T hr dX4_raise_91
    · replace hf := ifp hc hf
      refine lv_iconst (v := 0) hx hb dX4_raise_72 (by decide) ?_
      exact rf_iw hf X T hr dX4_raise_73
  have j_30 : ∀ (y1 : Int32) (y2 : Int32) (z0 : Int32) (S_30 : SC) (H : Heap) (locs : List Loc) (ls : Array Slot), fX4_raise_j30 y1 y2 z0 S_30 = some r → ST D (wM cy ad Xr) A s S_30 H locs → lv_has ls 5 [(0, .ref (ad 0)), (1, .int y1), (2, .int y2)] → W p l e ({ frames := 2, cells := 0, slots := 0, locals := 43 } : Room) s m [.ref (ad 0), .int x1, .int x2].toArray below meth c H locs 0 0 (MQ below (QG D (wM cy ad Xr) A (some (.int r.1)) r.2) [.ref (ad 0), .int x1, .int x2].toArray s 0 0 A) (F0 m 30 ls [.int z0]) := by
    intro y1 y2 z0 S_30 H locs ls hf T hl
    unfold fX4_raise_j30 at hf
    refine lv_istore_n (lv' := [(3, .int z0), (0, .ref (ad 0)), (1, .int y1), (2, .int y2)]) hx hb dX4_raise_30 rfl hl (by decide) rfl (fun ls hl => ?_)
    refine lv_aload_n hx hb dX4_raise_31 rfl (lv_at hl 1 rfl) ?_
    refine lv_aload_n hx hb dX4_raise_32 rfl (lv_at hl 1 rfl) ?_
    refine lv_iload_n hx hb dX4_raise_33 rfl (lv_at hl 2 rfl) ?_
    obtain ⟨v6, h5, hf⟩ := bnd_inv hf
    refine cg_V (q0 := 8) (ci := 4) (As := [.int y1]) (rest := [.ref (ad 0)]) X T (kX4_isCell l D cy ad Xr S_30 y1 v6 h5) (cwV 1 hts gX4_raise_X4_isCell rfl rfl rfl (by decide +kernel) ⟨Nat.le_of_ble_eq_true rfl, Nat.le_of_ble_eq_true rfl⟩) rfl rfl rfl hl.1 rfl (Nat.le_of_ble_eq_true rfl) dX4_raise_34 ⟨Nat.zero_le _, Nat.zero_le _⟩ (st2 := [.int v6, .ref (ad 0)]) (pc2 := 37) rfl rfl (fun H locs T => ?_)
    refine lv_if_ne (tgt := 44) hx hb dX4_raise_37 (by decide) (fun hc => ?_) (fun hc => ?_)
    · replace hf := ifn hc hf
      refine lv_iload_n hx hb dX4_raise_44 rfl (lv_at hl 3 rfl) ?_
      refine lv_iconst (v := 0) hx hb dX4_raise_45 (by decide) ?_
      refine lv_iconst (v := 4) hx hb dX4_raise_46 (by decide) ?_
      obtain ⟨v8, h7, hf⟩ := bnd_inv hf
      refine cg_S (As := [.int y2, .int 0, .int 4]) (rest := [.ref (ad 0)]) X T (kX4_in l D cy ad Xr S_30 y2 0 4 v8 h7) (va_cwS 3 hts gX4_raise_X4_in rfl rfl rfl (by decide +kernel) ⟨Nat.le_of_ble_eq_true rfl, Nat.le_of_ble_eq_true rfl⟩) rfl hl.1 rfl (Nat.le_of_ble_eq_true rfl) dX4_raise_47 ⟨Nat.zero_le _, Nat.zero_le _⟩ (st2 := [.int v8, .ref (ad 0)]) (pc2 := 50) rfl rfl (fun H locs T => ?_)
      refine lv_if_ne (tgt := 57) hx hb dX4_raise_50 (by decide) (fun hc => ?_) (fun hc => ?_)
      · replace hf := ifn hc hf
        refine lv_iload_n hx hb dX4_raise_57 rfl (lv_at hl 0 rfl) ?_
        refine lv_if_eq (tgt := 65) hx hb dX4_raise_58 (by decide) (fun hc => ?_) (fun hc => ?_)
        · replace hf := ifp hc hf
          refine lv_iconst (v := 0) hx hb dX4_raise_65 (by decide) ?_
          exact j_66 y1 y2 0 S_30 _ _ _ hf T (lv_sub hl [1, 2, 3] rfl)
        · replace hf := ifn hc hf
          refine lv_iconst (v := 3) hx hb dX4_raise_61 (by decide) ?_
          refine lv_goto (tgt := 66) hx hb dX4_raise_62 (by decide) ?_
          exact j_66 y1 y2 3 S_30 _ _ _ hf T (lv_sub hl [1, 2, 3] rfl)
      · replace hf := ifp hc hf
        refine lv_iconst (v := 2) hx hb dX4_raise_53 (by decide) ?_
        refine lv_goto (tgt := 66) hx hb dX4_raise_54 (by decide) ?_
        exact j_66 y1 y2 2 S_30 _ _ _ hf T (lv_sub hl [1, 2, 3] rfl)
    · replace hf := ifp hc hf
      refine lv_iconst (v := 1) hx hb dX4_raise_40 (by decide) ?_
      refine lv_goto (tgt := 66) hx hb dX4_raise_41 (by decide) ?_
      exact j_66 y1 y2 1 S_30 _ _ _ hf T (lv_sub hl [1, 2, 3] rfl)
  have j_29 : ∀ (y1 : Int32) (y2 : Int32) (S_29 : SC) (H : Heap) (locs : List Loc) (ls : Array Slot), fX4_raise_j29 y1 y2 S_29 = some r → ST D (wM cy ad Xr) A s S_29 H locs → lv_has ls 5 [(0, .ref (ad 0)), (1, .int y1), (2, .int y2)] → W p l e ({ frames := 2, cells := 0, slots := 0, locals := 43 } : Room) s m [.ref (ad 0), .int x1, .int x2].toArray below meth c H locs 0 0 (MQ below (QG D (wM cy ad Xr) A (some (.int r.1)) r.2) [.ref (ad 0), .int x1, .int x2].toArray s 0 0 A) (F0 m 29 ls []) := by
    intro y1 y2 S_29 H locs ls hf T hl
    unfold fX4_raise_j29 at hf
    refine lv_iconst (v := 0) hx hb dX4_raise_29 (by decide) ?_
    exact j_30 y1 y2 0 S_29 _ _ _ hf T (lv_sub hl [0, 1, 2] rfl)
  have j_25 : ∀ (y1 : Int32) (y2 : Int32) (S_25 : SC) (H : Heap) (locs : List Loc) (ls : Array Slot), fX4_raise_j25 y1 y2 S_25 = some r → ST D (wM cy ad Xr) A s S_25 H locs → lv_has ls 5 [(0, .ref (ad 0)), (1, .int y1), (2, .int y2)] → W p l e ({ frames := 2, cells := 0, slots := 0, locals := 43 } : Room) s m [.ref (ad 0), .int x1, .int x2].toArray below meth c H locs 0 0 (MQ below (QG D (wM cy ad Xr) A (some (.int r.1)) r.2) [.ref (ad 0), .int x1, .int x2].toArray s 0 0 A) (F0 m 25 ls []) := by
    intro y1 y2 S_25 H locs ls hf T hl
    unfold fX4_raise_j25 at hf
    refine lv_iconst (v := 1) hx hb dX4_raise_25 (by decide) ?_
    refine lv_goto (tgt := 30) hx hb dX4_raise_26 (by decide) ?_
    exact j_30 y1 y2 1 S_25 _ _ _ hf T (lv_sub hl [0, 1, 2] rfl)
  refine lv_aload_n hx hb dX4_raise_0 rfl (lv_at hl 0 rfl) ?_
  refine lv_iload_n hx hb dX4_raise_1 rfl (lv_at hl 1 rfl) ?_
  obtain ⟨v10, h9, hf⟩ := bnd_inv hf
  refine cg_V (q0 := 8) (ci := 4) (As := [.int x1]) (rest := []) X T (kX4_isCell l D cy ad Xr S x1 v10 h9) (cwV 1 hts gX4_raise_X4_isCell rfl rfl rfl (by decide +kernel) ⟨Nat.le_of_ble_eq_true rfl, Nat.le_of_ble_eq_true rfl⟩) rfl rfl rfl hl.1 rfl (Nat.le_of_ble_eq_true rfl) dX4_raise_2 ⟨Nat.zero_le _, Nat.zero_le _⟩ (st2 := [.int v10]) (pc2 := 5) rfl rfl (fun H locs T => ?_)
  refine lv_if_eq (tgt := 29) hx hb dX4_raise_5 (by decide) (fun hc => ?_) (fun hc => ?_)
  · replace hf := ifp hc hf
    exact j_29 x1 x2 S _ _ _ hf T (lv_sub hl [0, 1, 2] rfl)
  · replace hf := ifn hc hf
    refine lv_aload_n hx hb dX4_raise_8 rfl (lv_at hl 0 rfl) ?_
    obtain ⟨v12, h11, hf⟩ := bnd_inv hf
    refine cg_V (q0 := 8) (ci := 4) (As := []) (rest := []) X T (kX4_isPlaced l D cy ad Xr S v12 h11) (cwV 0 hts gX4_raise_X4_isPlaced rfl rfl rfl (by decide +kernel) ⟨Nat.le_of_ble_eq_true rfl, Nat.le_of_ble_eq_true rfl⟩) rfl rfl rfl hl.1 rfl (Nat.le_of_ble_eq_true rfl) dX4_raise_9 ⟨Nat.zero_le _, Nat.zero_le _⟩ (st2 := [.int v12]) (pc2 := 12) rfl rfl (fun H locs T => ?_)
    refine lv_if_ne (tgt := 25) hx hb dX4_raise_12 (by decide) (fun hc => ?_) (fun hc => ?_)
    · replace hf := ifn hc hf
      exact j_25 x1 x2 S _ _ _ hf T (lv_sub hl [0, 1, 2] rfl)
    · replace hf := ifp hc hf
      refine lv_aload_n hx hb dX4_raise_15 rfl (lv_at hl 0 rfl) ?_
      refine lv_iconst (v := 0) hx hb dX4_raise_16 (by decide) ?_
      refine lv_iload_n hx hb dX4_raise_17 rfl (lv_at hl 1 rfl) ?_
      obtain ⟨v14, h13, hf⟩ := bnd_inv hf
      refine cg_V (q0 := 8) (ci := 4) (As := [.int 0, .int x1]) (rest := []) X T (kX4_builderIn l D cy ad Xr S 0 x1 v14 h13) (cwV 2 hts gX4_raise_X4_builderIn rfl rfl rfl (by decide +kernel) ⟨Nat.le_of_ble_eq_true rfl, Nat.le_of_ble_eq_true rfl⟩) rfl rfl rfl hl.1 rfl (Nat.le_of_ble_eq_true rfl) dX4_raise_18 ⟨Nat.zero_le _, Nat.zero_le _⟩ (st2 := [.int v14]) (pc2 := 21) rfl rfl (fun H locs T => ?_)
      refine lv_iconst (v := (-1)) hx hb dX4_raise_21 (by decide) ?_
      refine lv_icmp_eq (tgt := 29) hx hb dX4_raise_22 (by decide) (fun hc => ?_) (fun hc => ?_)
      · replace hf := ifp hc hf
        exact j_29 x1 x2 S _ _ _ hf T (lv_sub hl [0, 1, 2] rfl)
      · replace hf := ifn hc hf
        exact j_25 x1 x2 S _ _ _ hf T (lv_sub hl [0, 1, 2] rfl)

noncomputable def fX4_onTurn (S : SC) : Option (Int32 × SC) :=
  nm (setS S 0 0 : SC) fun S1 =>
  bnd (fX4_onTurnNow S1) fun v3 =>
  some (v3, S1)
set_option maxHeartbeats 4000000 in
set_option maxRecDepth 100000 in
theorem kX4_onTurn (l : Launch) (D : va_G) (cy : Nat → ClassId) (ad : Nat → Nat) (Xr : va_W) (S : SC) (r : (Int32 × SC)) (hf : fX4_onTurn S = some r) : CG l D cy (wM cy ad Xr) yX4_onTurn wsX4_onTurn ({ frames := 2, cells := 0, slots := 0, locals := 40 } : Room) [.ref (ad 0)] S (some (.int r.1)) r.2 := by
  refine CG.of (cc := cX4_onTurn) (maxL := 1) (ret := (some .int)) (by decide +kernel) rfl (Nat.le_of_ble_eq_true rfl) ?_
  intro p e s m below meth c A ls X hr T hl
  obtain ⟨hx, hb, hml, hown, hts, hlk, hK, hA, hwA⟩ := id X
  have hl : lv_has ls 1 [(0, .ref (ad 0))] := hl
  have hin_X4 : ∀ w ∈ u_ws RX4 TX4 16, w ∈ wsX4_onTurn := fun w h => (List.mem_cons_of_mem _ (List.mem_append_right _ h))
  unfold fX4_onTurn at hf
  refine lv_aload_n hx hb dX4_onTurn_0 rfl (lv_at hl 0 rfl) ?_
  refine lv_iconst (v := 0) hx hb dX4_onTurn_1 (by decide) ?_
  obtain ⟨S1, e_S1, hf⟩ := nm_inv hf
  refine va_put (D := D) (ci := 4) (v := .int 0) (ty := .int) (C := RX4) (T := TX4) (N := 16) hx hb hts hin_X4 tyX4 tyX4_ok nmX4 hown hK.1 T.1 T.2.1 T.2.2 8 rfl rfl 0 (by decide) (hts _ (List.mem_of_getElem? (i := 1) rfl)) (fun _ h9 => h9) rfl (by decide +kernel) rfl rfl (Nat.le_of_ble_eq_true rfl) dX4_onTurn_2 (fun H locs hP hD hS => ?_)
  have T : ST D (wM cy ad Xr) A s S1 H locs := ⟨by rw [e_S1]; exact hP, by rw [e_S1]; exact hD, hS⟩
  refine lv_aload_n hx hb dX4_onTurn_5 rfl (lv_at hl 0 rfl) ?_
  obtain ⟨v3, h2, hf⟩ := bnd_inv hf
  refine cg_V (q0 := 8) (ci := 4) (As := []) (rest := []) X T (kX4_onTurnNow l D cy ad Xr S1 v3 h2) (cwV 0 hts gX4_onTurn_X4_onTurnNow rfl rfl rfl (by decide +kernel) ⟨Nat.le_of_ble_eq_true rfl, Nat.le_of_ble_eq_true rfl⟩) rfl rfl rfl hl.1 rfl (Nat.le_of_ble_eq_true rfl) dX4_onTurn_6 ⟨Nat.zero_le _, Nat.zero_le _⟩ (st2 := [.int v3]) (pc2 := 9) rfl rfl (fun H locs T => ?_)
  exact rf_iw hf X T hr dX4_onTurn_9

noncomputable def fX4_winner (S : SC) : Option (Int32 × SC) :=
  nm (setS S 0 0 : SC) fun S1 =>
  some (S1.1 5, S1)
set_option maxHeartbeats 4000000 in
set_option maxRecDepth 100000 in
theorem kX4_winner (l : Launch) (D : va_G) (cy : Nat → ClassId) (ad : Nat → Nat) (Xr : va_W) (S : SC) (r : (Int32 × SC)) (hf : fX4_winner S = some r) : CG l D cy (wM cy ad Xr) yX4_winner wsX4_winner ({ frames := 0, cells := 0, slots := 0, locals := 0 } : Room) [.ref (ad 0)] S (some (.int r.1)) r.2 := by
  refine CG.of (cc := cX4_winner) (maxL := 1) (ret := (some .int)) (by decide +kernel) rfl (Nat.le_of_ble_eq_true rfl) ?_
  intro p e s m below meth c A ls X hr T hl
  obtain ⟨hx, hb, hml, hown, hts, hlk, hK, hA, hwA⟩ := id X
  have hl : lv_has ls 1 [(0, .ref (ad 0))] := hl
  have hin_X4 : ∀ w ∈ u_ws RX4 TX4 16, w ∈ wsX4_winner := fun w h => (List.mem_cons_of_mem _ (List.mem_append_right _ h))
  unfold fX4_winner at hf
  refine lv_aload_n hx hb dX4_winner_0 rfl (lv_at hl 0 rfl) ?_
  refine lv_iconst (v := 0) hx hb dX4_winner_1 (by decide) ?_
  obtain ⟨S1, e_S1, hf⟩ := nm_inv hf
  refine va_put (D := D) (ci := 4) (v := .int 0) (ty := .int) (C := RX4) (T := TX4) (N := 16) hx hb hts hin_X4 tyX4 tyX4_ok nmX4 hown hK.1 T.1 T.2.1 T.2.2 8 rfl rfl 0 (by decide) (hts _ (List.mem_of_getElem? (i := 1) rfl)) (fun _ h9 => h9) rfl (by decide +kernel) rfl rfl (Nat.le_of_ble_eq_true rfl) dX4_winner_2 (fun H locs hP hD hS => ?_)
  have T : ST D (wM cy ad Xr) A s S1 H locs := ⟨by rw [e_S1]; exact hP, by rw [e_S1]; exact hD, hS⟩
  refine lv_aload_n hx hb dX4_winner_5 rfl (lv_at hl 0 rfl) ?_
  refine va_get (D := D) (ci := 4) (v := .int (S1.1 5)) (C := RX4) (T := TX4) (N := 16) hx hb hts hin_X4 hown hK.1 T.1 8 rfl rfl 10 (by decide) (hts _ (List.mem_of_getElem? (i := 2) rfl)) (fun _ h9 => h9) rfl dX4_winner_6 ?_
  exact rf_iw hf X T hr dX4_winner_9

noncomputable def fX4_height_j14 (y1 : Int32) (z1 : Int32) (S_14 : SC) : Option (Int32 × SC) :=
  bnd (fX4_goesWell S_14 z1) fun v2 =>
  if v2.1 = 0 then
    some (0, v2.2)
  else
    ck y1 125 <|
    some (v2.2.2 1 y1.toNatClampNeg, v2.2)
noncomputable def fX4_height (S : SC) (x1 : Int32) : Option (Int32 × SC) :=
  bnd (fX4_isCell S x1) fun v4 =>
  if v4 = 0 then
    fX4_height_j14 x1 1 S
  else
    fX4_height_j14 x1 0 S
set_option maxHeartbeats 4000000 in
set_option maxRecDepth 100000 in
theorem kX4_height (l : Launch) (D : va_G) (cy : Nat → ClassId) (ad : Nat → Nat) (Xr : va_W) (S : SC) (x1 : Int32) (r : (Int32 × SC)) (hf : fX4_height S x1 = some r) : CG l D cy (wM cy ad Xr) yX4_height wsX4_height ({ frames := 2, cells := 0, slots := 0, locals := 43 } : Room) [.ref (ad 0), .int x1] S (some (.int r.1)) r.2 := by
  refine CG.of (cc := cX4_height) (maxL := 2) (ret := (some .int)) (by decide +kernel) rfl (Nat.le_of_ble_eq_true rfl) ?_
  intro p e s m below meth c A ls X hr T hl
  obtain ⟨hx, hb, hml, hown, hts, hlk, hK, hA, hwA⟩ := id X
  have hl : lv_has ls 2 [(0, .ref (ad 0)), (1, .int x1)] := hl
  have hin_X4 : ∀ w ∈ u_ws RX4 TX4 16, w ∈ wsX4_height := fun w h => (List.mem_cons_of_mem _ (List.mem_append_right _ h))
  unfold fX4_height at hf
  have j_14 : ∀ (y1 : Int32) (z1 : Int32) (S_14 : SC) (H : Heap) (locs : List Loc) (ls : Array Slot), fX4_height_j14 y1 z1 S_14 = some r → ST D (wM cy ad Xr) A s S_14 H locs → lv_has ls 2 [(0, .ref (ad 0)), (1, .int y1)] → W p l e ({ frames := 2, cells := 0, slots := 0, locals := 43 } : Room) s m [.ref (ad 0), .int x1].toArray below meth c H locs 0 0 (MQ below (QG D (wM cy ad Xr) A (some (.int r.1)) r.2) [.ref (ad 0), .int x1].toArray s 0 0 A) (F0 m 14 ls [.int z1, .ref (ad 0)]) := by
    intro y1 z1 S_14 H locs ls hf T hl
    unfold fX4_height_j14 at hf
    obtain ⟨v2, h1, hf⟩ := bnd_inv hf
    refine cg_V (q0 := 8) (ci := 4) (As := [.int z1]) (rest := []) X T (kX4_goesWell l D cy ad Xr S_14 z1 v2 h1) (cwV 1 hts gX4_height_X4_goesWell rfl rfl rfl (by decide +kernel) ⟨Nat.le_of_ble_eq_true rfl, Nat.le_of_ble_eq_true rfl⟩) rfl rfl rfl hl.1 rfl (Nat.le_of_ble_eq_true rfl) dX4_height_14 ⟨Nat.zero_le _, Nat.zero_le _⟩ (st2 := [.int v2.1]) (pc2 := 17) rfl rfl (fun H locs T => ?_)
    refine lv_if_eq (tgt := 29) hx hb dX4_height_17 (by decide) (fun hc => ?_) (fun hc => ?_)
    · replace hf := ifp hc hf
      refine lv_iconst (v := 0) hx hb dX4_height_29 (by decide) ?_
      exact rf_iw hf X T hr dX4_height_30
    · replace hf := ifn hc hf
      refine lv_aload_n hx hb dX4_height_20 rfl (lv_at hl 0 rfl) ?_
      refine va_get (D := D) (ci := 4) (v := .ref (ad 2)) (C := RX4) (T := TX4) (N := 16) hx hb hts hin_X4 hown hK.1 T.1 8 rfl rfl 5 (by decide) (hts _ (List.mem_of_getElem? (i := 1) rfl)) (fun _ h9 => h9) rfl dX4_height_21 ?_
      refine lv_iload_n hx hb dX4_height_24 rfl (lv_at hl 1 rfl) ?_
      obtain ⟨hin, hf⟩ := ck_inv hf
      refine va_iald hx hb hK.1 T.1 6 0 rfl rfl hin dX4_height_25 ?_
      refine lv_goto (tgt := 30) hx hb dX4_height_26 (by decide) ?_
      exact rf_iw hf X T hr dX4_height_30
  refine lv_aload_n hx hb dX4_height_0 rfl (lv_at hl 0 rfl) ?_
  refine lv_aload_n hx hb dX4_height_1 rfl (lv_at hl 0 rfl) ?_
  refine lv_iload_n hx hb dX4_height_2 rfl (lv_at hl 1 rfl) ?_
  obtain ⟨v4, h3, hf⟩ := bnd_inv hf
  refine cg_V (q0 := 8) (ci := 4) (As := [.int x1]) (rest := [.ref (ad 0)]) X T (kX4_isCell l D cy ad Xr S x1 v4 h3) (cwV 1 hts gX4_height_X4_isCell rfl rfl rfl (by decide +kernel) ⟨Nat.le_of_ble_eq_true rfl, Nat.le_of_ble_eq_true rfl⟩) rfl rfl rfl hl.1 rfl (Nat.le_of_ble_eq_true rfl) dX4_height_3 ⟨Nat.zero_le _, Nat.zero_le _⟩ (st2 := [.int v4, .ref (ad 0)]) (pc2 := 6) rfl rfl (fun H locs T => ?_)
  refine lv_if_eq (tgt := 13) hx hb dX4_height_6 (by decide) (fun hc => ?_) (fun hc => ?_)
  · replace hf := ifp hc hf
    refine lv_iconst (v := 1) hx hb dX4_height_13 (by decide) ?_
    exact j_14 x1 1 S _ _ _ hf T (lv_sub hl [0, 1] rfl)
  · replace hf := ifn hc hf
    refine lv_iconst (v := 0) hx hb dX4_height_9 (by decide) ?_
    refine lv_goto (tgt := 14) hx hb dX4_height_10 (by decide) ?_
    exact j_14 x1 0 S _ _ _ hf T (lv_sub hl [0, 1] rfl)

noncomputable def fX4_builderAt_j14 (y1 : Int32) (z1 : Int32) (S_14 : SC) : Option (Int32 × SC) :=
  bnd (fX4_goesWell S_14 z1) fun v2 =>
  if v2.1 = 0 then
    some (0, v2.2)
  else
    bnd (fX4_builderIn v2.2 0 y1) fun v4 =>
    if v4 = (-1) then
      some ((-1), v2.2)
    else
      some (((10 : Int32) * (v4 / 2)) + (v4 - v4 / 2 * 2), v2.2)
noncomputable def fX4_builderAt (S : SC) (x1 : Int32) : Option (Int32 × SC) :=
  bnd (fX4_isCell S x1) fun v6 =>
  if v6 = 0 then
    fX4_builderAt_j14 x1 1 S
  else
    fX4_builderAt_j14 x1 0 S
set_option maxHeartbeats 4000000 in
set_option maxRecDepth 100000 in
theorem kX4_builderAt (l : Launch) (D : va_G) (cy : Nat → ClassId) (ad : Nat → Nat) (Xr : va_W) (S : SC) (x1 : Int32) (r : (Int32 × SC)) (hf : fX4_builderAt S x1 = some r) : CG l D cy (wM cy ad Xr) yX4_builderAt wsX4_builderAt ({ frames := 2, cells := 0, slots := 0, locals := 43 } : Room) [.ref (ad 0), .int x1] S (some (.int r.1)) r.2 := by
  refine CG.of (cc := cX4_builderAt) (maxL := 3) (ret := (some .int)) (by decide +kernel) rfl (Nat.le_of_ble_eq_true rfl) ?_
  intro p e s m below meth c A ls X hr T hl
  obtain ⟨hx, hb, hml, hown, hts, hlk, hK, hA, hwA⟩ := id X
  have hl : lv_has ls 3 [(0, .ref (ad 0)), (1, .int x1)] := hl
  unfold fX4_builderAt at hf
  have j_14 : ∀ (y1 : Int32) (z1 : Int32) (S_14 : SC) (H : Heap) (locs : List Loc) (ls : Array Slot), fX4_builderAt_j14 y1 z1 S_14 = some r → ST D (wM cy ad Xr) A s S_14 H locs → lv_has ls 3 [(0, .ref (ad 0)), (1, .int y1)] → W p l e ({ frames := 2, cells := 0, slots := 0, locals := 43 } : Room) s m [.ref (ad 0), .int x1].toArray below meth c H locs 0 0 (MQ below (QG D (wM cy ad Xr) A (some (.int r.1)) r.2) [.ref (ad 0), .int x1].toArray s 0 0 A) (F0 m 14 ls [.int z1, .ref (ad 0)]) := by
    intro y1 z1 S_14 H locs ls hf T hl
    unfold fX4_builderAt_j14 at hf
    obtain ⟨v2, h1, hf⟩ := bnd_inv hf
    refine cg_V (q0 := 8) (ci := 4) (As := [.int z1]) (rest := []) X T (kX4_goesWell l D cy ad Xr S_14 z1 v2 h1) (cwV 1 hts gX4_builderAt_X4_goesWell rfl rfl rfl (by decide +kernel) ⟨Nat.le_of_ble_eq_true rfl, Nat.le_of_ble_eq_true rfl⟩) rfl rfl rfl hl.1 rfl (Nat.le_of_ble_eq_true rfl) dX4_builderAt_14 ⟨Nat.zero_le _, Nat.zero_le _⟩ (st2 := [.int v2.1]) (pc2 := 17) rfl rfl (fun H locs T => ?_)
    refine lv_if_ne (tgt := 22) hx hb dX4_builderAt_17 (by decide) (fun hc => ?_) (fun hc => ?_)
    · replace hf := ifn hc hf
      refine lv_aload_n hx hb dX4_builderAt_22 rfl (lv_at hl 0 rfl) ?_
      refine lv_iconst (v := 0) hx hb dX4_builderAt_23 (by decide) ?_
      refine lv_iload_n hx hb dX4_builderAt_24 rfl (lv_at hl 1 rfl) ?_
      obtain ⟨v4, h3, hf⟩ := bnd_inv hf
      refine cg_V (q0 := 8) (ci := 4) (As := [.int 0, .int y1]) (rest := []) X T (kX4_builderIn l D cy ad Xr v2.2 0 y1 v4 h3) (cwV 2 hts gX4_builderAt_X4_builderIn rfl rfl rfl (by decide +kernel) ⟨Nat.le_of_ble_eq_true rfl, Nat.le_of_ble_eq_true rfl⟩) rfl rfl rfl hl.1 rfl (Nat.le_of_ble_eq_true rfl) dX4_builderAt_25 ⟨Nat.zero_le _, Nat.zero_le _⟩ (st2 := [.int v4]) (pc2 := 28) rfl rfl (fun H locs T => ?_)
      refine lv_istore_n (lv' := [(2, .int v4), (0, .ref (ad 0)), (1, .int y1)]) hx hb dX4_builderAt_28 rfl hl (by decide) rfl (fun ls hl => ?_)
      refine lv_iload_n hx hb dX4_builderAt_29 rfl (lv_at hl 0 rfl) ?_
      refine lv_iconst (v := (-1)) hx hb dX4_builderAt_30 (by decide) ?_
      refine lv_icmp_ne (tgt := 38) hx hb dX4_builderAt_31 (by decide) (fun hc => ?_) (fun hc => ?_)
      · replace hf := ifn hc hf
        refine lv_bipush (v := 10) hx hb dX4_builderAt_38 (by decide) ?_
        refine lv_iload_n hx hb dX4_builderAt_40 rfl (lv_at hl 0 rfl) ?_
        refine lv_iconst (v := 2) hx hb dX4_builderAt_41 (by decide) ?_
        refine lv_idiv hx hb dX4_builderAt_42 (by decide) ?_
        refine lv_imul hx hb dX4_builderAt_43 ?_
        refine lv_iload_n hx hb dX4_builderAt_44 rfl (lv_at hl 0 rfl) ?_
        refine lv_iconst (v := 2) hx hb dX4_builderAt_45 (by decide) ?_
        refine lv_irem hx hb dX4_builderAt_46 (by decide) ?_
        refine lv_iadd hx hb dX4_builderAt_47 ?_
        exact rf_iw hf X T hr dX4_builderAt_48
      · replace hf := ifp hc hf
        refine lv_iconst (v := (-1)) hx hb dX4_builderAt_34 (by decide) ?_
        refine lv_goto (tgt := 48) hx hb dX4_builderAt_35 (by decide) ?_
        exact rf_iw hf X T hr dX4_builderAt_48
    · replace hf := ifp hc hf
      refine lv_iconst (v := 0) hx hb dX4_builderAt_20 (by decide) ?_
      exact rf_iw hf X T hr dX4_builderAt_21
  refine lv_aload_n hx hb dX4_builderAt_0 rfl (lv_at hl 0 rfl) ?_
  refine lv_aload_n hx hb dX4_builderAt_1 rfl (lv_at hl 0 rfl) ?_
  refine lv_iload_n hx hb dX4_builderAt_2 rfl (lv_at hl 1 rfl) ?_
  obtain ⟨v6, h5, hf⟩ := bnd_inv hf
  refine cg_V (q0 := 8) (ci := 4) (As := [.int x1]) (rest := [.ref (ad 0)]) X T (kX4_isCell l D cy ad Xr S x1 v6 h5) (cwV 1 hts gX4_builderAt_X4_isCell rfl rfl rfl (by decide +kernel) ⟨Nat.le_of_ble_eq_true rfl, Nat.le_of_ble_eq_true rfl⟩) rfl rfl rfl hl.1 rfl (Nat.le_of_ble_eq_true rfl) dX4_builderAt_3 ⟨Nat.zero_le _, Nat.zero_le _⟩ (st2 := [.int v6, .ref (ad 0)]) (pc2 := 6) rfl rfl (fun H locs T => ?_)
  refine lv_if_eq (tgt := 13) hx hb dX4_builderAt_6 (by decide) (fun hc => ?_) (fun hc => ?_)
  · replace hf := ifp hc hf
    refine lv_iconst (v := 1) hx hb dX4_builderAt_13 (by decide) ?_
    exact j_14 x1 1 S _ _ _ hf T (lv_sub hl [0, 1] rfl)
  · replace hf := ifn hc hf
    refine lv_iconst (v := 0) hx hb dX4_builderAt_9 (by decide) ?_
    refine lv_goto (tgt := 14) hx hb dX4_builderAt_10 (by decide) ?_
    exact j_14 x1 0 S _ _ _ hf T (lv_sub hl [0, 1] rfl)

noncomputable def fX4_played (S : SC) : Option (Int32 × SC) :=
  nm (setS S 0 0 : SC) fun S1 =>
  some (S1.1 6, S1)
set_option maxHeartbeats 4000000 in
set_option maxRecDepth 100000 in
theorem kX4_played (l : Launch) (D : va_G) (cy : Nat → ClassId) (ad : Nat → Nat) (Xr : va_W) (S : SC) (r : (Int32 × SC)) (hf : fX4_played S = some r) : CG l D cy (wM cy ad Xr) yX4_played wsX4_played ({ frames := 0, cells := 0, slots := 0, locals := 0 } : Room) [.ref (ad 0)] S (some (.int r.1)) r.2 := by
  refine CG.of (cc := cX4_played) (maxL := 1) (ret := (some .int)) (by decide +kernel) rfl (Nat.le_of_ble_eq_true rfl) ?_
  intro p e s m below meth c A ls X hr T hl
  obtain ⟨hx, hb, hml, hown, hts, hlk, hK, hA, hwA⟩ := id X
  have hl : lv_has ls 1 [(0, .ref (ad 0))] := hl
  have hin_X4 : ∀ w ∈ u_ws RX4 TX4 16, w ∈ wsX4_played := fun w h => (List.mem_cons_of_mem _ (List.mem_append_right _ h))
  unfold fX4_played at hf
  refine lv_aload_n hx hb dX4_played_0 rfl (lv_at hl 0 rfl) ?_
  refine lv_iconst (v := 0) hx hb dX4_played_1 (by decide) ?_
  obtain ⟨S1, e_S1, hf⟩ := nm_inv hf
  refine va_put (D := D) (ci := 4) (v := .int 0) (ty := .int) (C := RX4) (T := TX4) (N := 16) hx hb hts hin_X4 tyX4 tyX4_ok nmX4 hown hK.1 T.1 T.2.1 T.2.2 8 rfl rfl 0 (by decide) (hts _ (List.mem_of_getElem? (i := 1) rfl)) (fun _ h9 => h9) rfl (by decide +kernel) rfl rfl (Nat.le_of_ble_eq_true rfl) dX4_played_2 (fun H locs hP hD hS => ?_)
  have T : ST D (wM cy ad Xr) A s S1 H locs := ⟨by rw [e_S1]; exact hP, by rw [e_S1]; exact hD, hS⟩
  refine lv_aload_n hx hb dX4_played_5 rfl (lv_at hl 0 rfl) ?_
  refine va_get (D := D) (ci := 4) (v := .int (S1.1 6)) (C := RX4) (T := TX4) (N := 16) hx hb hts hin_X4 hown hK.1 T.1 8 rfl rfl 12 (by decide) (hts _ (List.mem_of_getElem? (i := 2) rfl)) (fun _ h9 => h9) rfl dX4_played_6 ?_
  exact rf_iw hf X T hr dX4_played_9

noncomputable def fX4_countTurns_b21 (S : SC) : (Int32 × Int32) → Option ((Int32 × Int32) ⊕ Int32) :=
  fun st => match st with
    | (y1, y2) =>
      if y2 = (-1) then
        ex <|
        some y1
      else
        nm (y1 + 1 : Int32) fun v1 =>
        bnd (fX4_nextTurn S 0 y2) fun v3 =>
        some (.inl (v1, v3))
noncomputable def fX4_countTurns_j20 (S : SC) (y1 : Int32) (z0 : Int32) : Option Int32 :=
  loop (fX4_countTurns_b21 S) FUEL (y1, z0)
noncomputable def fX4_countTurns (S : SC) : Option Int32 :=
  if S.1 5 = (-1) then
    bnd (fX4_nextTurn S 0 (-1)) fun v5 =>
    fX4_countTurns_j20 S 0 v5
  else
    fX4_countTurns_j20 S 0 (-1)
set_option maxHeartbeats 4000000 in
set_option maxRecDepth 100000 in
theorem kX4_countTurns (l : Launch) (D : va_G) (cy : Nat → ClassId) (ad : Nat → Nat) (Xr : va_W) (S : SC) (r : Int32) (hf : fX4_countTurns S = some r) : CG l D cy (wM cy ad Xr) yX4_countTurns wsX4_countTurns ({ frames := 6, cells := 0, slots := 0, locals := 152 } : Room) [.ref (ad 0)] S (some (.int r)) S := by
  refine CG.of (cc := cX4_countTurns) (maxL := 3) (ret := (some .int)) (by decide +kernel) rfl (Nat.le_of_ble_eq_true rfl) ?_
  intro p e s m below meth c A ls X hr T hl
  obtain ⟨hx, hb, hml, hown, hts, hlk, hK, hA, hwA⟩ := id X
  have hl : lv_has ls 3 [(0, .ref (ad 0))] := hl
  have hin_X4 : ∀ w ∈ u_ws RX4 TX4 16, w ∈ wsX4_countTurns := fun w h => (List.mem_cons_of_mem _ (List.mem_append_right _ h))
  unfold fX4_countTurns at hf
  have l_21 : ∀ (n : Nat) (y1 : Int32) (y2 : Int32) (H : Heap) (locs : List Loc) (ls : Array Slot), loop (fX4_countTurns_b21 S) n (y1, y2) = some r → ST D (wM cy ad Xr) A s S H locs → lv_has ls 3 [(0, .ref (ad 0)), (1, .int y1), (2, .int y2)] → W p l e ({ frames := 6, cells := 0, slots := 0, locals := 152 } : Room) s m [.ref (ad 0)].toArray below meth c H locs 0 0 (MQ below (QG D (wM cy ad Xr) A (some (.int r)) S) [.ref (ad 0)].toArray s 0 0 A) (F0 m 21 ls []) := by
    intro n
    induction n with
    | zero => intro _ _ _ _ _ hf; cases hf
    | succ n ih_21 =>
      intro y1 y2 H locs ls hf T hl
      obtain ⟨z_21, hf, hin_21, hex_21⟩ := loop_inv hf
      unfold fX4_countTurns_b21 at hf
      dsimp only at hf
      refine lv_iload_n hx hb dX4_countTurns_21 rfl (lv_at hl 2 rfl) ?_
      refine lv_iconst (v := (-1)) hx hb dX4_countTurns_22 (by decide) ?_
      refine lv_icmp_eq (tgt := 39) hx hb dX4_countTurns_23 (by decide) (fun hc => ?_) (fun hc => ?_)
      · replace hf := ifp hc hf
        obtain ⟨r0, hf, hz⟩ := ex_inv hf
        rw [hex_21 r0 hz] at hf
        refine lv_iload_n hx hb dX4_countTurns_39 rfl (lv_at hl 1 rfl) ?_
        exact rf_i hf X T hr dX4_countTurns_40
      · replace hf := ifn hc hf
        obtain ⟨v1, e_v1, hf⟩ := nm_inv hf
        refine lv_iinc (v := v1) (lv' := [(1, .int v1), (0, .ref (ad 0)), (2, .int y2)]) hx hb dX4_countTurns_26 hl (k := 1) rfl (by rw [e_v1]; rfl) (by decide) rfl (fun ls hl => ?_)
        refine lv_aload_n hx hb dX4_countTurns_29 rfl (lv_at hl 1 rfl) ?_
        refine lv_iconst (v := 0) hx hb dX4_countTurns_30 (by decide) ?_
        refine lv_iload_n hx hb dX4_countTurns_31 rfl (lv_at hl 2 rfl) ?_
        obtain ⟨v3, h2, hf⟩ := bnd_inv hf
        refine cg_V (q0 := 8) (ci := 4) (As := [.int 0, .int y2]) (rest := []) X T (kX4_nextTurn l D cy ad Xr S 0 y2 v3 h2) (cwV 2 hts gX4_countTurns_X4_nextTurn rfl rfl rfl (by decide +kernel) ⟨Nat.le_of_ble_eq_true rfl, Nat.le_of_ble_eq_true rfl⟩) rfl rfl rfl hl.1 rfl (Nat.le_of_ble_eq_true rfl) dX4_countTurns_32 ⟨Nat.zero_le _, Nat.zero_le _⟩ (st2 := [.int v3]) (pc2 := 35) rfl rfl (fun H locs T => ?_)
        refine lv_istore_n (lv' := [(2, .int v3), (1, .int v1), (0, .ref (ad 0))]) hx hb dX4_countTurns_35 rfl hl (by decide) rfl (fun ls hl => ?_)
        refine lv_goto (tgt := 21) hx hb dX4_countTurns_36 (by decide) ?_
        exact ih_21 v1 v3 _ _ _ (hin_21 _ (Option.some.inj hf).symm) T (lv_sub hl [2, 1, 0] rfl)
  have j_20 : ∀ (y1 : Int32) (z0 : Int32) (H : Heap) (locs : List Loc) (ls : Array Slot), fX4_countTurns_j20 S y1 z0 = some r → ST D (wM cy ad Xr) A s S H locs → lv_has ls 3 [(0, .ref (ad 0)), (1, .int y1)] → W p l e ({ frames := 6, cells := 0, slots := 0, locals := 152 } : Room) s m [.ref (ad 0)].toArray below meth c H locs 0 0 (MQ below (QG D (wM cy ad Xr) A (some (.int r)) S) [.ref (ad 0)].toArray s 0 0 A) (F0 m 20 ls [.int z0]) := by
    intro y1 z0 H locs ls hf T hl
    unfold fX4_countTurns_j20 at hf
    refine lv_istore_n (lv' := [(2, .int z0), (0, .ref (ad 0)), (1, .int y1)]) hx hb dX4_countTurns_20 rfl hl (by decide) rfl (fun ls hl => ?_)
    exact l_21 FUEL y1 z0 _ _ _ hf T (lv_sub hl [1, 2, 0] rfl)
  refine lv_iconst (v := 0) hx hb dX4_countTurns_0 (by decide) ?_
  refine lv_istore_n (lv' := [(1, .int 0), (0, .ref (ad 0))]) hx hb dX4_countTurns_1 rfl hl (by decide) rfl (fun ls hl => ?_)
  refine lv_aload_n hx hb dX4_countTurns_2 rfl (lv_at hl 1 rfl) ?_
  refine va_get (D := D) (ci := 4) (v := .int (S.1 5)) (C := RX4) (T := TX4) (N := 16) hx hb hts hin_X4 hown hK.1 T.1 8 rfl rfl 10 (by decide) (hts _ (List.mem_of_getElem? (i := 1) rfl)) (fun _ h9 => h9) rfl dX4_countTurns_3 ?_
  refine lv_iconst (v := (-1)) hx hb dX4_countTurns_6 (by decide) ?_
  refine lv_icmp_ne (tgt := 19) hx hb dX4_countTurns_7 (by decide) (fun hc => ?_) (fun hc => ?_)
  · replace hf := ifn hc hf
    refine lv_iconst (v := (-1)) hx hb dX4_countTurns_19 (by decide) ?_
    exact j_20 0 (-1) _ _ _ hf T (lv_sub hl [1, 0] rfl)
  · replace hf := ifp hc hf
    refine lv_aload_n hx hb dX4_countTurns_10 rfl (lv_at hl 1 rfl) ?_
    refine lv_iconst (v := 0) hx hb dX4_countTurns_11 (by decide) ?_
    refine lv_iconst (v := (-1)) hx hb dX4_countTurns_12 (by decide) ?_
    obtain ⟨v5, h4, hf⟩ := bnd_inv hf
    refine cg_V (q0 := 8) (ci := 4) (As := [.int 0, .int (-1)]) (rest := []) X T (kX4_nextTurn l D cy ad Xr S 0 (-1) v5 h4) (cwV 2 hts gX4_countTurns_X4_nextTurn rfl rfl rfl (by decide +kernel) ⟨Nat.le_of_ble_eq_true rfl, Nat.le_of_ble_eq_true rfl⟩) rfl rfl rfl hl.1 rfl (Nat.le_of_ble_eq_true rfl) dX4_countTurns_13 ⟨Nat.zero_le _, Nat.zero_le _⟩ (st2 := [.int v5]) (pc2 := 16) rfl rfl (fun H locs T => ?_)
    refine lv_goto (tgt := 20) hx hb dX4_countTurns_16 (by decide) ?_
    exact j_20 0 v5 _ _ _ hf T (lv_sub hl [1, 0] rfl)

noncomputable def fX4_turnCount_j13 (z1 : Int32) (S_13 : SC) : Option (Int32 × SC) :=
  bnd (fX4_goesWell S_13 z1) fun v2 =>
  if v2.1 = 0 then
    some (0, v2.2)
  else
    bnd (fX4_countTurns v2.2) fun v4 =>
    some (v4, v2.2)
noncomputable def fX4_turnCount (S : SC) : Option (Int32 × SC) :=
  bnd (fX4_isPlaced S) fun v6 =>
  if v6 = 0 then
    fX4_turnCount_j13 1 S
  else
    fX4_turnCount_j13 0 S
set_option maxHeartbeats 4000000 in
set_option maxRecDepth 100000 in
theorem kX4_turnCount (l : Launch) (D : va_G) (cy : Nat → ClassId) (ad : Nat → Nat) (Xr : va_W) (S : SC) (r : (Int32 × SC)) (hf : fX4_turnCount S = some r) : CG l D cy (wM cy ad Xr) yX4_turnCount wsX4_turnCount ({ frames := 7, cells := 0, slots := 0, locals := 174 } : Room) [.ref (ad 0)] S (some (.int r.1)) r.2 := by
  refine CG.of (cc := cX4_turnCount) (maxL := 1) (ret := (some .int)) (by decide +kernel) rfl (Nat.le_of_ble_eq_true rfl) ?_
  intro p e s m below meth c A ls X hr T hl
  obtain ⟨hx, hb, hml, hown, hts, hlk, hK, hA, hwA⟩ := id X
  have hl : lv_has ls 1 [(0, .ref (ad 0))] := hl
  unfold fX4_turnCount at hf
  have j_13 : ∀ (z1 : Int32) (S_13 : SC) (H : Heap) (locs : List Loc) (ls : Array Slot), fX4_turnCount_j13 z1 S_13 = some r → ST D (wM cy ad Xr) A s S_13 H locs → lv_has ls 1 [(0, .ref (ad 0))] → W p l e ({ frames := 7, cells := 0, slots := 0, locals := 174 } : Room) s m [.ref (ad 0)].toArray below meth c H locs 0 0 (MQ below (QG D (wM cy ad Xr) A (some (.int r.1)) r.2) [.ref (ad 0)].toArray s 0 0 A) (F0 m 13 ls [.int z1, .ref (ad 0)]) := by
    intro z1 S_13 H locs ls hf T hl
    unfold fX4_turnCount_j13 at hf
    obtain ⟨v2, h1, hf⟩ := bnd_inv hf
    refine cg_V (q0 := 8) (ci := 4) (As := [.int z1]) (rest := []) X T (kX4_goesWell l D cy ad Xr S_13 z1 v2 h1) (cwV 1 hts gX4_turnCount_X4_goesWell rfl rfl rfl (by decide +kernel) ⟨Nat.le_of_ble_eq_true rfl, Nat.le_of_ble_eq_true rfl⟩) rfl rfl rfl hl.1 rfl (Nat.le_of_ble_eq_true rfl) dX4_turnCount_13 ⟨Nat.zero_le _, Nat.zero_le _⟩ (st2 := [.int v2.1]) (pc2 := 16) rfl rfl (fun H locs T => ?_)
    refine lv_if_eq (tgt := 26) hx hb dX4_turnCount_16 (by decide) (fun hc => ?_) (fun hc => ?_)
    · replace hf := ifp hc hf
      refine lv_iconst (v := 0) hx hb dX4_turnCount_26 (by decide) ?_
      exact rf_iw hf X T hr dX4_turnCount_27
    · replace hf := ifn hc hf
      refine lv_aload_n hx hb dX4_turnCount_19 rfl (lv_at hl 0 rfl) ?_
      obtain ⟨v4, h3, hf⟩ := bnd_inv hf
      refine cg_V (q0 := 8) (ci := 4) (As := []) (rest := []) X T (kX4_countTurns l D cy ad Xr v2.2 v4 h3) (cwV 0 hts gX4_turnCount_X4_countTurns rfl rfl rfl (by decide +kernel) ⟨Nat.le_of_ble_eq_true rfl, Nat.le_of_ble_eq_true rfl⟩) rfl rfl rfl hl.1 rfl (Nat.le_of_ble_eq_true rfl) dX4_turnCount_20 ⟨Nat.zero_le _, Nat.zero_le _⟩ (st2 := [.int v4]) (pc2 := 23) rfl rfl (fun H locs T => ?_)
      refine lv_goto (tgt := 27) hx hb dX4_turnCount_23 (by decide) ?_
      exact rf_iw hf X T hr dX4_turnCount_27
  refine lv_aload_n hx hb dX4_turnCount_0 rfl (lv_at hl 0 rfl) ?_
  refine lv_aload_n hx hb dX4_turnCount_1 rfl (lv_at hl 0 rfl) ?_
  obtain ⟨v6, h5, hf⟩ := bnd_inv hf
  refine cg_V (q0 := 8) (ci := 4) (As := []) (rest := [.ref (ad 0)]) X T (kX4_isPlaced l D cy ad Xr S v6 h5) (cwV 0 hts gX4_turnCount_X4_isPlaced rfl rfl rfl (by decide +kernel) ⟨Nat.le_of_ble_eq_true rfl, Nat.le_of_ble_eq_true rfl⟩) rfl rfl rfl hl.1 rfl (Nat.le_of_ble_eq_true rfl) dX4_turnCount_2 ⟨Nat.zero_le _, Nat.zero_le _⟩ (st2 := [.int v6, .ref (ad 0)]) (pc2 := 5) rfl rfl (fun H locs T => ?_)
  refine lv_if_eq (tgt := 12) hx hb dX4_turnCount_5 (by decide) (fun hc => ?_) (fun hc => ?_)
  · replace hf := ifp hc hf
    refine lv_iconst (v := 1) hx hb dX4_turnCount_12 (by decide) ?_
    exact j_13 1 S _ _ _ hf T (lv_sub hl [0] rfl)
  · replace hf := ifn hc hf
    refine lv_iconst (v := 0) hx hb dX4_turnCount_8 (by decide) ?_
    refine lv_goto (tgt := 13) hx hb dX4_turnCount_9 (by decide) ?_
    exact j_13 0 S _ _ _ hf T (lv_sub hl [0] rfl)

noncomputable def fX4_turnAt_b66 (y1 : Int32) : (Int32 × Int32 × SC) → Option ((Int32 × Int32 × SC) ⊕ (Int32 × SC)) :=
  fun st => match st with
    | (y3, y4, S_66) =>
      if y1 ≤ y4 then
        ex <|
        some (y3, S_66)
      else
        bnd (fX4_nextTurn S_66 0 y3) fun v2 =>
        nm (y4 + 1 : Int32) fun v3 =>
        some (.inl (v2, v3, S_66))
noncomputable def fX4_turnAt_j48 (y1 : Int32) (z1 : Int32) (S_48 : SC) : Option (Int32 × SC) :=
  bnd (fX4_goesWell S_48 z1) fun v5 =>
  if v5.1 = 0 then
    some (0, v5.2)
  else
    bnd (fX4_nextTurn v5.2 0 (-1)) fun v7 =>
    loop (fX4_turnAt_b66 y1) FUEL (v7, 0, v5.2)
noncomputable def fX4_turnAt_j26 (y1 : Int32) (z0 : Int32) (S_26 : SC) : Option (Int32 × SC) :=
  bnd (fX4_isPlaced S_26) fun v9 =>
  if v9 = 0 then
    fX4_turnAt_j48 y1 2 S_26
  else
    if z0 = 0 then
      fX4_turnAt_j48 y1 1 S_26
    else
      fX4_turnAt_j48 y1 0 S_26
noncomputable def fX4_turnAt_j25 (y1 : Int32) (S_25 : SC) : Option (Int32 × SC) :=
  fX4_turnAt_j26 y1 0 S_25
noncomputable def fX4_turnAt (S : SC) (x1 : Int32) : Option (Int32 × SC) :=
  bnd (fX4_isPlaced S) fun v11 =>
  if v11 = 0 then
    fX4_turnAt_j25 x1 S
  else
    bnd (fX4_countTurns S) fun v13 =>
    bnd (fX4_in S x1 0 (v13 - 1)) fun v15 =>
    if v15 = 0 then
      fX4_turnAt_j25 x1 S
    else
      fX4_turnAt_j26 x1 1 S
set_option maxHeartbeats 4000000 in
set_option maxRecDepth 100000 in
theorem kX4_turnAt (l : Launch) (D : va_G) (cy : Nat → ClassId) (ad : Nat → Nat) (Xr : va_W) (S : SC) (x1 : Int32) (r : (Int32 × SC)) (hf : fX4_turnAt S x1 = some r) : CG l D cy (wM cy ad Xr) yX4_turnAt wsX4_turnAt ({ frames := 7, cells := 0, slots := 0, locals := 174 } : Room) [.ref (ad 0), .int x1] S (some (.int r.1)) r.2 := by
  refine CG.of (cc := cX4_turnAt) (maxL := 5) (ret := (some .int)) (by decide +kernel) rfl (Nat.le_of_ble_eq_true rfl) ?_
  intro p e s m below meth c A ls X hr T hl
  obtain ⟨hx, hb, hml, hown, hts, hlk, hK, hA, hwA⟩ := id X
  have hl : lv_has ls 5 [(0, .ref (ad 0)), (1, .int x1)] := hl
  unfold fX4_turnAt at hf
  have l_66 : ∀ (y1 : Int32) (n : Nat) (y3 : Int32) (y4 : Int32) (S_66 : SC) (H : Heap) (locs : List Loc) (ls : Array Slot), loop (fX4_turnAt_b66 y1) n (y3, y4, S_66) = some r → ST D (wM cy ad Xr) A s S_66 H locs → lv_has ls 5 [(0, .ref (ad 0)), (1, .int y1), (3, .int y3), (4, .int y4)] → W p l e ({ frames := 7, cells := 0, slots := 0, locals := 174 } : Room) s m [.ref (ad 0), .int x1].toArray below meth c H locs 0 0 (MQ below (QG D (wM cy ad Xr) A (some (.int r.1)) r.2) [.ref (ad 0), .int x1].toArray s 0 0 A) (F0 m 66 ls []) := by
    intro y1 n
    induction n with
    | zero => intro _ _ _ _ _ _ hf; cases hf
    | succ n ih_66 =>
      intro y3 y4 S_66 H locs ls hf T hl
      obtain ⟨z_66, hf, hin_66, hex_66⟩ := loop_inv hf
      unfold fX4_turnAt_b66 at hf
      dsimp only at hf
      refine lv_iload hx hb dX4_turnAt_66 (lv_at hl 3 rfl) ?_
      refine lv_iload_n hx hb dX4_turnAt_68 rfl (lv_at hl 1 rfl) ?_
      refine lv_icmp_ge (tgt := 85) hx hb dX4_turnAt_69 (by decide) (fun hc => ?_) (fun hc => ?_)
      · replace hf := ifp hc hf
        obtain ⟨r0, hf, hz⟩ := ex_inv hf
        rw [hex_66 r0 hz] at hf
        refine lv_iload_n hx hb dX4_turnAt_85 rfl (lv_at hl 2 rfl) ?_
        exact rf_iw hf X T hr dX4_turnAt_86
      · replace hf := ifn hc hf
        refine lv_aload_n hx hb dX4_turnAt_72 rfl (lv_at hl 0 rfl) ?_
        refine lv_iconst (v := 0) hx hb dX4_turnAt_73 (by decide) ?_
        refine lv_iload_n hx hb dX4_turnAt_74 rfl (lv_at hl 2 rfl) ?_
        obtain ⟨v2, h1, hf⟩ := bnd_inv hf
        refine cg_V (q0 := 8) (ci := 4) (As := [.int 0, .int y3]) (rest := []) X T (kX4_nextTurn l D cy ad Xr S_66 0 y3 v2 h1) (cwV 2 hts gX4_turnAt_X4_nextTurn rfl rfl rfl (by decide +kernel) ⟨Nat.le_of_ble_eq_true rfl, Nat.le_of_ble_eq_true rfl⟩) rfl rfl rfl hl.1 rfl (Nat.le_of_ble_eq_true rfl) dX4_turnAt_75 ⟨Nat.zero_le _, Nat.zero_le _⟩ (st2 := [.int v2]) (pc2 := 78) rfl rfl (fun H locs T => ?_)
        refine lv_istore_n (lv' := [(3, .int v2), (0, .ref (ad 0)), (1, .int y1), (4, .int y4)]) hx hb dX4_turnAt_78 rfl hl (by decide) rfl (fun ls hl => ?_)
        obtain ⟨v3, e_v3, hf⟩ := nm_inv hf
        refine lv_iinc (v := v3) (lv' := [(4, .int v3), (3, .int v2), (0, .ref (ad 0)), (1, .int y1)]) hx hb dX4_turnAt_79 hl (k := 3) rfl (by rw [e_v3]; rfl) (by decide) rfl (fun ls hl => ?_)
        refine lv_goto (tgt := 66) hx hb dX4_turnAt_82 (by decide) ?_
        exact ih_66 v2 v3 S_66 _ _ _ (hin_66 _ (Option.some.inj hf).symm) T (lv_sub hl [2, 3, 1, 0] rfl)
  have j_48 : ∀ (y1 : Int32) (z1 : Int32) (S_48 : SC) (H : Heap) (locs : List Loc) (ls : Array Slot), fX4_turnAt_j48 y1 z1 S_48 = some r → ST D (wM cy ad Xr) A s S_48 H locs → lv_has ls 5 [(0, .ref (ad 0)), (1, .int y1)] → W p l e ({ frames := 7, cells := 0, slots := 0, locals := 174 } : Room) s m [.ref (ad 0), .int x1].toArray below meth c H locs 0 0 (MQ below (QG D (wM cy ad Xr) A (some (.int r.1)) r.2) [.ref (ad 0), .int x1].toArray s 0 0 A) (F0 m 48 ls [.int z1, .ref (ad 0)]) := by
    intro y1 z1 S_48 H locs ls hf T hl
    unfold fX4_turnAt_j48 at hf
    obtain ⟨v5, h4, hf⟩ := bnd_inv hf
    refine cg_V (q0 := 8) (ci := 4) (As := [.int z1]) (rest := []) X T (kX4_goesWell l D cy ad Xr S_48 z1 v5 h4) (cwV 1 hts gX4_turnAt_X4_goesWell rfl rfl rfl (by decide +kernel) ⟨Nat.le_of_ble_eq_true rfl, Nat.le_of_ble_eq_true rfl⟩) rfl rfl rfl hl.1 rfl (Nat.le_of_ble_eq_true rfl) dX4_turnAt_48 ⟨Nat.zero_le _, Nat.zero_le _⟩ (st2 := [.int v5.1]) (pc2 := 51) rfl rfl (fun H locs T => ?_)
    refine lv_if_ne (tgt := 56) hx hb dX4_turnAt_51 (by decide) (fun hc => ?_) (fun hc => ?_)
    · replace hf := ifn hc hf
      refine lv_aload_n hx hb dX4_turnAt_56 rfl (lv_at hl 0 rfl) ?_
      refine lv_iconst (v := 0) hx hb dX4_turnAt_57 (by decide) ?_
      refine lv_iconst (v := (-1)) hx hb dX4_turnAt_58 (by decide) ?_
      obtain ⟨v7, h6, hf⟩ := bnd_inv hf
      refine cg_V (q0 := 8) (ci := 4) (As := [.int 0, .int (-1)]) (rest := []) X T (kX4_nextTurn l D cy ad Xr v5.2 0 (-1) v7 h6) (cwV 2 hts gX4_turnAt_X4_nextTurn rfl rfl rfl (by decide +kernel) ⟨Nat.le_of_ble_eq_true rfl, Nat.le_of_ble_eq_true rfl⟩) rfl rfl rfl hl.1 rfl (Nat.le_of_ble_eq_true rfl) dX4_turnAt_59 ⟨Nat.zero_le _, Nat.zero_le _⟩ (st2 := [.int v7]) (pc2 := 62) rfl rfl (fun H locs T => ?_)
      refine lv_istore_n (lv' := [(3, .int v7), (0, .ref (ad 0)), (1, .int y1)]) hx hb dX4_turnAt_62 rfl hl (by decide) rfl (fun ls hl => ?_)
      refine lv_iconst (v := 0) hx hb dX4_turnAt_63 (by decide) ?_
      refine lv_istore (lv' := [(4, .int 0), (3, .int v7), (0, .ref (ad 0)), (1, .int y1)]) hx hb dX4_turnAt_64 hl (by decide) rfl (fun ls hl => ?_)
      exact l_66 y1 FUEL v7 0 v5.2 _ _ _ hf T (lv_sub hl [2, 3, 1, 0] rfl)
    · replace hf := ifp hc hf
      refine lv_iconst (v := 0) hx hb dX4_turnAt_54 (by decide) ?_
      exact rf_iw hf X T hr dX4_turnAt_55
  have j_26 : ∀ (y1 : Int32) (z0 : Int32) (S_26 : SC) (H : Heap) (locs : List Loc) (ls : Array Slot), fX4_turnAt_j26 y1 z0 S_26 = some r → ST D (wM cy ad Xr) A s S_26 H locs → lv_has ls 5 [(0, .ref (ad 0)), (1, .int y1)] → W p l e ({ frames := 7, cells := 0, slots := 0, locals := 174 } : Room) s m [.ref (ad 0), .int x1].toArray below meth c H locs 0 0 (MQ below (QG D (wM cy ad Xr) A (some (.int r.1)) r.2) [.ref (ad 0), .int x1].toArray s 0 0 A) (F0 m 26 ls [.int z0]) := by
    intro y1 z0 S_26 H locs ls hf T hl
    unfold fX4_turnAt_j26 at hf
    refine lv_istore_n (lv' := [(2, .int z0), (0, .ref (ad 0)), (1, .int y1)]) hx hb dX4_turnAt_26 rfl hl (by decide) rfl (fun ls hl => ?_)
    refine lv_aload_n hx hb dX4_turnAt_27 rfl (lv_at hl 1 rfl) ?_
    refine lv_aload_n hx hb dX4_turnAt_28 rfl (lv_at hl 1 rfl) ?_
    obtain ⟨v9, h8, hf⟩ := bnd_inv hf
    refine cg_V (q0 := 8) (ci := 4) (As := []) (rest := [.ref (ad 0)]) X T (kX4_isPlaced l D cy ad Xr S_26 v9 h8) (cwV 0 hts gX4_turnAt_X4_isPlaced rfl rfl rfl (by decide +kernel) ⟨Nat.le_of_ble_eq_true rfl, Nat.le_of_ble_eq_true rfl⟩) rfl rfl rfl hl.1 rfl (Nat.le_of_ble_eq_true rfl) dX4_turnAt_29 ⟨Nat.zero_le _, Nat.zero_le _⟩ (st2 := [.int v9, .ref (ad 0)]) (pc2 := 32) rfl rfl (fun H locs T => ?_)
    refine lv_if_ne (tgt := 39) hx hb dX4_turnAt_32 (by decide) (fun hc => ?_) (fun hc => ?_)
    · replace hf := ifn hc hf
      refine lv_iload_n hx hb dX4_turnAt_39 rfl (lv_at hl 0 rfl) ?_
      refine lv_if_eq (tgt := 47) hx hb dX4_turnAt_40 (by decide) (fun hc => ?_) (fun hc => ?_)
      · replace hf := ifp hc hf
        refine lv_iconst (v := 1) hx hb dX4_turnAt_47 (by decide) ?_
        exact j_48 y1 1 S_26 _ _ _ hf T (lv_sub hl [1, 2] rfl)
      · replace hf := ifn hc hf
        refine lv_iconst (v := 0) hx hb dX4_turnAt_43 (by decide) ?_
        refine lv_goto (tgt := 48) hx hb dX4_turnAt_44 (by decide) ?_
        exact j_48 y1 0 S_26 _ _ _ hf T (lv_sub hl [1, 2] rfl)
    · replace hf := ifp hc hf
      refine lv_iconst (v := 2) hx hb dX4_turnAt_35 (by decide) ?_
      refine lv_goto (tgt := 48) hx hb dX4_turnAt_36 (by decide) ?_
      exact j_48 y1 2 S_26 _ _ _ hf T (lv_sub hl [1, 2] rfl)
  have j_25 : ∀ (y1 : Int32) (S_25 : SC) (H : Heap) (locs : List Loc) (ls : Array Slot), fX4_turnAt_j25 y1 S_25 = some r → ST D (wM cy ad Xr) A s S_25 H locs → lv_has ls 5 [(0, .ref (ad 0)), (1, .int y1)] → W p l e ({ frames := 7, cells := 0, slots := 0, locals := 174 } : Room) s m [.ref (ad 0), .int x1].toArray below meth c H locs 0 0 (MQ below (QG D (wM cy ad Xr) A (some (.int r.1)) r.2) [.ref (ad 0), .int x1].toArray s 0 0 A) (F0 m 25 ls []) := by
    intro y1 S_25 H locs ls hf T hl
    unfold fX4_turnAt_j25 at hf
    refine lv_iconst (v := 0) hx hb dX4_turnAt_25 (by decide) ?_
    exact j_26 y1 0 S_25 _ _ _ hf T (lv_sub hl [0, 1] rfl)
  refine lv_aload_n hx hb dX4_turnAt_0 rfl (lv_at hl 0 rfl) ?_
  obtain ⟨v11, h10, hf⟩ := bnd_inv hf
  refine cg_V (q0 := 8) (ci := 4) (As := []) (rest := []) X T (kX4_isPlaced l D cy ad Xr S v11 h10) (cwV 0 hts gX4_turnAt_X4_isPlaced rfl rfl rfl (by decide +kernel) ⟨Nat.le_of_ble_eq_true rfl, Nat.le_of_ble_eq_true rfl⟩) rfl rfl rfl hl.1 rfl (Nat.le_of_ble_eq_true rfl) dX4_turnAt_1 ⟨Nat.zero_le _, Nat.zero_le _⟩ (st2 := [.int v11]) (pc2 := 4) rfl rfl (fun H locs T => ?_)
  refine lv_if_eq (tgt := 25) hx hb dX4_turnAt_4 (by decide) (fun hc => ?_) (fun hc => ?_)
  · replace hf := ifp hc hf
    exact j_25 x1 S _ _ _ hf T (lv_sub hl [0, 1] rfl)
  · replace hf := ifn hc hf
    refine lv_iload_n hx hb dX4_turnAt_7 rfl (lv_at hl 1 rfl) ?_
    refine lv_iconst (v := 0) hx hb dX4_turnAt_8 (by decide) ?_
    refine lv_aload_n hx hb dX4_turnAt_9 rfl (lv_at hl 0 rfl) ?_
    obtain ⟨v13, h12, hf⟩ := bnd_inv hf
    refine cg_V (q0 := 8) (ci := 4) (As := []) (rest := [.int 0, .int x1]) X T (kX4_countTurns l D cy ad Xr S v13 h12) (cwV 0 hts gX4_turnAt_X4_countTurns rfl rfl rfl (by decide +kernel) ⟨Nat.le_of_ble_eq_true rfl, Nat.le_of_ble_eq_true rfl⟩) rfl rfl rfl hl.1 rfl (Nat.le_of_ble_eq_true rfl) dX4_turnAt_10 ⟨Nat.zero_le _, Nat.zero_le _⟩ (st2 := [.int v13, .int 0, .int x1]) (pc2 := 13) rfl rfl (fun H locs T => ?_)
    refine lv_iconst (v := 1) hx hb dX4_turnAt_13 (by decide) ?_
    refine lv_isub hx hb dX4_turnAt_14 ?_
    obtain ⟨v15, h14, hf⟩ := bnd_inv hf
    refine cg_S (As := [.int x1, .int 0, .int (v13 - 1)]) (rest := []) X T (kX4_in l D cy ad Xr S x1 0 (v13 - 1) v15 h14) (va_cwS 3 hts gX4_turnAt_X4_in rfl rfl rfl (by decide +kernel) ⟨Nat.le_of_ble_eq_true rfl, Nat.le_of_ble_eq_true rfl⟩) rfl hl.1 rfl (Nat.le_of_ble_eq_true rfl) dX4_turnAt_15 ⟨Nat.zero_le _, Nat.zero_le _⟩ (st2 := [.int v15]) (pc2 := 18) rfl rfl (fun H locs T => ?_)
    refine lv_if_eq (tgt := 25) hx hb dX4_turnAt_18 (by decide) (fun hc => ?_) (fun hc => ?_)
    · replace hf := ifp hc hf
      exact j_25 x1 S _ _ _ hf T (lv_sub hl [0, 1] rfl)
    · replace hf := ifn hc hf
      refine lv_iconst (v := 1) hx hb dX4_turnAt_21 (by decide) ?_
      refine lv_goto (tgt := 26) hx hb dX4_turnAt_22 (by decide) ?_
      exact j_26 x1 1 S _ _ _ hf T (lv_sub hl [0, 1] rfl)
