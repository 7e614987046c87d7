noncomputable def fX1_listFor (S : SC) (x1 : Int32) : Option Nat :=
  if x1 = 1 then
    some 1
  else
    if x1 = 2 then
      some 2
    else
      some 3
set_option maxHeartbeats 4000000 in
set_option maxRecDepth 100000 in
theorem kX1_listFor (l : Launch) (D : va_G) (cy : Nat → ClassId) (ad : Nat → Nat) (Xr : va_W) (S : SC) (x1 : Int32) (r : Nat) (hf : fX1_listFor S x1 = some r) : CG l D cy (wC cy ad Xr) yX1_listFor wsX1_listFor ({ frames := 0, cells := 0, slots := 0, locals := 0 } : Room) [.ref (ad 15), .int x1] S (some (.ref (ad (7 + 2 * r)))) S := by
  refine CG.of (cc := cX1_listFor) (maxL := 2) (ret := (some (.object "Stormroof$TurnList"))) (by decide +kernel) rfl (Nat.le_of_ble_eq_true rfl) ?_
  intro p e s m below meth c A ls X hr T hl
  obtain ⟨hx, hb, hml, hown, hts, hlk, hK, hA, hwA⟩ := id X
  have hl : lv_has ls 2 [(0, .ref (ad 15)), (1, .int x1)] := hl
  have hin_X1 : ∀ w ∈ u_ws RX1 TX1 3, w ∈ wsX1_listFor := fun w h => (List.mem_cons_of_mem _ (List.mem_append_right _ h))
  unfold fX1_listFor at hf
  refine lv_iload_n hx hb dX1_listFor_0 rfl (lv_at hl 1 rfl) ?_
  refine lv_iconst (v := 1) hx hb dX1_listFor_1 (by decide) ?_
  refine lv_icmp_ne (tgt := 10) hx hb dX1_listFor_2 (by decide) (fun hc => ?_) (fun hc => ?_)
  · replace hf := ifn hc hf
    refine lv_iload_n hx hb dX1_listFor_10 rfl (lv_at hl 1 rfl) ?_
    refine lv_iconst (v := 2) hx hb dX1_listFor_11 (by decide) ?_
    refine lv_icmp_ne (tgt := 22) hx hb dX1_listFor_12 (by decide) (fun hc => ?_) (fun hc => ?_)
    · replace hf := ifn hc hf
      refine lv_aload_n hx hb dX1_listFor_22 rfl (lv_at hl 0 rfl) ?_
      refine va_get (D := D) (ci := 1) (v := .ref (ad 13)) (C := RX1) (T := TX1) (N := 3) hx hb hts hin_X1 hown hK.1 T.1 6 rfl rfl 2 (by decide) (hts _ (List.mem_of_getElem? (i := 3) rfl)) (fun _ h9 => h9) rfl dX1_listFor_23 ?_
      obtain rfl := Option.some.inj hf
      exact rt_a X T hr (Or.inl ⟨_, rfl⟩) dX1_listFor_26
    · replace hf := ifp hc hf
      refine lv_aload_n hx hb dX1_listFor_15 rfl (lv_at hl 0 rfl) ?_
      refine va_get (D := D) (ci := 1) (v := .ref (ad 11)) (C := RX1) (T := TX1) (N := 3) hx hb hts hin_X1 hown hK.1 T.1 6 rfl rfl 1 (by decide) (hts _ (List.mem_of_getElem? (i := 2) rfl)) (fun _ h9 => h9) rfl dX1_listFor_16 ?_
      refine lv_goto (tgt := 26) hx hb dX1_listFor_19 (by decide) ?_
      obtain rfl := Option.some.inj hf
      exact rt_a X T hr (Or.inl ⟨_, rfl⟩) dX1_listFor_26
  · replace hf := ifp hc hf
    refine lv_aload_n hx hb dX1_listFor_5 rfl (lv_at hl 0 rfl) ?_
    refine va_get (D := D) (ci := 1) (v := .ref (ad 9)) (C := RX1) (T := TX1) (N := 3) hx hb hts hin_X1 hown hK.1 T.1 6 rfl rfl 0 (by decide) (hts _ (List.mem_of_getElem? (i := 1) rfl)) (fun _ h9 => h9) rfl dX1_listFor_6 ?_
    obtain rfl := Option.some.inj hf
    exact rt_a X T hr (Or.inl ⟨_, rfl⟩) dX1_listFor_9

noncomputable def fX1_worthOf_j26 (lk : SC → Int32 → Option (Int32 × SC)) (z0 : Int32) (S_26 : SC) : Option (Int32 × SC) :=
  bnd (fX0_undo S_26) fun S2 =>
  some (z0, S2)
noncomputable def fX1_worthOf (lk : SC → Int32 → Option (Int32 × SC)) (S : SC) (x2 : Int32) (x3 : Int32) : Option (Int32 × SC) :=
  bnd (fX0_perform S x2) fun S4 =>
  if S4.1 6 = (-1) then
    bnd (lk S4 (x3 - 1)) fun v6 =>
    fX1_worthOf_j26 lk (-v6.1) v6.2
  else
    fX1_worthOf_j26 lk 1 S4
set_option maxHeartbeats 4000000 in
set_option maxRecDepth 100000 in
theorem kX1_worthOf (l : Launch) (D : va_G) (cy : Nat → ClassId) (ad : Nat → Nat) (Xr : va_W) (lk : SC → Int32 → Option (Int32 × SC)) (fr lo : Nat) (hLK : ∀ (S : SC) (x : Int32) (r : Int32 × SC), lk S x = some r → CG l D cy (wC cy ad Xr) yX1_look wsX1_look ({ frames := fr, cells := 0, slots := 0, locals := lo } : Room) [.ref (ad 15), .ref (ad 1), .int x] S (some (.int r.1)) r.2) (S : SC) (x2 : Int32) (x3 : Int32) (r : (Int32 × SC)) (hf : fX1_worthOf lk S x2 x3 = some r) : CG l D cy (wC cy ad Xr) yX1_worthOf wsX1_worthOf ({ frames := fr + 20, cells := 0, slots := 0, locals := lo + 1000 } : Room) [.ref (ad 15), .ref (ad 1), .int x2, .int x3] S (some (.int r.1)) r.2 := by
  refine CG.of (cc := cX1_worthOf) (maxL := 5) (ret := (some .int)) (by decide +kernel) rfl (Nat.le_of_ble_eq_true rfl) ?_
  intro p e s m below meth c A ls X hr T hl
  obtain ⟨hx, hb, hml, hown, hts, hlk, hK, hA, hwA⟩ := id X
  have hl : lv_has ls 5 [(0, .ref (ad 15)), (1, .ref (ad 1)), (2, .int x2), (3, .int x3)] := hl
  have hin_X0 : ∀ w ∈ u_ws RX0 TX0 13, w ∈ wsX1_worthOf := fun w h => (List.mem_cons_of_mem _ (List.mem_append_right _ h))
  unfold fX1_worthOf at hf
  have j_26 : ∀ (z0 : Int32) (S_26 : SC) (H : Heap) (locs : List Loc) (ls : Array Slot), fX1_worthOf_j26 lk z0 S_26 = some r → ST D (wC cy ad Xr) A s S_26 H locs → lv_has ls 5 [(1, .ref (ad 1))] → W p l e ({ frames := fr + 20, cells := 0, slots := 0, locals := lo + 1000 } : Room) s m [.ref (ad 15), .ref (ad 1), .int x2, .int x3].toArray below meth c H locs 0 0 (MQ below (QG D (wC cy ad Xr) A (some (.int r.1)) r.2) [.ref (ad 15), .ref (ad 1), .int x2, .int x3].toArray s 0 0 A) (F0 m 26 ls [.int z0]) := by
    intro z0 S_26 H locs ls hf T hl
    unfold fX1_worthOf_j26 at hf
    refine lv_istore (lv' := [(4, .int z0), (1, .ref (ad 1))]) hx hb dX1_worthOf_26 hl (by decide) rfl (fun ls hl => ?_)
    refine lv_aload_n hx hb dX1_worthOf_28 rfl (lv_at hl 1 rfl) ?_
    obtain ⟨S2, h1, hf⟩ := bnd_inv hf
    refine cg_V (q0 := 14) (ci := 0) (As := []) (rest := []) X T (kX0_undo l D cy ad Xr S_26 S2 h1) (cwV 0 hts gX1_worthOf_X0_undo rfl rfl rfl (by decide +kernel) ⟨by dsimp only; omega, by dsimp only; omega⟩) rfl rfl rfl hl.1 rfl (Nat.le_of_ble_eq_true rfl) dX1_worthOf_29 ⟨Nat.zero_le _, Nat.zero_le _⟩ (st2 := []) (pc2 := 32) rfl rfl (fun H locs T => ?_)
    refine lv_iload hx hb dX1_worthOf_32 (lv_at hl 0 rfl) ?_
    exact rf_iw hf X T hr dX1_worthOf_34
  refine lv_aload_n hx hb dX1_worthOf_0 rfl (lv_at hl 1 rfl) ?_
  refine lv_iload_n hx hb dX1_worthOf_1 rfl (lv_at hl 2 rfl) ?_
  obtain ⟨S4, h3, hf⟩ := bnd_inv hf
  refine cg_V (q0 := 14) (ci := 0) (As := [.int x2]) (rest := []) X T (kX0_perform l D cy ad Xr S x2 S4 h3) (cwV 1 hts gX1_worthOf_X0_perform rfl rfl rfl (by decide +kernel) ⟨by dsimp only; omega, by dsimp only; omega⟩) rfl rfl rfl hl.1 rfl (Nat.le_of_ble_eq_true rfl) dX1_worthOf_2 ⟨Nat.zero_le _, Nat.zero_le _⟩ (st2 := []) (pc2 := 5) rfl rfl (fun H locs T => ?_)
  refine lv_aload_n hx hb dX1_worthOf_5 rfl (lv_at hl 1 rfl) ?_
  refine va_getN (D := D) (ci := 0) (v := .int (S4.1 6)) (C := RX0) (T := TX0) (N := 13) hx hb hts hin_X0 hown hK.1 T.1 14 rfl rfl 11 (by decide) (va_Nw.use rfl (hK.2 _ (List.mem_of_getElem? (i := 5) rfl))) (fun _ h9 => h9) rfl dX1_worthOf_6 ?_
  refine lv_iconst (v := (-1)) hx hb dX1_worthOf_9 (by decide) ?_
  refine lv_icmp_eq (tgt := 17) hx hb dX1_worthOf_10 (by decide) (fun hc => ?_) (fun hc => ?_)
  · replace hf := ifp hc hf
    refine lv_aload_n hx hb dX1_worthOf_17 rfl (lv_at hl 0 rfl) ?_
    refine lv_aload_n hx hb dX1_worthOf_18 rfl (lv_at hl 1 rfl) ?_
    refine lv_iload_n hx hb dX1_worthOf_19 rfl (lv_at hl 3 rfl) ?_
    refine lv_iconst (v := 1) hx hb dX1_worthOf_20 (by decide) ?_
    refine lv_isub hx hb dX1_worthOf_21 ?_
    obtain ⟨v6, h5, hf⟩ := bnd_inv hf
    refine cg_V (q0 := 6) (ci := 1) (As := [.ref (ad 1), .int (x3 - 1)]) (rest := []) X T (hLK S4 (x3 - 1) v6 h5) (cwV 2 hts gX1_worthOf_X1_look rfl rfl rfl (by decide +kernel) ⟨by dsimp only; omega, by dsimp only; omega⟩) rfl rfl rfl hl.1 rfl (Nat.le_of_ble_eq_true rfl) dX1_worthOf_22 ⟨Nat.zero_le _, Nat.zero_le _⟩ (st2 := [.int v6.1]) (pc2 := 25) rfl rfl (fun H locs T => ?_)
    refine lv_ineg hx hb dX1_worthOf_25 ?_
    exact j_26 (-v6.1) v6.2 _ _ _ hf T (lv_sub hl [1] rfl)
  · replace hf := ifn hc hf
    refine lv_iconst (v := 1) hx hb dX1_worthOf_13 (by decide) ?_
    refine lv_goto (tgt := 26) hx hb dX1_worthOf_14 (by decide) ?_
    exact j_26 1 S4 _ _ _ hf T (lv_sub hl [1] rfl)

noncomputable def fX1_look_b100 (lk : SC → Int32 → Option (Int32 × SC)) (y2 : Int32) (y3 : Nat) (y5 : Int32) : (Int32 × Int32 × SC) → Option ((Int32 × Int32 × SC) ⊕ (Int32 × SC)) :=
  fun st => match st with
    | (y4, y6, S_100) =>
      if S_100.1 (8 + y3) ≤ y6 then
        ex <|
        some (y4, S_100)
      else
        if y5 ≤ y4 then
          ex <|
          some (y4, S_100)
        else
          bnd (fX2_at S_100 y3 y6) fun v2 =>
          bnd (fX1_worthOf lk S_100 v2 y2) fun v4 =>
          nm (if y4 < v4.1 then v4.1 else y4 : Int32) fun v5 =>
          nm (y6 + 1 : Int32) fun v6 =>
          some (.inl (v5, v6, v4.2))
noncomputable def fX1_look_j92 (lk : SC → Int32 → Option (Int32 × SC)) (y2 : Int32) (y3 : Nat) (z0 : Int32) (S_92 : SC) : Option (Int32 × SC) :=
  loop (fX1_look_b100 lk y2 y3 z0) FUEL ((-1), 0, S_92)
noncomputable def fX1_look_j68 (lk : SC → Int32 → Option (Int32 × SC)) (y2 : Int32) (y3 : Nat) (y4 : Int32) (S_68 : SC) : Option (Int32 × SC) :=
  if y2 = 1 then
    some (y4, S_68)
  else
    if y4 = 1 then
      some (y4, S_68)
    else
      if y2 = 2 then
        fX1_look_j92 lk y2 y3 0 S_68
      else
        fX1_look_j92 lk y2 y3 1 S_68
noncomputable def fX1_look_b28 (lk : SC → Int32 → Option (Int32 × SC)) (y2 : Int32) (y3 : Nat) : (Int32 × Int32 × SC) → Option ((Int32 × Int32 × SC) ⊕ (Int32 × SC)) :=
  fun st => match st with
    | (y4, y5, S_28) =>
      if S_28.1 (8 + y3) ≤ y5 then
        ex <|
        fX1_look_j68 lk y2 y3 y4 S_28
      else
        if (1 : Int32) ≤ y4 then
          ex <|
          fX1_look_j68 lk y2 y3 y4 S_28
        else
          bnd (fX2_at S_28 y3 y5) fun v8 =>
          bnd (fX1_worthOf lk S_28 v8 1) fun v10 =>
          nm (if y4 < v10.1 then v10.1 else y4 : Int32) fun v11 =>
          nm (y5 + 1 : Int32) fun v12 =>
          some (.inl (v11, v12, v10.2))
noncomputable def fX1_look (lk : SC → Int32 → Option (Int32 × SC)) (S : SC) (x2 : Int32) : Option (Int32 × SC) :=
  if x2 ≤ 0 then
    some (0, S)
  else
    if x2 ≤ 3 then
      bnd (fX1_listFor S x2) fun v14 =>
      cp (v14 < 4) <|
      bnd (fX0_listTurns S v14) fun S16 =>
      loop (fX1_look_b28 lk x2 v14) FUEL ((-1), 0, S16)
    else
      some (0, S)
set_option maxHeartbeats 4000000 in
set_option maxRecDepth 100000 in
theorem kX1_look (l : Launch) (D : va_G) (cy : Nat → ClassId) (ad : Nat → Nat) (Xr : va_W) (lk : SC → Int32 → Option (Int32 × SC)) (fr lo : Nat) (hLK : ∀ (S : SC) (x : Int32) (r : Int32 × SC), lk S x = some r → CG l D cy (wC cy ad Xr) yX1_look wsX1_look ({ frames := fr, cells := 0, slots := 0, locals := lo } : Room) [.ref (ad 15), .ref (ad 1), .int x] S (some (.int r.1)) r.2) (S : SC) (x2 : Int32) (r : (Int32 × SC)) (hf : fX1_look lk S x2 = some r) : CG l D cy (wC cy ad Xr) yX1_look wsX1_look ({ frames := fr + 40, cells := 0, slots := 0, locals := lo + 2000 } : Room) [.ref (ad 15), .ref (ad 1), .int x2] S (some (.int r.1)) r.2 := by
  refine CG.of (cc := cX1_look) (maxL := 7) (ret := (some .int)) (by decide +kernel) rfl (Nat.le_of_ble_eq_true rfl) ?_
  intro p e s m below meth c A ls X hr T hl
  obtain ⟨hx, hb, hml, hown, hts, hlk, hK, hA, hwA⟩ := id X
  have hl : lv_has ls 7 [(0, .ref (ad 15)), (1, .ref (ad 1)), (2, .int x2)] := hl
  have hin_X2 : ∀ w ∈ u_ws RX2 TX2 2, w ∈ wsX1_look := fun w h => (List.mem_cons_of_mem _ (List.mem_append_left _ (List.mem_append_left _ (List.mem_append_right _ h))))
  unfold fX1_look at hf
  have l_100 : ∀ (y2 : Int32) (y3 : Nat) (y5 : Int32) (n : Nat) (y4 : Int32) (y6 : Int32) (S_100 : SC) (H : Heap) (locs : List Loc) (ls : Array Slot), loop (fX1_look_b100 lk y2 y3 y5) n (y4, y6, S_100) = some r → ST D (wC cy ad Xr) A s S_100 H locs → lv_has ls 7 [(0, .ref (ad 15)), (1, .ref (ad 1)), (2, .int y2), (3, .ref (ad (7 + 2 * y3))), (4, .int y4), (5, .int y5), (6, .int y6)] → y3 < 4 → W p l e ({ frames := fr + 40, cells := 0, slots := 0, locals := lo + 2000 } : Room) s m [.ref (ad 15), .ref (ad 1), .int x2].toArray below meth c H locs 0 0 (MQ below (QG D (wC cy ad Xr) A (some (.int r.1)) r.2) [.ref (ad 15), .ref (ad 1), .int x2].toArray s 0 0 A) (F0 m 100 ls []) := by
    intro y2 y3 y5 n
    induction n with
    | zero => intro _ _ _ _ _ _ hf; cases hf
    | succ n ih_100 =>
      intro y4 y6 S_100 H locs ls hf T hl ht_y3
      obtain ⟨z_100, hf, hin_100, hex_100⟩ := loop_inv hf
      unfold fX1_look_b100 at hf
      dsimp only at hf
      refine lv_iload hx hb dX1_look_100 (lv_at hl 6 rfl) ?_
      refine lv_aload_n hx hb dX1_look_102 rfl (lv_at hl 3 rfl) ?_
      refine va_getN (D := D) (ci := 2) (v := .int (S_100.1 (8 + y3))) (C := RX2) (T := TX2) (N := 2) hx hb hts hin_X2 hown hK.1 T.1 (pL y3) (wC_L cy ad Xr S_100 ht_y3) rfl 1 (by decide) (va_Nw.use rfl (hK.2 _ (List.mem_of_getElem? (i := 4) rfl))) (fun _ h9 => h9) rfl dX1_look_103 ?_
      refine lv_icmp_ge (tgt := 141) hx hb dX1_look_106 (by decide) (fun hc => ?_) (fun hc => ?_)
      · replace hf := ifp hc hf
        obtain ⟨r0, hf, hz⟩ := ex_inv hf
        rw [hex_100 r0 hz] at hf
        refine lv_iload hx hb dX1_look_141 (lv_at hl 4 rfl) ?_
        exact rf_iw hf X T hr dX1_look_143
      · replace hf := ifn hc hf
        refine lv_iload hx hb dX1_look_109 (lv_at hl 4 rfl) ?_
        refine lv_iload hx hb dX1_look_111 (lv_at hl 5 rfl) ?_
        refine lv_icmp_ge (tgt := 141) hx hb dX1_look_113 (by decide) (fun hc => ?_) (fun hc => ?_)
        · replace hf := ifp hc hf
          obtain ⟨r0, hf, hz⟩ := ex_inv hf
          rw [hex_100 r0 hz] at hf
          refine lv_iload hx hb dX1_look_141 (lv_at hl 4 rfl) ?_
          exact rf_iw hf X T hr dX1_look_143
        · replace hf := ifn hc hf
          refine lv_iload hx hb dX1_look_116 (lv_at hl 4 rfl) ?_
          refine lv_aload_n hx hb dX1_look_118 rfl (lv_at hl 0 rfl) ?_
          refine lv_aload_n hx hb dX1_look_119 rfl (lv_at hl 1 rfl) ?_
          refine lv_aload_n hx hb dX1_look_120 rfl (lv_at hl 3 rfl) ?_
          refine lv_iload hx hb dX1_look_121 (lv_at hl 6 rfl) ?_
          obtain ⟨v2, h1, hf⟩ := bnd_inv hf
          refine cg_V (q0 := (pL y3)) (ci := 2) (As := [.int y6]) (rest := [.ref (ad 1), .ref (ad 15), .int y4]) X T (kX2_at l D cy ad Xr S_100 y3 y6 v2 h1 ht_y3) (cwV 1 hts gX1_look_X2_at rfl rfl rfl (by decide +kernel) ⟨by dsimp only; omega, by dsimp only; omega⟩) (wC_L cy ad Xr S_100 ht_y3) rfl rfl hl.1 rfl (Nat.le_of_ble_eq_true rfl) dX1_look_123 ⟨Nat.zero_le _, Nat.zero_le _⟩ (st2 := [.int v2, .ref (ad 1), .ref (ad 15), .int y4]) (pc2 := 126) rfl rfl (fun H locs T => ?_)
          refine lv_iload_n hx hb dX1_look_126 rfl (lv_at hl 2 rfl) ?_
          obtain ⟨v4, h3, hf⟩ := bnd_inv hf
          refine cg_V (q0 := 6) (ci := 1) (As := [.ref (ad 1), .int v2, .int y2]) (rest := [.int y4]) X T (kX1_worthOf l D cy ad Xr lk fr lo hLK S_100 v2 y2 v4 h3) (cwV 3 hts gX1_look_X1_worthOf rfl rfl rfl (by decide +kernel) ⟨by dsimp only; omega, by dsimp only; omega⟩) rfl rfl rfl hl.1 rfl (Nat.le_of_ble_eq_true rfl) dX1_look_127 ⟨Nat.zero_le _, Nat.zero_le _⟩ (st2 := [.int v4.1, .int y4]) (pc2 := 130) rfl rfl (fun H locs T => ?_)
          refine va_mmax hx hb (hml.trans hl.1.symm) hown (hts _ (List.mem_of_getElem? (i := 1) rfl)) (hts _ (List.mem_of_getElem? (i := 2) rfl)) (hts _ (List.mem_of_getElem? (i := 3) rfl)) (hts _ (List.mem_of_getElem? (i := 4) rfl)) (by dsimp only; omega) (Nat.le_trans (Nat.le_of_ble_eq_true rfl : (List.map (fun v => v.category) ([] : List Value)).sum + 13 ≤ 1000) (by dsimp only; omega)) (Nat.zero_le _) (Nat.zero_le _) dX1_look_130 ?_
          refine lv_topi (fun v5 e_v5 => ?_)
          replace hf := nm_use hf e_v5
          refine lv_istore (lv' := [(4, .int v5), (0, .ref (ad 15)), (1, .ref (ad 1)), (2, .int y2), (3, .ref (ad (7 + 2 * y3))), (5, .int y5), (6, .int y6)]) hx hb dX1_look_133 hl (by decide) rfl (fun ls hl => ?_)
          obtain ⟨v6, e_v6, hf⟩ := nm_inv hf
          refine lv_iinc (v := v6) (lv' := [(6, .int v6), (4, .int v5), (0, .ref (ad 15)), (1, .ref (ad 1)), (2, .int y2), (3, .ref (ad (7 + 2 * y3))), (5, .int y5)]) hx hb dX1_look_135 hl (k := 6) rfl (by rw [e_v6]; rfl) (by decide) rfl (fun ls hl => ?_)
          refine lv_goto (tgt := 100) hx hb dX1_look_138 (by decide) ?_
          exact ih_100 v5 v6 v4.2 _ _ _ (hin_100 _ (Option.some.inj hf).symm) T (lv_sub hl [2, 3, 4, 5, 1, 6, 0] rfl) ht_y3
  have j_92 : ∀ (y2 : Int32) (y3 : Nat) (z0 : Int32) (S_92 : SC) (H : Heap) (locs : List Loc) (ls : Array Slot), fX1_look_j92 lk y2 y3 z0 S_92 = some r → ST D (wC cy ad Xr) A s S_92 H locs → lv_has ls 7 [(0, .ref (ad 15)), (1, .ref (ad 1)), (2, .int y2), (3, .ref (ad (7 + 2 * y3)))] → y3 < 4 → W p l e ({ frames := fr + 40, cells := 0, slots := 0, locals := lo + 2000 } : Room) s m [.ref (ad 15), .ref (ad 1), .int x2].toArray below meth c H locs 0 0 (MQ below (QG D (wC cy ad Xr) A (some (.int r.1)) r.2) [.ref (ad 15), .ref (ad 1), .int x2].toArray s 0 0 A) (F0 m 92 ls [.int z0]) := by
    intro y2 y3 z0 S_92 H locs ls hf T hl ht_y3
    unfold fX1_look_j92 at hf
    refine lv_istore (lv' := [(5, .int z0), (0, .ref (ad 15)), (1, .ref (ad 1)), (2, .int y2), (3, .ref (ad (7 + 2 * y3)))]) hx hb dX1_look_92 hl (by decide) rfl (fun ls hl => ?_)
    refine lv_iconst (v := (-1)) hx hb dX1_look_94 (by decide) ?_
    refine lv_istore (lv' := [(4, .int (-1)), (5, .int z0), (0, .ref (ad 15)), (1, .ref (ad 1)), (2, .int y2), (3, .ref (ad (7 + 2 * y3)))]) hx hb dX1_look_95 hl (by decide) rfl (fun ls hl => ?_)
    refine lv_iconst (v := 0) hx hb dX1_look_97 (by decide) ?_
    refine lv_istore (lv' := [(6, .int 0), (4, .int (-1)), (5, .int z0), (0, .ref (ad 15)), (1, .ref (ad 1)), (2, .int y2), (3, .ref (ad (7 + 2 * y3)))]) hx hb dX1_look_98 hl (by decide) rfl (fun ls hl => ?_)
    exact l_100 y2 y3 z0 FUEL (-1) 0 S_92 _ _ _ hf T (lv_sub hl [3, 4, 5, 6, 1, 2, 0] rfl) ht_y3
  have j_68 : ∀ (y2 : Int32) (y3 : Nat) (y4 : Int32) (S_68 : SC) (H : Heap) (locs : List Loc) (ls : Array Slot), fX1_look_j68 lk y2 y3 y4 S_68 = some r → ST D (wC cy ad Xr) A s S_68 H locs → lv_has ls 7 [(0, .ref (ad 15)), (1, .ref (ad 1)), (2, .int y2), (3, .ref (ad (7 + 2 * y3))), (4, .int y4)] → y3 < 4 → W p l e ({ frames := fr + 40, cells := 0, slots := 0, locals := lo + 2000 } : Room) s m [.ref (ad 15), .ref (ad 1), .int x2].toArray below meth c H locs 0 0 (MQ below (QG D (wC cy ad Xr) A (some (.int r.1)) r.2) [.ref (ad 15), .ref (ad 1), .int x2].toArray s 0 0 A) (F0 m 68 ls []) := by
    intro y2 y3 y4 S_68 H locs ls hf T hl ht_y3
    unfold fX1_look_j68 at hf
    refine lv_iload_n hx hb dX1_look_68 rfl (lv_at hl 2 rfl) ?_
    refine lv_iconst (v := 1) hx hb dX1_look_69 (by decide) ?_
    refine lv_icmp_eq (tgt := 79) hx hb dX1_look_70 (by decide) (fun hc => ?_) (fun hc => ?_)
    · replace hf := ifp hc hf
      refine lv_iload hx hb dX1_look_79 (lv_at hl 4 rfl) ?_
      exact rf_iw hf X T hr dX1_look_81
    · replace hf := ifn hc hf
      refine lv_iload hx hb dX1_look_73 (lv_at hl 4 rfl) ?_
      refine lv_iconst (v := 1) hx hb dX1_look_75 (by decide) ?_
      refine lv_icmp_ne (tgt := 82) hx hb dX1_look_76 (by decide) (fun hc => ?_) (fun hc => ?_)
      · replace hf := ifn hc hf
        refine lv_iload_n hx hb dX1_look_82 rfl (lv_at hl 2 rfl) ?_
        refine lv_iconst (v := 2) hx hb dX1_look_83 (by decide) ?_
        refine lv_icmp_ne (tgt := 91) hx hb dX1_look_84 (by decide) (fun hc => ?_) (fun hc => ?_)
        · replace hf := ifn hc hf
          refine lv_iconst (v := 1) hx hb dX1_look_91 (by decide) ?_
          exact j_92 y2 y3 1 S_68 _ _ _ hf T (lv_sub hl [0, 1, 2, 3] rfl) ht_y3
        · replace hf := ifp hc hf
          refine lv_iconst (v := 0) hx hb dX1_look_87 (by decide) ?_
          refine lv_goto (tgt := 92) hx hb dX1_look_88 (by decide) ?_
          exact j_92 y2 y3 0 S_68 _ _ _ hf T (lv_sub hl [0, 1, 2, 3] rfl) ht_y3
      · replace hf := ifp hc hf
        refine lv_iload hx hb dX1_look_79 (lv_at hl 4 rfl) ?_
        exact rf_iw hf X T hr dX1_look_81
  have l_28 : ∀ (y2 : Int32) (y3 : Nat) (n : Nat) (y4 : Int32) (y5 : Int32) (S_28 : SC) (H : Heap) (locs : List Loc) (ls : Array Slot), loop (fX1_look_b28 lk y2 y3) n (y4, y5, S_28) = some r → ST D (wC cy ad Xr) A s S_28 H locs → lv_has ls 7 [(0, .ref (ad 15)), (1, .ref (ad 1)), (2, .int y2), (3, .ref (ad (7 + 2 * y3))), (4, .int y4), (5, .int y5)] → y3 < 4 → W p l e ({ frames := fr + 40, cells := 0, slots := 0, locals := lo + 2000 } : Room) s m [.ref (ad 15), .ref (ad 1), .int x2].toArray below meth c H locs 0 0 (MQ below (QG D (wC cy ad Xr) A (some (.int r.1)) r.2) [.ref (ad 15), .ref (ad 1), .int x2].toArray s 0 0 A) (F0 m 28 ls []) := by
    intro y2 y3 n
    induction n with
    | zero => intro _ _ _ _ _ _ hf; cases hf
    | succ n ih_28 =>
      intro y4 y5 S_28 H locs ls hf T hl ht_y3
      obtain ⟨z_28, hf, hin_28, hex_28⟩ := loop_inv hf
      unfold fX1_look_b28 at hf
      dsimp only at hf
      refine lv_iload hx hb dX1_look_28 (lv_at hl 5 rfl) ?_
      refine lv_aload_n hx hb dX1_look_30 rfl (lv_at hl 3 rfl) ?_
      refine va_getN (D := D) (ci := 2) (v := .int (S_28.1 (8 + y3))) (C := RX2) (T := TX2) (N := 2) hx hb hts hin_X2 hown hK.1 T.1 (pL y3) (wC_L cy ad Xr S_28 ht_y3) rfl 1 (by decide) (va_Nw.use rfl (hK.2 _ (List.mem_of_getElem? (i := 4) rfl))) (fun _ h9 => h9) rfl dX1_look_31 ?_
      refine lv_icmp_ge (tgt := 68) hx hb dX1_look_34 (by decide) (fun hc => ?_) (fun hc => ?_)
      · replace hf := ifp hc hf
        obtain ⟨r0, hf, hz⟩ := ex_inv hf
        rw [hex_28 r0 hz] at hf
        exact j_68 y2 y3 y4 S_28 _ _ _ hf T (lv_sub hl [0, 1, 2, 3, 4] rfl) ht_y3
      · replace hf := ifn hc hf
        refine lv_iload hx hb dX1_look_37 (lv_at hl 4 rfl) ?_
        refine lv_iconst (v := 1) hx hb dX1_look_39 (by decide) ?_
        refine lv_icmp_ge (tgt := 68) hx hb dX1_look_40 (by decide) (fun hc => ?_) (fun hc => ?_)
        · replace hf := ifp hc hf
          obtain ⟨r0, hf, hz⟩ := ex_inv hf
          rw [hex_28 r0 hz] at hf
          exact j_68 y2 y3 y4 S_28 _ _ _ hf T (lv_sub hl [0, 1, 2, 3, 4] rfl) ht_y3
        · replace hf := ifn hc hf
          refine lv_iload hx hb dX1_look_43 (lv_at hl 4 rfl) ?_
          refine lv_aload_n hx hb dX1_look_45 rfl (lv_at hl 0 rfl) ?_
          refine lv_aload_n hx hb dX1_look_46 rfl (lv_at hl 1 rfl) ?_
          refine lv_aload_n hx hb dX1_look_47 rfl (lv_at hl 3 rfl) ?_
          refine lv_iload hx hb dX1_look_48 (lv_at hl 5 rfl) ?_
          obtain ⟨v8, h7, hf⟩ := bnd_inv hf
          refine cg_V (q0 := (pL y3)) (ci := 2) (As := [.int y5]) (rest := [.ref (ad 1), .ref (ad 15), .int y4]) X T (kX2_at l D cy ad Xr S_28 y3 y5 v8 h7 ht_y3) (cwV 1 hts gX1_look_X2_at rfl rfl rfl (by decide +kernel) ⟨by dsimp only; omega, by dsimp only; omega⟩) (wC_L cy ad Xr S_28 ht_y3) rfl rfl hl.1 rfl (Nat.le_of_ble_eq_true rfl) dX1_look_50 ⟨Nat.zero_le _, Nat.zero_le _⟩ (st2 := [.int v8, .ref (ad 1), .ref (ad 15), .int y4]) (pc2 := 53) rfl rfl (fun H locs T => ?_)
          refine lv_iconst (v := 1) hx hb dX1_look_53 (by decide) ?_
          obtain ⟨v10, h9, hf⟩ := bnd_inv hf
          refine cg_V (q0 := 6) (ci := 1) (As := [.ref (ad 1), .int v8, .int 1]) (rest := [.int y4]) X T (kX1_worthOf l D cy ad Xr lk fr lo hLK S_28 v8 1 v10 h9) (cwV 3 hts gX1_look_X1_worthOf rfl rfl rfl (by decide +kernel) ⟨by dsimp only; omega, by dsimp only; omega⟩) rfl rfl rfl hl.1 rfl (Nat.le_of_ble_eq_true rfl) dX1_look_54 ⟨Nat.zero_le _, Nat.zero_le _⟩ (st2 := [.int v10.1, .int y4]) (pc2 := 57) rfl rfl (fun H locs T => ?_)
          refine va_mmax hx hb (hml.trans hl.1.symm) hown (hts _ (List.mem_of_getElem? (i := 1) rfl)) (hts _ (List.mem_of_getElem? (i := 2) rfl)) (hts _ (List.mem_of_getElem? (i := 3) rfl)) (hts _ (List.mem_of_getElem? (i := 4) rfl)) (by dsimp only; omega) (Nat.le_trans (Nat.le_of_ble_eq_true rfl : (List.map (fun v => v.category) ([] : List Value)).sum + 13 ≤ 1000) (by dsimp only; omega)) (Nat.zero_le _) (Nat.zero_le _) dX1_look_57 ?_
          refine lv_topi (fun v11 e_v11 => ?_)
          replace hf := nm_use hf e_v11
          refine lv_istore (lv' := [(4, .int v11), (0, .ref (ad 15)), (1, .ref (ad 1)), (2, .int y2), (3, .ref (ad (7 + 2 * y3))), (5, .int y5)]) hx hb dX1_look_60 hl (by decide) rfl (fun ls hl => ?_)
          obtain ⟨v12, e_v12, hf⟩ := nm_inv hf
          refine lv_iinc (v := v12) (lv' := [(5, .int v12), (4, .int v11), (0, .ref (ad 15)), (1, .ref (ad 1)), (2, .int y2), (3, .ref (ad (7 + 2 * y3)))]) hx hb dX1_look_62 hl (k := 5) rfl (by rw [e_v12]; rfl) (by decide) rfl (fun ls hl => ?_)
          refine lv_goto (tgt := 28) hx hb dX1_look_65 (by decide) ?_
          exact ih_28 v11 v12 v10.2 _ _ _ (hin_28 _ (Option.some.inj hf).symm) T (lv_sub hl [2, 3, 4, 5, 1, 0] rfl) ht_y3
  refine lv_iload_n hx hb dX1_look_0 rfl (lv_at hl 2 rfl) ?_
  refine lv_if_le (tgt := 9) hx hb dX1_look_1 (by decide) (fun hc => ?_) (fun hc => ?_)
  · replace hf := ifp hc hf
    refine lv_iconst (v := 0) hx hb dX1_look_9 (by decide) ?_
    exact rf_iw hf X T hr dX1_look_10
  · replace hf := ifn hc hf
    refine lv_iload_n hx hb dX1_look_4 rfl (lv_at hl 2 rfl) ?_
    refine lv_iconst (v := 3) hx hb dX1_look_5 (by decide) ?_
    refine lv_icmp_le (tgt := 11) hx hb dX1_look_6 (by decide) (fun hc => ?_) (fun hc => ?_)
    · replace hf := ifp hc hf
      refine lv_aload_n hx hb dX1_look_11 rfl (lv_at hl 0 rfl) ?_
      refine lv_iload_n hx hb dX1_look_12 rfl (lv_at hl 2 rfl) ?_
      obtain ⟨v14, h13, hf⟩ := bnd_inv hf
      refine cg_V (q0 := 6) (ci := 1) (As := [.int x2]) (rest := []) X T (kX1_listFor l D cy ad Xr S x2 v14 h13) (cwV 1 hts gX1_look_X1_listFor rfl rfl rfl (by decide +kernel) ⟨by dsimp only; omega, by dsimp only; omega⟩) rfl rfl rfl hl.1 rfl (Nat.le_of_ble_eq_true rfl) dX1_look_13 ⟨Nat.zero_le _, Nat.zero_le _⟩ (st2 := [.ref (ad (7 + 2 * v14))]) (pc2 := 16) rfl rfl (fun H locs T => ?_)
      obtain ⟨ht_v14, hf⟩ := cp_inv hf
      refine lv_astore_n (lv' := [(3, .ref (ad (7 + 2 * v14))), (0, .ref (ad 15)), (1, .ref (ad 1)), (2, .int x2)]) hx hb dX1_look_16 rfl hl (by decide) rfl (fun ls hl => ?_)
      refine lv_aload_n hx hb dX1_look_17 rfl (lv_at hl 2 rfl) ?_
      refine lv_aload_n hx hb dX1_look_18 rfl (lv_at hl 0 rfl) ?_
      obtain ⟨S16, h15, hf⟩ := bnd_inv hf
      refine cg_V (q0 := 14) (ci := 0) (As := [.ref (ad (7 + 2 * v14))]) (rest := []) X T (kX0_listTurns l D cy ad Xr S v14 S16 h15 ht_v14) (cwV 1 hts gX1_look_X0_listTurns rfl rfl rfl (by decide +kernel) ⟨by dsimp only; omega, by dsimp only; omega⟩) rfl rfl rfl hl.1 rfl (Nat.le_of_ble_eq_true rfl) dX1_look_19 ⟨Nat.zero_le _, Nat.zero_le _⟩ (st2 := []) (pc2 := 22) rfl rfl (fun H locs T => ?_)
      refine lv_iconst (v := (-1)) hx hb dX1_look_22 (by decide) ?_
      refine lv_istore (lv' := [(4, .int (-1)), (3, .ref (ad (7 + 2 * v14))), (0, .ref (ad 15)), (1, .ref (ad 1)), (2, .int x2)]) hx hb dX1_look_23 hl (by decide) rfl (fun ls hl => ?_)
      refine lv_iconst (v := 0) hx hb dX1_look_25 (by decide) ?_
      refine lv_istore (lv' := [(5, .int 0), (4, .int (-1)), (3, .ref (ad (7 + 2 * v14))), (0, .ref (ad 15)), (1, .ref (ad 1)), (2, .int x2)]) hx hb dX1_look_26 hl (by decide) rfl (fun ls hl => ?_)
      exact l_28 x2 v14 FUEL (-1) 0 S16 _ _ _ hf T (lv_sub hl [3, 4, 5, 2, 1, 0] rfl) ht_v14
    · replace hf := ifn hc hf
      refine lv_iconst (v := 0) hx hb dX1_look_9 (by decide) ?_
      exact rf_iw hf X T hr dX1_look_10

/-- looking ahead, some levels deep -/
noncomputable def fX1_lookN : Nat → SC → Int32 → Option (Int32 × SC)
  | 0 => fun _ _ => none
  | n + 1 => fX1_look (fX1_lookN n)
theorem kX1_lookN (l : Launch) (D : va_G) (cy : Nat → ClassId) (ad : Nat → Nat) (Xr : va_W) (n : Nat) : ∀ (S : SC) (x : Int32) (r : Int32 × SC), fX1_lookN n S x = some r → CG l D cy (wC cy ad Xr) yX1_look wsX1_look ({ frames := 40 * n, cells := 0, slots := 0, locals := 2000 * n } : Room) [.ref (ad 15), .ref (ad 1), .int x] S (some (.int r.1)) r.2 := by
  induction n with
  | zero => intro S x r hf; cases hf
  | succ n ih => exact fun S x r hf => kX1_look l D cy ad Xr (fX1_lookN n) (40 * n) (2000 * n) ih S x r hf
