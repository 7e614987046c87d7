noncomputable def fX0_listBuildings_j130 (y1 : Nat) (y2 : Int32) (y3 : Int32) (y4 : Int32) (y6 : Int32) (y7 : Int32) (S_130 : SC) : Option ((Int32 × SC) ⊕ SC) :=
  nm (y7 + 1 : Int32) fun v1 =>
  some (.inl (v1, S_130))
noncomputable def fX0_listBuildings_b80 (y1 : Nat) (y2 : Int32) (y3 : Int32) (y4 : Int32) (y6 : Int32) : (Int32 × SC) → Option ((Int32 × SC) ⊕ SC) :=
  fun st => match st with
    | (y7, S_80) =>
      if (8 : Int32) ≤ y7 then
        ex <|
        some S_80
      else
        bnd (fX0_neighbourOf S_80 y4 y7) fun v3 =>
        bnd (fX0_isOpenBehind S_80 y3 y6 v3) fun v5 =>
        if v5 = 0 then
          fX0_listBuildings_j130 y1 y2 y3 y4 y6 y7 S_80
        else
          bnd (fX0_storeysOf S_80 v3) fun v7 =>
          if (3 : Int32) ≤ v7 then
            fX0_listBuildings_j130 y1 y2 y3 y4 y6 y7 S_80
          else
            bnd (fX2_add S_80 y1 ((y2 + 50) + v3)) fun S9 =>
            fX0_listBuildings_j130 y1 y2 y3 y4 y6 y7 S9
noncomputable def fX0_listBuildings_j59 (y1 : Nat) (y2 : Int32) (y3 : Int32) (y4 : Int32) (y5 : Int32) (y6 : Int32) (y7 : Int32) (S_59 : SC) : Option ((Int32 × SC) ⊕ SC) :=
  nm (y7 + 1 : Int32) fun v10 =>
  some (.inl (v10, S_59))
noncomputable def fX0_listBuildings_b22 (y1 : Nat) (y2 : Int32) (y3 : Int32) (y4 : Int32) (y5 : Int32) (y6 : Int32) : (Int32 × SC) → Option ((Int32 × SC) ⊕ SC) :=
  fun st => match st with
    | (y7, S_22) =>
      if (8 : Int32) ≤ y7 then
        ex <|
        bnd (fX0_powerOf S_22 y5) fun v12 =>
        if v12 = 6 then
          loop (fX0_listBuildings_b80 y1 y2 y3 y4 y6) FUEL (0, S_22)
        else
          some S_22
      else
        bnd (fX0_neighbourOf S_22 y4 y7) fun v14 =>
        bnd (fX0_isOpenBehind S_22 y3 y6 v14) fun v16 =>
        if v16 = 0 then
          fX0_listBuildings_j59 y1 y2 y3 y4 y5 y6 y7 S_22
        else
          bnd (fX2_add S_22 y1 (y2 + v14)) fun S18 =>
          fX0_listBuildings_j59 y1 y2 y3 y4 y5 y6 y7 S18
noncomputable def fX0_listBuildings (S : SC) (t : Nat) (x2 : Int32) (x3 : Int32) (x4 : Int32) : Option SC :=
  nm ((S.1 5) - (S.1 5) / 2 * 2 : Int32) fun v19 =>
  bnd (fX0_asideOf S v19 x3 x4) fun v21 =>
  loop (fX0_listBuildings_b22 t x2 x3 x4 v19 v21) FUEL (0, S)
set_option maxHeartbeats 4000000 in
set_option maxRecDepth 100000 in
theorem kX0_listBuildings (l : Launch) (D : va_G) (cy : Nat → ClassId) (ad : Nat → Nat) (Xr : va_W) (S : SC) (t : Nat) (x2 : Int32) (x3 : Int32) (x4 : Int32) (r : SC) (hf : fX0_listBuildings S t x2 x3 x4 = some r) (ht_t : t < 4) : CG l D cy (wC cy ad Xr) yX0_listBuildings wsX0_listBuildings ({ frames := 2, cells := 0, slots := 0, locals := 44 } : Room) [.ref (ad 1), .ref (ad (7 + 2 * t)), .int x2, .int x3, .int x4] S none r := by
  refine CG.of (cc := cX0_listBuildings) (maxL := 9) (ret := none) (by decide +kernel) rfl (Nat.le_of_ble_eq_true rfl) ?_
  intro p e s m below meth c A ls X hr T hl
  obtain ⟨hx, hb, hml, hown, hts, hlk, hK, hA, hwA⟩ := id X
  have hl : lv_has ls 9 [(0, .ref (ad 1)), (1, .ref (ad (7 + 2 * t))), (2, .int x2), (3, .int x3), (4, .int x4)] := hl
  have hin_X0 : ∀ w ∈ u_ws RX0 TX0 13, w ∈ wsX0_listBuildings := fun w h => (List.mem_cons_of_mem _ (List.mem_append_left _ (List.mem_append_right _ h)))
  unfold fX0_listBuildings at hf
  have l_80 : ∀ (y1 : Nat) (y2 : Int32) (y3 : Int32) (y4 : Int32) (y6 : Int32) (n : Nat) (y7 : Int32) (S_80 : SC) (H : Heap) (locs : List Loc) (ls : Array Slot), loop (fX0_listBuildings_b80 y1 y2 y3 y4 y6) n (y7, S_80) = some r → ST D (wC cy ad Xr) A s S_80 H locs → lv_has ls 9 [(0, .ref (ad 1)), (1, .ref (ad (7 + 2 * y1))), (2, .int y2), (3, .int y3), (4, .int y4), (6, .int y6), (7, .int y7)] → y1 < 4 → W p l e ({ frames := 2, cells := 0, slots := 0, locals := 44 } : Room) s m [.ref (ad 1), .ref (ad (7 + 2 * t)), .int x2, .int x3, .int x4].toArray below meth c H locs 0 0 (MQ below (QG D (wC cy ad Xr) A none r) [.ref (ad 1), .ref (ad (7 + 2 * t)), .int x2, .int x3, .int x4].toArray s 0 0 A) (F0 m 80 ls []) := by
    intro y1 y2 y3 y4 y6 n
    induction n with
    | zero => intro _ _ _ _ _ hf; cases hf
    | succ n ih_80 =>
      intro y7 S_80 H locs ls hf T hl ht_y1
      obtain ⟨z_80, hf, hin_80, hex_80⟩ := loop_inv hf
      unfold fX0_listBuildings_b80 at hf
      dsimp only at hf
      have j_130 : ∀ (y7 : Int32) (S_130 : SC) (H : Heap) (locs : List Loc) (ls : Array Slot), fX0_listBuildings_j130 y1 y2 y3 y4 y6 y7 S_130 = some z_80 → ST D (wC cy ad Xr) A s S_130 H locs → lv_has ls 9 [(0, .ref (ad 1)), (1, .ref (ad (7 + 2 * y1))), (2, .int y2), (3, .int y3), (4, .int y4), (6, .int y6), (7, .int y7)] → W p l e ({ frames := 2, cells := 0, slots := 0, locals := 44 } : Room) s m [.ref (ad 1), .ref (ad (7 + 2 * t)), .int x2, .int x3, .int x4].toArray below meth c H locs 0 0 (MQ below (QG D (wC cy ad Xr) A none r) [.ref (ad 1), .ref (ad (7 + 2 * t)), .int x2, .int x3, .int x4].toArray s 0 0 A) (F0 m 130 ls []) := by
        intro y7 S_130 H locs ls hf T hl
        unfold fX0_listBuildings_j130 at hf
        obtain ⟨v1, e_v1, hf⟩ := nm_inv hf
        refine lv_iinc (v := v1) (lv' := [(7, .int v1), (0, .ref (ad 1)), (1, .ref (ad (7 + 2 * y1))), (2, .int y2), (3, .int y3), (4, .int y4), (6, .int y6)]) hx hb dX0_listBuildings_130 hl (k := 6) rfl (by rw [e_v1]; rfl) (by decide) rfl (fun ls hl => ?_)
        refine lv_goto (tgt := 80) hx hb dX0_listBuildings_133 (by decide) ?_
        exact ih_80 v1 S_130 _ _ _ (hin_80 _ (Option.some.inj hf).symm) T (lv_sub hl [1, 2, 3, 4, 5, 6, 0] rfl) ht_y1
      refine lv_iload hx hb dX0_listBuildings_80 (lv_at hl 6 rfl) ?_
      refine lv_bipush (v := 8) hx hb dX0_listBuildings_82 (by decide) ?_
      refine lv_icmp_ge (tgt := 136) hx hb dX0_listBuildings_84 (by decide) (fun hc => ?_) (fun hc => ?_)
      · replace hf := ifp hc hf
        obtain ⟨r0, hf, hz⟩ := ex_inv hf
        rw [hex_80 r0 hz] at hf
        exact rf_vw hf X T hr dX0_listBuildings_136
      · replace hf := ifn hc hf
        refine lv_aload_n hx hb dX0_listBuildings_87 rfl (lv_at hl 0 rfl) ?_
        refine lv_iload hx hb dX0_listBuildings_88 (lv_at hl 4 rfl) ?_
        refine lv_iload hx hb dX0_listBuildings_90 (lv_at hl 6 rfl) ?_
        obtain ⟨v3, h2, hf⟩ := bnd_inv hf
        refine cg_V (q0 := 14) (ci := 0) (As := [.int y4, .int y7]) (rest := []) X T (kX0_neighbourOf l D cy ad Xr S_80 y4 y7 v3 h2) (cwV 2 hts gX0_listBuildings_X0_neighbourOf rfl rfl rfl (by decide +kernel) ⟨Nat.le_of_ble_eq_true rfl, Nat.le_of_ble_eq_true rfl⟩) rfl rfl rfl hl.1 rfl (Nat.le_of_ble_eq_true rfl) dX0_listBuildings_92 ⟨Nat.zero_le _, Nat.zero_le _⟩ (st2 := [.int v3]) (pc2 := 95) rfl rfl (fun H locs T => ?_)
        refine lv_istore (lv' := [(8, .int v3), (0, .ref (ad 1)), (1, .ref (ad (7 + 2 * y1))), (2, .int y2), (3, .int y3), (4, .int y4), (6, .int y6), (7, .int y7)]) hx hb dX0_listBuildings_95 hl (by decide) rfl (fun ls hl => ?_)
        refine lv_aload_n hx hb dX0_listBuildings_97 rfl (lv_at hl 1 rfl) ?_
        refine lv_iload_n hx hb dX0_listBuildings_98 rfl (lv_at hl 4 rfl) ?_
        refine lv_iload hx hb dX0_listBuildings_99 (lv_at hl 6 rfl) ?_
        refine lv_iload hx hb dX0_listBuildings_101 (lv_at hl 0 rfl) ?_
        obtain ⟨v5, h4, hf⟩ := bnd_inv hf
        refine cg_V (q0 := 14) (ci := 0) (As := [.int y3, .int y6, .int v3]) (rest := []) X T (kX0_isOpenBehind l D cy ad Xr S_80 y3 y6 v3 v5 h4) (cwV 3 hts gX0_listBuildings_X0_isOpenBehind rfl rfl rfl (by decide +kernel) ⟨Nat.le_of_ble_eq_true rfl, Nat.le_of_ble_eq_true rfl⟩) rfl rfl rfl hl.1 rfl (Nat.le_of_ble_eq_true rfl) dX0_listBuildings_103 ⟨Nat.zero_le _, Nat.zero_le _⟩ (st2 := [.int v5]) (pc2 := 106) rfl rfl (fun H locs T => ?_)
        refine lv_if_eq (tgt := 130) hx hb dX0_listBuildings_106 (by decide) (fun hc => ?_) (fun hc => ?_)
        · replace hf := ifp hc hf
          exact j_130 y7 S_80 _ _ _ hf T (lv_sub hl [1, 2, 3, 4, 5, 6, 7] rfl)
        · replace hf := ifn hc hf
          refine lv_aload_n hx hb dX0_listBuildings_109 rfl (lv_at hl 1 rfl) ?_
          refine lv_iload hx hb dX0_listBuildings_110 (lv_at hl 0 rfl) ?_
          obtain ⟨v7, h6, hf⟩ := bnd_inv hf
          refine cg_V (q0 := 14) (ci := 0) (As := [.int v3]) (rest := []) X T (kX0_storeysOf l D cy ad Xr S_80 v3 v7 h6) (cwV 1 hts gX0_listBuildings_X0_storeysOf rfl rfl rfl (by decide +kernel) ⟨Nat.le_of_ble_eq_true rfl, Nat.le_of_ble_eq_true rfl⟩) rfl rfl rfl hl.1 rfl (Nat.le_of_ble_eq_true rfl) dX0_listBuildings_112 ⟨Nat.zero_le _, Nat.zero_le _⟩ (st2 := [.int v7]) (pc2 := 115) rfl rfl (fun H locs T => ?_)
          refine lv_iconst (v := 3) hx hb dX0_listBuildings_115 (by decide) ?_
          refine lv_icmp_ge (tgt := 130) hx hb dX0_listBuildings_116 (by decide) (fun hc => ?_) (fun hc => ?_)
          · replace hf := ifp hc hf
            exact j_130 y7 S_80 _ _ _ hf T (lv_sub hl [1, 2, 3, 4, 5, 6, 7] rfl)
          · replace hf := ifn hc hf
            refine lv_aload_n hx hb dX0_listBuildings_119 rfl (lv_at hl 2 rfl) ?_
            refine lv_iload_n hx hb dX0_listBuildings_120 rfl (lv_at hl 3 rfl) ?_
            refine lv_bipush (v := 50) hx hb dX0_listBuildings_121 (by decide) ?_
            refine lv_iadd hx hb dX0_listBuildings_123 ?_
            refine lv_iload hx hb dX0_listBuildings_124 (lv_at hl 0 rfl) ?_
            refine lv_iadd hx hb dX0_listBuildings_126 ?_
            obtain ⟨S9, h8, hf⟩ := bnd_inv hf
            refine cg_V (q0 := (pL y1)) (ci := 2) (As := [.int ((y2 + 50) + v3)]) (rest := []) X T (kX2_add l D cy ad Xr S_80 y1 ((y2 + 50) + v3) S9 h8 ht_y1) (cwV 1 hts gX0_listBuildings_X2_add rfl rfl rfl (by decide +kernel) ⟨Nat.le_of_ble_eq_true rfl, Nat.le_of_ble_eq_true rfl⟩) (wC_L cy ad Xr S_80 ht_y1) rfl rfl hl.1 rfl (Nat.le_of_ble_eq_true rfl) dX0_listBuildings_127 ⟨Nat.zero_le _, Nat.zero_le _⟩ (st2 := []) (pc2 := 130) rfl rfl (fun H locs T => ?_)
            exact j_130 y7 S9 _ _ _ hf T (lv_sub hl [1, 2, 3, 4, 5, 6, 7] rfl)
  have l_22 : ∀ (y1 : Nat) (y2 : Int32) (y3 : Int32) (y4 : Int32) (y5 : Int32) (y6 : Int32) (n : Nat) (y7 : Int32) (S_22 : SC) (H : Heap) (locs : List Loc) (ls : Array Slot), loop (fX0_listBuildings_b22 y1 y2 y3 y4 y5 y6) n (y7, S_22) = some r → ST D (wC cy ad Xr) A s S_22 H locs → lv_has ls 9 [(0, .ref (ad 1)), (1, .ref (ad (7 + 2 * y1))), (2, .int y2), (3, .int y3), (4, .int y4), (5, .int y5), (6, .int y6), (7, .int y7)] → y1 < 4 → W p l e ({ frames := 2, cells := 0, slots := 0, locals := 44 } : Room) s m [.ref (ad 1), .ref (ad (7 + 2 * t)), .int x2, .int x3, .int x4].toArray below meth c H locs 0 0 (MQ below (QG D (wC cy ad Xr) A none r) [.ref (ad 1), .ref (ad (7 + 2 * t)), .int x2, .int x3, .int x4].toArray s 0 0 A) (F0 m 22 ls []) := by
    intro y1 y2 y3 y4 y5 y6 n
    induction n with
    | zero => intro _ _ _ _ _ hf; cases hf
    | succ n ih_22 =>
      intro y7 S_22 H locs ls hf T hl ht_y1
      obtain ⟨z_22, hf, hin_22, hex_22⟩ := loop_inv hf
      unfold fX0_listBuildings_b22 at hf
      dsimp only at hf
      have j_59 : ∀ (y7 : Int32) (S_59 : SC) (H : Heap) (locs : List Loc) (ls : Array Slot), fX0_listBuildings_j59 y1 y2 y3 y4 y5 y6 y7 S_59 = some z_22 → ST D (wC cy ad Xr) A s S_59 H locs → lv_has ls 9 [(0, .ref (ad 1)), (1, .ref (ad (7 + 2 * y1))), (2, .int y2), (3, .int y3), (4, .int y4), (5, .int y5), (6, .int y6), (7, .int y7)] → W p l e ({ frames := 2, cells := 0, slots := 0, locals := 44 } : Room) s m [.ref (ad 1), .ref (ad (7 + 2 * t)), .int x2, .int x3, .int x4].toArray below meth c H locs 0 0 (MQ below (QG D (wC cy ad Xr) A none r) [.ref (ad 1), .ref (ad (7 + 2 * t)), .int x2, .int x3, .int x4].toArray s 0 0 A) (F0 m 59 ls []) := by
        intro y7 S_59 H locs ls hf T hl
        unfold fX0_listBuildings_j59 at hf
        obtain ⟨v10, e_v10, hf⟩ := nm_inv hf
        refine lv_iinc (v := v10) (lv' := [(7, .int v10), (0, .ref (ad 1)), (1, .ref (ad (7 + 2 * y1))), (2, .int y2), (3, .int y3), (4, .int y4), (5, .int y5), (6, .int y6)]) hx hb dX0_listBuildings_59 hl (k := 7) rfl (by rw [e_v10]; rfl) (by decide) rfl (fun ls hl => ?_)
        refine lv_goto (tgt := 22) hx hb dX0_listBuildings_62 (by decide) ?_
        exact ih_22 v10 S_59 _ _ _ (hin_22 _ (Option.some.inj hf).symm) T (lv_sub hl [1, 2, 3, 4, 5, 6, 7, 0] rfl) ht_y1
      refine lv_iload hx hb dX0_listBuildings_22 (lv_at hl 7 rfl) ?_
      refine lv_bipush (v := 8) hx hb dX0_listBuildings_24 (by decide) ?_
      refine lv_icmp_ge (tgt := 65) hx hb dX0_listBuildings_26 (by decide) (fun hc => ?_) (fun hc => ?_)
      · replace hf := ifp hc hf
        obtain ⟨r0, hf, hz⟩ := ex_inv hf
        rw [hex_22 r0 hz] at hf
        refine lv_aload_n hx hb dX0_listBuildings_65 rfl (lv_at hl 0 rfl) ?_
        refine lv_iload hx hb dX0_listBuildings_66 (lv_at hl 5 rfl) ?_
        obtain ⟨v12, h11, hf⟩ := bnd_inv hf
        refine cg_V (q0 := 14) (ci := 0) (As := [.int y5]) (rest := []) X T (kX0_powerOf l D cy ad Xr S_22 y5 v12 h11) (cwV 1 hts gX0_listBuildings_X0_powerOf rfl rfl rfl (by decide +kernel) ⟨Nat.le_of_ble_eq_true rfl, Nat.le_of_ble_eq_true rfl⟩) rfl rfl rfl hl.1 rfl (Nat.le_of_ble_eq_true rfl) dX0_listBuildings_68 ⟨Nat.zero_le _, Nat.zero_le _⟩ (st2 := [.int v12]) (pc2 := 71) rfl rfl (fun H locs T => ?_)
        refine lv_bipush (v := 6) hx hb dX0_listBuildings_71 (by decide) ?_
        refine lv_icmp_eq (tgt := 77) hx hb dX0_listBuildings_73 (by decide) (fun hc => ?_) (fun hc => ?_)
        · replace hf := ifp hc hf
          refine lv_iconst (v := 0) hx hb dX0_listBuildings_77 (by decide) ?_
          refine lv_istore (lv' := [(7, .int 0), (0, .ref (ad 1)), (1, .ref (ad (7 + 2 * y1))), (2, .int y2), (3, .int y3), (4, .int y4), (5, .int y5), (6, .int y6)]) hx hb dX0_listBuildings_78 hl (by decide) rfl (fun ls hl => ?_)
          exact l_80 y1 y2 y3 y4 y6 FUEL 0 S_22 _ _ _ hf T (lv_sub hl [1, 2, 3, 4, 5, 7, 0] rfl) ht_y1
        · replace hf := ifn hc hf
          exact rf_vw hf X T hr dX0_listBuildings_76
      · replace hf := ifn hc hf
        refine lv_aload_n hx hb dX0_listBuildings_29 rfl (lv_at hl 0 rfl) ?_
        refine lv_iload hx hb dX0_listBuildings_30 (lv_at hl 4 rfl) ?_
        refine lv_iload hx hb dX0_listBuildings_32 (lv_at hl 7 rfl) ?_
        obtain ⟨v14, h13, hf⟩ := bnd_inv hf
        refine cg_V (q0 := 14) (ci := 0) (As := [.int y4, .int y7]) (rest := []) X T (kX0_neighbourOf l D cy ad Xr S_22 y4 y7 v14 h13) (cwV 2 hts gX0_listBuildings_X0_neighbourOf rfl rfl rfl (by decide +kernel) ⟨Nat.le_of_ble_eq_true rfl, Nat.le_of_ble_eq_true rfl⟩) rfl rfl rfl hl.1 rfl (Nat.le_of_ble_eq_true rfl) dX0_listBuildings_34 ⟨Nat.zero_le _, Nat.zero_le _⟩ (st2 := [.int v14]) (pc2 := 37) rfl rfl (fun H locs T => ?_)
        refine lv_istore (lv' := [(8, .int v14), (0, .ref (ad 1)), (1, .ref (ad (7 + 2 * y1))), (2, .int y2), (3, .int y3), (4, .int y4), (5, .int y5), (6, .int y6), (7, .int y7)]) hx hb dX0_listBuildings_37 hl (by decide) rfl (fun ls hl => ?_)
        refine lv_aload_n hx hb dX0_listBuildings_39 rfl (lv_at hl 1 rfl) ?_
        refine lv_iload_n hx hb dX0_listBuildings_40 rfl (lv_at hl 4 rfl) ?_
        refine lv_iload hx hb dX0_listBuildings_41 (lv_at hl 7 rfl) ?_
        refine lv_iload hx hb dX0_listBuildings_43 (lv_at hl 0 rfl) ?_
        obtain ⟨v16, h15, hf⟩ := bnd_inv hf
        refine cg_V (q0 := 14) (ci := 0) (As := [.int y3, .int y6, .int v14]) (rest := []) X T (kX0_isOpenBehind l D cy ad Xr S_22 y3 y6 v14 v16 h15) (cwV 3 hts gX0_listBuildings_X0_isOpenBehind rfl rfl rfl (by decide +kernel) ⟨Nat.le_of_ble_eq_true rfl, Nat.le_of_ble_eq_true rfl⟩) rfl rfl rfl hl.1 rfl (Nat.le_of_ble_eq_true rfl) dX0_listBuildings_45 ⟨Nat.zero_le _, Nat.zero_le _⟩ (st2 := [.int v16]) (pc2 := 48) rfl rfl (fun H locs T => ?_)
        refine lv_if_eq (tgt := 59) hx hb dX0_listBuildings_48 (by decide) (fun hc => ?_) (fun hc => ?_)
        · replace hf := ifp hc hf
          exact j_59 y7 S_22 _ _ _ hf T (lv_sub hl [1, 2, 3, 4, 5, 6, 7, 8] rfl)
        · replace hf := ifn hc hf
          refine lv_aload_n hx hb dX0_listBuildings_51 rfl (lv_at hl 2 rfl) ?_
          refine lv_iload_n hx hb dX0_listBuildings_52 rfl (lv_at hl 3 rfl) ?_
          refine lv_iload hx hb dX0_listBuildings_53 (lv_at hl 0 rfl) ?_
          refine lv_iadd hx hb dX0_listBuildings_55 ?_
          obtain ⟨S18, h17, hf⟩ := bnd_inv hf
          refine cg_V (q0 := (pL y1)) (ci := 2) (As := [.int (y2 + v14)]) (rest := []) X T (kX2_add l D cy ad Xr S_22 y1 (y2 + v14) S18 h17 ht_y1) (cwV 1 hts gX0_listBuildings_X2_add rfl rfl rfl (by decide +kernel) ⟨Nat.le_of_ble_eq_true rfl, Nat.le_of_ble_eq_true rfl⟩) (wC_L cy ad Xr S_22 ht_y1) rfl rfl hl.1 rfl (Nat.le_of_ble_eq_true rfl) dX0_listBuildings_56 ⟨Nat.zero_le _, Nat.zero_le _⟩ (st2 := []) (pc2 := 59) rfl rfl (fun H locs T => ?_)
          exact j_59 y7 S18 _ _ _ hf T (lv_sub hl [1, 2, 3, 4, 5, 6, 7, 8] rfl)
  refine lv_aload_n hx hb dX0_listBuildings_0 rfl (lv_at hl 0 rfl) ?_
  refine va_get (D := D) (ci := 0) (v := .int (S.1 5)) (C := RX0) (T := TX0) (N := 13) hx hb hts hin_X0 hown hK.1 T.1 14 rfl rfl 10 (by decide) (hts _ (List.mem_of_getElem? (i := 1) rfl)) (fun _ h9 => h9) rfl dX0_listBuildings_1 ?_
  refine lv_iconst (v := 2) hx hb dX0_listBuildings_4 (by decide) ?_
  refine lv_irem hx hb dX0_listBuildings_5 (by decide) ?_
  refine lv_topi (fun v19 e_v19 => ?_)
  replace hf := nm_use hf e_v19
  refine lv_istore (lv' := [(5, .int v19), (0, .ref (ad 1)), (1, .ref (ad (7 + 2 * t))), (2, .int x2), (3, .int x3), (4, .int x4)]) hx hb dX0_listBuildings_6 hl (by decide) rfl (fun ls hl => ?_)
  refine lv_aload_n hx hb dX0_listBuildings_8 rfl (lv_at hl 1 rfl) ?_
  refine lv_iload hx hb dX0_listBuildings_9 (lv_at hl 0 rfl) ?_
  refine lv_iload_n hx hb dX0_listBuildings_11 rfl (lv_at hl 4 rfl) ?_
  refine lv_iload hx hb dX0_listBuildings_12 (lv_at hl 5 rfl) ?_
  obtain ⟨v21, h20, hf⟩ := bnd_inv hf
  refine cg_V (q0 := 14) (ci := 0) (As := [.int v19, .int x3, .int x4]) (rest := []) X T (kX0_asideOf l D cy ad Xr S v19 x3 x4 v21 h20) (cwV 3 hts gX0_listBuildings_X0_asideOf rfl rfl rfl (by decide +kernel) ⟨Nat.le_of_ble_eq_true rfl, Nat.le_of_ble_eq_true rfl⟩) rfl rfl rfl hl.1 rfl (Nat.le_of_ble_eq_true rfl) dX0_listBuildings_14 ⟨Nat.zero_le _, Nat.zero_le _⟩ (st2 := [.int v21]) (pc2 := 17) rfl rfl (fun H locs T => ?_)
  refine lv_istore (lv' := [(6, .int v21), (5, .int v19), (0, .ref (ad 1)), (1, .ref (ad (7 + 2 * t))), (2, .int x2), (3, .int x3), (4, .int x4)]) hx hb dX0_listBuildings_17 hl (by decide) rfl (fun ls hl => ?_)
  refine lv_iconst (v := 0) hx hb dX0_listBuildings_19 (by decide) ?_
  refine lv_istore (lv' := [(7, .int 0), (6, .int v21), (5, .int v19), (0, .ref (ad 1)), (1, .ref (ad (7 + 2 * t))), (2, .int x2), (3, .int x3), (4, .int x4)]) hx hb dX0_listBuildings_20 hl (by decide) rfl (fun ls hl => ?_)
  exact l_22 t x2 x3 x4 v19 v21 FUEL 0 S _ _ _ hf T (lv_sub hl [3, 4, 5, 6, 7, 2, 1, 0] rfl) ht_t

noncomputable def fX0_listTurns_j119 (y1 : Nat) (y2 : Int32) (y3 : Int32) (y4 : Int32) (y5 : Int64) (y7 : Int32) (S_119 : SC) : Option ((Int32 × SC) ⊕ ((Int32 × SC) ⊕ SC)) :=
  nm (y7 + 1 : Int32) fun v1 =>
  some (.inl (v1, S_119))
noncomputable def fX0_listTurns_j95 (y1 : Nat) (y2 : Int32) (y3 : Int32) (y4 : Int32) (y5 : Int64) (y7 : Int32) (y8 : Int32) (S_95 : SC) : Option ((Int32 × SC) ⊕ ((Int32 × SC) ⊕ SC)) :=
  if lg_cmp ((y5 >>> ((y7 + 32).toInt64 &&& 63)) &&& (1 : Int64)) (0 : Int64) = 0 then
    fX0_listTurns_j119 y1 y2 y3 y4 y5 y7 S_95
  else
    bnd (fX2_add S_95 y1 (y8 + 99)) fun S3 =>
    fX0_listTurns_j119 y1 y2 y3 y4 y5 y7 S3
noncomputable def fX0_listTurns_b50 (y1 : Nat) (y2 : Int32) (y3 : Int32) (y4 : Int32) (y5 : Int64) : (Int32 × SC) → Option ((Int32 × SC) ⊕ ((Int32 × SC) ⊕ SC)) :=
  fun st => match st with
    | (y7, S_50) =>
      if S_50.1 0 ≤ y7 then
        ex <|
        nm (y3 + 1 : Int32) fun v4 =>
        some (.inl (v4, S_50))
      else
        nm (((10000 : Int32) * y3) + ((100 : Int32) * y7) : Int32) fun v5 =>
        if lg_cmp ((y5 >>> (y7.toInt64 &&& 63)) &&& (1 : Int64)) (0 : Int64) = 0 then
          fX0_listTurns_j95 y1 y2 y3 y4 y5 y7 v5 S_50
        else
          bnd (fX0_listBuildings S_50 y1 v5 y4 y7) fun S7 =>
          fX0_listTurns_j95 y1 y2 y3 y4 y5 y7 v5 S7
noncomputable def fX0_listTurns_b22 (y1 : Nat) (y2 : Int32) : (Int32 × SC) → Option ((Int32 × SC) ⊕ SC) :=
  fun st => match st with
    | (y3, S_22) =>
      if S_22.1 1 ≤ y3 then
        ex <|
        some S_22
      else
        bnd (fX0_spotOf S_22 y2 y3) fun v9 =>
        bnd (fX0_reachOf S_22 y2 v9) fun v11 =>
        loop (fX0_listTurns_b50 y1 y2 y3 v9 v11) FUEL (0, S_22)
noncomputable def fX0_listTurns (S : SC) (t : Nat) : Option SC :=
  bnd (fX2_clear S t) fun S13 =>
  if S13.1 6 = (-1) then
    nm ((S13.1 5) - (S13.1 5) / 2 * 2 : Int32) fun v14 =>
    loop (fX0_listTurns_b22 t v14) FUEL (0, S13)
  else
    some S13
set_option maxHeartbeats 4000000 in
set_option maxRecDepth 100000 in
theorem kX0_listTurns (l : Launch) (D : va_G) (cy : Nat → ClassId) (ad : Nat → Nat) (Xr : va_W) (S : SC) (t : Nat) (r : SC) (hf : fX0_listTurns S t = some r) (ht_t : t < 4) : CG l D cy (wC cy ad Xr) yX0_listTurns wsX0_listTurns ({ frames := 4, cells := 0, slots := 0, locals := 102 } : Room) [.ref (ad 1), .ref (ad (7 + 2 * t))] S none r := by
  refine CG.of (cc := cX0_listTurns) (maxL := 9) (ret := none) (by decide +kernel) rfl (Nat.le_of_ble_eq_true rfl) ?_
  intro p e s m below meth c A ls X hr T hl
  obtain ⟨hx, hb, hml, hown, hts, hlk, hK, hA, hwA⟩ := id X
  have hl : lv_has ls 9 [(0, .ref (ad 1)), (1, .ref (ad (7 + 2 * t)))] := hl
  have hin_X0 : ∀ w ∈ u_ws RX0 TX0 13, w ∈ wsX0_listTurns := fun w h => (List.mem_cons_of_mem _ (List.mem_append_left _ (List.mem_append_right _ h)))
  unfold fX0_listTurns at hf
  have l_22 : ∀ (y1 : Nat) (y2 : Int32) (n : Nat) (y3 : Int32) (S_22 : SC) (H : Heap) (locs : List Loc) (ls : Array Slot), loop (fX0_listTurns_b22 y1 y2) n (y3, S_22) = some r → ST D (wC cy ad Xr) A s S_22 H locs → lv_has ls 9 [(0, .ref (ad 1)), (1, .ref (ad (7 + 2 * y1))), (2, .int y2), (3, .int y3)] → y1 < 4 → W p l e ({ frames := 4, cells := 0, slots := 0, locals := 102 } : Room) s m [.ref (ad 1), .ref (ad (7 + 2 * t))].toArray below meth c H locs 0 0 (MQ below (QG D (wC cy ad Xr) A none r) [.ref (ad 1), .ref (ad (7 + 2 * t))].toArray s 0 0 A) (F0 m 22 ls []) := by
    intro y1 y2 n
    induction n with
    | zero => intro _ _ _ _ _ hf; cases hf
    | succ n ih_22 =>
      intro y3 S_22 H locs ls hf T hl ht_y1
      obtain ⟨z_22, hf, hin_22, hex_22⟩ := loop_inv hf
      unfold fX0_listTurns_b22 at hf
      dsimp only at hf
      have l_50 : ∀ (y3 : Int32) (y4 : Int32) (y5 : Int64) (n : Nat) (y7 : Int32) (S_50 : SC) (H : Heap) (locs : List Loc) (ls : Array Slot), loop (fX0_listTurns_b50 y1 y2 y3 y4 y5) n (y7, S_50) = some z_22 → ST D (wC cy ad Xr) A s S_50 H locs → lv_has ls 9 [(0, .ref (ad 1)), (1, .ref (ad (7 + 2 * y1))), (2, .int y2), (3, .int y3), (4, .int y4), (5, .long y5), (7, .int y7)] → W p l e ({ frames := 4, cells := 0, slots := 0, locals := 102 } : Room) s m [.ref (ad 1), .ref (ad (7 + 2 * t))].toArray below meth c H locs 0 0 (MQ below (QG D (wC cy ad Xr) A none r) [.ref (ad 1), .ref (ad (7 + 2 * t))].toArray s 0 0 A) (F0 m 50 ls []) := by
        intro y3 y4 y5 n
        induction n with
        | zero => intro _ _ _ _ _ hf; cases hf
        | succ n ih_50 =>
          intro y7 S_50 H locs ls hf T hl
          obtain ⟨z_50, hf, hin_50, hex_50⟩ := loop_inv hf
          unfold fX0_listTurns_b50 at hf
          dsimp only at hf
          have j_119 : ∀ (y7 : Int32) (S_119 : SC) (H : Heap) (locs : List Loc) (ls : Array Slot), fX0_listTurns_j119 y1 y2 y3 y4 y5 y7 S_119 = some z_50 → ST D (wC cy ad Xr) A s S_119 H locs → lv_has ls 9 [(0, .ref (ad 1)), (1, .ref (ad (7 + 2 * y1))), (2, .int y2), (3, .int y3), (4, .int y4), (5, .long y5), (7, .int y7)] → W p l e ({ frames := 4, cells := 0, slots := 0, locals := 102 } : Room) s m [.ref (ad 1), .ref (ad (7 + 2 * t))].toArray below meth c H locs 0 0 (MQ below (QG D (wC cy ad Xr) A none r) [.ref (ad 1), .ref (ad (7 + 2 * t))].toArray s 0 0 A) (F0 m 119 ls []) := by
            intro y7 S_119 H locs ls hf T hl
            unfold fX0_listTurns_j119 at hf
            obtain ⟨v1, e_v1, hf⟩ := nm_inv hf
            refine lv_iinc (v := v1) (lv' := [(7, .int v1), (0, .ref (ad 1)), (1, .ref (ad (7 + 2 * y1))), (2, .int y2), (3, .int y3), (4, .int y4), (5, .long y5)]) hx hb dX0_listTurns_119 hl (k := 6) rfl (by rw [e_v1]; rfl) (by decide) rfl (fun ls hl => ?_)
            refine lv_goto (tgt := 50) hx hb dX0_listTurns_122 (by decide) ?_
            exact ih_50 v1 S_119 _ _ _ (hin_50 _ (Option.some.inj hf).symm) T (lv_sub hl [1, 2, 3, 4, 5, 6, 0] rfl)
          have j_95 : ∀ (y7 : Int32) (y8 : Int32) (S_95 : SC) (H : Heap) (locs : List Loc) (ls : Array Slot), fX0_listTurns_j95 y1 y2 y3 y4 y5 y7 y8 S_95 = some z_50 → ST D (wC cy ad Xr) A s S_95 H locs → lv_has ls 9 [(0, .ref (ad 1)), (1, .ref (ad (7 + 2 * y1))), (2, .int y2), (3, .int y3), (4, .int y4), (5, .long y5), (7, .int y7), (8, .int y8)] → W p l e ({ frames := 4, cells := 0, slots := 0, locals := 102 } : Room) s m [.ref (ad 1), .ref (ad (7 + 2 * t))].toArray below meth c H locs 0 0 (MQ below (QG D (wC cy ad Xr) A none r) [.ref (ad 1), .ref (ad (7 + 2 * t))].toArray s 0 0 A) (F0 m 95 ls []) := by
            intro y7 y8 S_95 H locs ls hf T hl
            unfold fX0_listTurns_j95 at hf
            refine lv_lload hx hb dX0_listTurns_95 (lv_at hl 5 rfl) ?_
            refine lv_iload hx hb dX0_listTurns_97 (lv_at hl 6 rfl) ?_
            refine lv_bipush (v := 32) hx hb dX0_listTurns_99 (by decide) ?_
            refine lv_iadd hx hb dX0_listTurns_101 ?_
            refine lv_lshr hx hb dX0_listTurns_102 rfl ?_
            refine lv_lconst (v := 1) hx hb dX0_listTurns_103 (by decide) ?_
            refine lv_land hx hb dX0_listTurns_104 ?_
            refine lv_lconst (v := 0) hx hb dX0_listTurns_105 (by decide) ?_
            refine W.lcmp hx hb dX0_listTurns_106 ?_
            refine lv_if_eq (tgt := 119) hx hb dX0_listTurns_107 (by decide) (fun hc => ?_) (fun hc => ?_)
            · replace hf := ifp hc hf
              exact j_119 y7 S_95 _ _ _ hf T (lv_sub hl [0, 1, 2, 3, 4, 5, 6] rfl)
            · replace hf := ifn hc hf
              refine lv_aload_n hx hb dX0_listTurns_110 rfl (lv_at hl 1 rfl) ?_
              refine lv_iload hx hb dX0_listTurns_111 (lv_at hl 7 rfl) ?_
              refine lv_bipush (v := 99) hx hb dX0_listTurns_113 (by decide) ?_
              refine lv_iadd hx hb dX0_listTurns_115 ?_
              obtain ⟨S3, h2, hf⟩ := bnd_inv hf
              refine cg_V (q0 := (pL y1)) (ci := 2) (As := [.int (y8 + 99)]) (rest := []) X T (kX2_add l D cy ad Xr S_95 y1 (y8 + 99) S3 h2 ht_y1) (cwV 1 hts gX0_listTurns_X2_add rfl rfl rfl (by decide +kernel) ⟨Nat.le_of_ble_eq_true rfl, Nat.le_of_ble_eq_true rfl⟩) (wC_L cy ad Xr S_95 ht_y1) rfl rfl hl.1 rfl (Nat.le_of_ble_eq_true rfl) dX0_listTurns_116 ⟨Nat.zero_le _, Nat.zero_le _⟩ (st2 := []) (pc2 := 119) rfl rfl (fun H locs T => ?_)
              exact j_119 y7 S3 _ _ _ hf T (lv_sub hl [0, 1, 2, 3, 4, 5, 6] rfl)
          refine lv_iload hx hb dX0_listTurns_50 (lv_at hl 6 rfl) ?_
          refine lv_aload_n hx hb dX0_listTurns_52 rfl (lv_at hl 0 rfl) ?_
          refine va_get (D := D) (ci := 0) (v := .int (S_50.1 0)) (C := RX0) (T := TX0) (N := 13) hx hb hts hin_X0 hown hK.1 T.1 14 rfl rfl 5 (by decide) (hts _ (List.mem_of_getElem? (i := 4) rfl)) (fun _ h9 => h9) rfl dX0_listTurns_53 ?_
          refine lv_icmp_ge (tgt := 125) hx hb dX0_listTurns_56 (by decide) (fun hc => ?_) (fun hc => ?_)
          · replace hf := ifp hc hf
            obtain ⟨r0, hf, hz⟩ := ex_inv hf
            rw [hex_50 r0 hz] at hf
            obtain ⟨v4, e_v4, hf⟩ := nm_inv hf
            refine lv_iinc (v := v4) (lv' := [(3, .int v4), (0, .ref (ad 1)), (1, .ref (ad (7 + 2 * y1))), (2, .int y2), (4, .int y4), (5, .long y5), (7, .int y7)]) hx hb dX0_listTurns_125 hl (k := 3) rfl (by rw [e_v4]; rfl) (by decide) rfl (fun ls hl => ?_)
            refine lv_goto (tgt := 22) hx hb dX0_listTurns_128 (by decide) ?_
            exact ih_22 v4 S_50 _ _ _ (hin_22 _ (Option.some.inj hf).symm) T (lv_sub hl [1, 2, 3, 0] rfl) ht_y1
          · replace hf := ifn hc hf
            refine lv_sipush (v := 10000) hx hb dX0_listTurns_59 (by decide) ?_
            refine lv_iload_n hx hb dX0_listTurns_62 rfl (lv_at hl 3 rfl) ?_
            refine lv_imul hx hb dX0_listTurns_63 ?_
            refine lv_bipush (v := 100) hx hb dX0_listTurns_64 (by decide) ?_
            refine lv_iload hx hb dX0_listTurns_66 (lv_at hl 6 rfl) ?_
            refine lv_imul hx hb dX0_listTurns_68 ?_
            refine lv_iadd hx hb dX0_listTurns_69 ?_
            refine lv_topi (fun v5 e_v5 => ?_)
            replace hf := nm_use hf e_v5
            refine lv_istore (lv' := [(8, .int v5), (0, .ref (ad 1)), (1, .ref (ad (7 + 2 * y1))), (2, .int y2), (3, .int y3), (4, .int y4), (5, .long y5), (7, .int y7)]) hx hb dX0_listTurns_70 hl (by decide) rfl (fun ls hl => ?_)
            refine lv_lload hx hb dX0_listTurns_72 (lv_at hl 6 rfl) ?_
            refine lv_iload hx hb dX0_listTurns_74 (lv_at hl 7 rfl) ?_
            refine lv_lshr hx hb dX0_listTurns_76 rfl ?_
            refine lv_lconst (v := 1) hx hb dX0_listTurns_77 (by decide) ?_
            refine lv_land hx hb dX0_listTurns_78 ?_
            refine lv_lconst (v := 0) hx hb dX0_listTurns_79 (by decide) ?_
            refine W.lcmp hx hb dX0_listTurns_80 ?_
            refine lv_if_eq (tgt := 95) hx hb dX0_listTurns_81 (by decide) (fun hc => ?_) (fun hc => ?_)
            · replace hf := ifp hc hf
              exact j_95 y7 v5 S_50 _ _ _ hf T (lv_sub hl [1, 2, 3, 4, 5, 6, 7, 0] rfl)
            · replace hf := ifn hc hf
              refine lv_aload_n hx hb dX0_listTurns_84 rfl (lv_at hl 1 rfl) ?_
              refine lv_aload_n hx hb dX0_listTurns_85 rfl (lv_at hl 2 rfl) ?_
              refine lv_iload hx hb dX0_listTurns_86 (lv_at hl 0 rfl) ?_
              refine lv_iload hx hb dX0_listTurns_88 (lv_at hl 5 rfl) ?_
              refine lv_iload hx hb dX0_listTurns_90 (lv_at hl 7 rfl) ?_
              obtain ⟨S7, h6, hf⟩ := bnd_inv hf
              refine cg_V (q0 := 14) (ci := 0) (As := [.ref (ad (7 + 2 * y1)), .int v5, .int y4, .int y7]) (rest := []) X T (kX0_listBuildings l D cy ad Xr S_50 y1 v5 y4 y7 S7 h6 ht_y1) (cwV 4 hts gX0_listTurns_X0_listBuildings rfl rfl rfl (by decide +kernel) ⟨Nat.le_of_ble_eq_true rfl, Nat.le_of_ble_eq_true rfl⟩) rfl rfl rfl hl.1 rfl (Nat.le_of_ble_eq_true rfl) dX0_listTurns_92 ⟨Nat.zero_le _, Nat.zero_le _⟩ (st2 := []) (pc2 := 95) rfl rfl (fun H locs T => ?_)
              exact j_95 y7 v5 S7 _ _ _ hf T (lv_sub hl [1, 2, 3, 4, 5, 6, 7, 0] rfl)
      refine lv_iload_n hx hb dX0_listTurns_22 rfl (lv_at hl 3 rfl) ?_
      refine lv_aload_n hx hb dX0_listTurns_23 rfl (lv_at hl 0 rfl) ?_
      refine va_get (D := D) (ci := 0) (v := .int (S_22.1 1)) (C := RX0) (T := TX0) (N := 13) hx hb hts hin_X0 hown hK.1 T.1 14 rfl rfl 6 (by decide) (hts _ (List.mem_of_getElem? (i := 3) rfl)) (fun _ h9 => h9) rfl dX0_listTurns_24 ?_
      refine lv_icmp_ge (tgt := 131) hx hb dX0_listTurns_27 (by decide) (fun hc => ?_) (fun hc => ?_)
      · replace hf := ifp hc hf
        obtain ⟨r0, hf, hz⟩ := ex_inv hf
        rw [hex_22 r0 hz] at hf
        exact rf_vw hf X T hr dX0_listTurns_131
      · replace hf := ifn hc hf
        refine lv_aload_n hx hb dX0_listTurns_30 rfl (lv_at hl 0 rfl) ?_
        refine lv_iload_n hx hb dX0_listTurns_31 rfl (lv_at hl 2 rfl) ?_
        refine lv_iload_n hx hb dX0_listTurns_32 rfl (lv_at hl 3 rfl) ?_
        obtain ⟨v9, h8, hf⟩ := bnd_inv hf
        refine cg_V (q0 := 14) (ci := 0) (As := [.int y2, .int y3]) (rest := []) X T (kX0_spotOf l D cy ad Xr S_22 y2 y3 v9 h8) (cwV 2 hts gX0_listTurns_X0_spotOf rfl rfl rfl (by decide +kernel) ⟨Nat.le_of_ble_eq_true rfl, Nat.le_of_ble_eq_true rfl⟩) rfl rfl rfl hl.1 rfl (Nat.le_of_ble_eq_true rfl) dX0_listTurns_33 ⟨Nat.zero_le _, Nat.zero_le _⟩ (st2 := [.int v9]) (pc2 := 36) rfl rfl (fun H locs T => ?_)
        refine lv_istore (lv' := [(4, .int v9), (0, .ref (ad 1)), (1, .ref (ad (7 + 2 * y1))), (2, .int y2), (3, .int y3)]) hx hb dX0_listTurns_36 hl (by decide) rfl (fun ls hl => ?_)
        refine lv_aload_n hx hb dX0_listTurns_38 rfl (lv_at hl 1 rfl) ?_
        refine lv_iload_n hx hb dX0_listTurns_39 rfl (lv_at hl 3 rfl) ?_
        refine lv_iload hx hb dX0_listTurns_40 (lv_at hl 0 rfl) ?_
        obtain ⟨v11, h10, hf⟩ := bnd_inv hf
        refine cg_V (q0 := 14) (ci := 0) (As := [.int y2, .int v9]) (rest := []) X T (kX0_reachOf l D cy ad Xr S_22 y2 v9 v11 h10) (cwV 2 hts gX0_listTurns_X0_reachOf rfl rfl rfl (by decide +kernel) ⟨Nat.le_of_ble_eq_true rfl, Nat.le_of_ble_eq_true rfl⟩) rfl rfl rfl hl.1 rfl (Nat.le_of_ble_eq_true rfl) dX0_listTurns_42 ⟨Nat.zero_le _, Nat.zero_le _⟩ (st2 := [.long v11]) (pc2 := 45) rfl rfl (fun H locs T => ?_)
        refine lv_lstore (lv' := [(5, .long v11), (4, .int v9), (0, .ref (ad 1)), (1, .ref (ad (7 + 2 * y1))), (2, .int y2), (3, .int y3)]) hx hb dX0_listTurns_45 hl (by decide) rfl (fun ls hl => ?_)
        refine lv_iconst (v := 0) hx hb dX0_listTurns_47 (by decide) ?_
        refine lv_istore (lv' := [(7, .int 0), (5, .long v11), (4, .int v9), (0, .ref (ad 1)), (1, .ref (ad (7 + 2 * y1))), (2, .int y2), (3, .int y3)]) hx hb dX0_listTurns_48 hl (by decide) rfl (fun ls hl => ?_)
        exact l_50 y3 v9 v11 FUEL 0 S_22 _ _ _ hf T (lv_sub hl [3, 4, 5, 6, 2, 1, 0] rfl)
  refine lv_aload_n hx hb dX0_listTurns_0 rfl (lv_at hl 1 rfl) ?_
  obtain ⟨S13, h12, hf⟩ := bnd_inv hf
  refine cg_V (q0 := (pL t)) (ci := 2) (As := []) (rest := []) X T (kX2_clear l D cy ad Xr S t S13 h12 ht_t) (cwV 0 hts gX0_listTurns_X2_clear rfl rfl rfl (by decide +kernel) ⟨Nat.le_of_ble_eq_true rfl, Nat.le_of_ble_eq_true rfl⟩) (wC_L cy ad Xr S ht_t) rfl rfl hl.1 rfl (Nat.le_of_ble_eq_true rfl) dX0_listTurns_1 ⟨Nat.zero_le _, Nat.zero_le _⟩ (st2 := []) (pc2 := 4) rfl rfl (fun H locs T => ?_)
  refine lv_aload_n hx hb dX0_listTurns_4 rfl (lv_at hl 0 rfl) ?_
  refine va_get (D := D) (ci := 0) (v := .int (S13.1 6)) (C := RX0) (T := TX0) (N := 13) hx hb hts hin_X0 hown hK.1 T.1 14 rfl rfl 11 (by decide) (hts _ (List.mem_of_getElem? (i := 1) rfl)) (fun _ h9 => h9) rfl dX0_listTurns_5 ?_
  refine lv_iconst (v := (-1)) hx hb dX0_listTurns_8 (by decide) ?_
  refine lv_icmp_eq (tgt := 13) hx hb dX0_listTurns_9 (by decide) (fun hc => ?_) (fun hc => ?_)
  · replace hf := ifp hc hf
    refine lv_aload_n hx hb dX0_listTurns_13 rfl (lv_at hl 0 rfl) ?_
    refine va_get (D := D) (ci := 0) (v := .int (S13.1 5)) (C := RX0) (T := TX0) (N := 13) hx hb hts hin_X0 hown hK.1 T.1 14 rfl rfl 10 (by decide) (hts _ (List.mem_of_getElem? (i := 2) rfl)) (fun _ h9 => h9) rfl dX0_listTurns_14 ?_
    refine lv_iconst (v := 2) hx hb dX0_listTurns_17 (by decide) ?_
    refine lv_irem hx hb dX0_listTurns_18 (by decide) ?_
    refine lv_topi (fun v14 e_v14 => ?_)
    replace hf := nm_use hf e_v14
    refine lv_istore_n (lv' := [(2, .int v14), (0, .ref (ad 1)), (1, .ref (ad (7 + 2 * t)))]) hx hb dX0_listTurns_19 rfl hl (by decide) rfl (fun ls hl => ?_)
    refine lv_iconst (v := 0) hx hb dX0_listTurns_20 (by decide) ?_
    refine lv_istore_n (lv' := [(3, .int 0), (2, .int v14), (0, .ref (ad 1)), (1, .ref (ad (7 + 2 * t)))]) hx hb dX0_listTurns_21 rfl hl (by decide) rfl (fun ls hl => ?_)
    exact l_22 t v14 FUEL 0 S13 _ _ _ hf T (lv_sub hl [2, 3, 1, 0] rfl) ht_t
  · replace hf := ifn hc hf
    exact rf_vw hf X T hr dX0_listTurns_12
