noncomputable def fJ7_fill_53178_b5 (k : Nat) (y1 : Int32) (y3 : Int32) : (Int32 × SC) → Option ((Int32 × SC) ⊕ SC) :=
  fun st => match st with
    | (y2, S_5) =>
      if y3 ≤ y2 then
        ex <|
        some S_5
      else
        ck y2 (lenA k) <|
        nm (setA S_5 k y2 y1 : SC) fun S1 =>
        nm (y2 + 1 : Int32) fun v2 =>
        some (.inl (v2, S1))
noncomputable def fJ7_fill_53178 (k : Nat) (S : SC) (x1 : Int32) : Option SC :=
  nm (Int32.ofNat (lenA k) : Int32) fun v3 =>
  loop (fJ7_fill_53178_b5 k x1 v3) FUEL (0, S)
set_option maxHeartbeats 4000000 in
set_option maxRecDepth 100000 in
theorem kJ7_fill_53178 (l : Launch) (D : va_G) (cy : Nat → ClassId) (ad : Nat → Nat) (Xr : va_W) (k : Nat) (S : SC) (x1 : Int32) (r : SC) (hf : fJ7_fill_53178 k S x1 = some r) (ht_k : k < 5) : CG l D cy (wC cy ad Xr) yJ7_fill_53178 wsJ7_fill_53178 ({ frames := 0, cells := 0, slots := 0, locals := 0 } : Room) [.ref (ad (2 + k)), .int x1] S none r := by
  refine CG.of (cc := cJ7_fill_53178) (maxL := 4) (ret := none) (by decide +kernel) rfl (Nat.le_of_ble_eq_true rfl) ?_
  intro p e s m below meth c A ls X hr T hl
  obtain ⟨hx, hb, hml, hown, hts, hlk, hK, hA, hwA⟩ := id X
  have hl : lv_has ls 4 [(0, .ref (ad (2 + k))), (1, .int x1)] := hl
  unfold fJ7_fill_53178 at hf
  have l_5 : ∀ (y1 : Int32) (y3 : Int32) (n : Nat) (y2 : Int32) (S_5 : SC) (H : Heap) (locs : List Loc) (ls : Array Slot), loop (fJ7_fill_53178_b5 k y1 y3) n (y2, S_5) = some r → ST D (wC cy ad Xr) A s S_5 H locs → lv_has ls 4 [(0, .ref (ad (2 + k))), (1, .int y1), (2, .int y2), (3, .int y3)] → W p l e ({ frames := 0, cells := 0, slots := 0, locals := 0 } : Room) s m [.ref (ad (2 + k)), .int x1].toArray below meth c H locs 0 0 (MQ below (QG D (wC cy ad Xr) A none r) [.ref (ad (2 + k)), .int x1].toArray s 0 0 A) (F0 m 5 ls []) := by
    intro y1 y3 n
    induction n with
    | zero => intro _ _ _ _ _ hf; cases hf
    | succ n ih_5 =>
      intro y2 S_5 H locs ls hf T hl
      obtain ⟨z_5, hf, hin_5, hex_5⟩ := loop_inv hf
      unfold fJ7_fill_53178_b5 at hf
      dsimp only at hf
      refine lv_iload_n hx hb dJ7_fill_53178_5 rfl (lv_at hl 2 rfl) ?_
      refine lv_iload_n hx hb dJ7_fill_53178_6 rfl (lv_at hl 3 rfl) ?_
      refine lv_icmp_ge (tgt := 20) hx hb dJ7_fill_53178_7 (by decide) (fun hc => ?_) (fun hc => ?_)
      · replace hf := ifp hc hf
        obtain ⟨r0, hf, hz⟩ := ex_inv hf
        rw [hex_5 r0 hz] at hf
        exact rf_vw hf X T hr dJ7_fill_53178_20
      · replace hf := ifn hc hf
        refine lv_aload_n hx hb dJ7_fill_53178_10 rfl (lv_at hl 0 rfl) ?_
        refine lv_iload_n hx hb dJ7_fill_53178_11 rfl (lv_at hl 2 rfl) ?_
        refine lv_iload_n hx hb dJ7_fill_53178_12 rfl (lv_at hl 1 rfl) ?_
        obtain ⟨hin, hf⟩ := ck_inv hf
        obtain ⟨S1, e_S1, hf⟩ := nm_inv hf
        refine va_iast hx hb hK.1 T.1 T.2.1 T.2.2 (13 - k) 0 (wC_A cy ad Xr S_5 ht_k) rfl hin dJ7_fill_53178_13 (fun H locs hP hD hS => ?_)
        have T : ST D (wC cy ad Xr) A s S1 H locs := ⟨by rw [e_S1, ← wC_A_set cy ad Xr S_5 y2 y1 ht_k]; exact hP, by rw [e_S1, ← wC_A_set cy ad Xr S_5 y2 y1 ht_k]; exact hD, hS⟩
        obtain ⟨v2, e_v2, hf⟩ := nm_inv hf
        refine lv_iinc (v := v2) (lv' := [(2, .int v2), (0, .ref (ad (2 + k))), (1, .int y1), (3, .int y3)]) hx hb dJ7_fill_53178_14 hl (k := 2) rfl (by rw [e_v2]; rfl) (by decide) rfl (fun ls hl => ?_)
        refine lv_goto (tgt := 5) hx hb dJ7_fill_53178_17 (by decide) ?_
        exact ih_5 v2 S1 _ _ _ (hin_5 _ (Option.some.inj hf).symm) T (lv_sub hl [1, 2, 0, 3] rfl)
  refine lv_iconst (v := 0) hx hb dJ7_fill_53178_0 (by decide) ?_
  refine lv_istore_n (lv' := [(2, .int 0), (0, .ref (ad (2 + k))), (1, .int x1)]) hx hb dJ7_fill_53178_1 rfl hl (by decide) rfl (fun ls hl => ?_)
  refine lv_aload_n hx hb dJ7_fill_53178_2 rfl (lv_at hl 1 rfl) ?_
  refine va_alen (v := Int32.ofNat (lenA k)) hx hb hK.1 T.1 (13 - k) 0 (wC_A cy ad Xr S ht_k) rfl rfl dJ7_fill_53178_3 ?_
  refine lv_topi (fun v3 e_v3 => ?_)
  replace hf := nm_use hf e_v3
  refine lv_istore_n (lv' := [(3, .int v3), (2, .int 0), (0, .ref (ad (2 + k))), (1, .int x1)]) hx hb dJ7_fill_53178_4 rfl hl (by decide) rfl (fun ls hl => ?_)
  exact l_5 x1 v3 FUEL 0 S _ _ _ hf T (lv_sub hl [2, 3, 1, 0] rfl)

noncomputable def fX0_joinNeighbours_j113 (y1 : Int32) (y2 : Int32) (y3 : Int32) (y4 : Int32) (y5 : Int32) (S_113 : SC) : Option ((Int32 × SC) ⊕ SC) :=
  nm (y5 + 1 : Int32) fun v1 =>
  some (.inl (v1, S_113))
noncomputable def fX0_joinNeighbours_j112 (y1 : Int32) (y2 : Int32) (y3 : Int32) (y4 : Int32) (y5 : Int32) (z1 : Int32) (z2 : Int32) (S_112 : SC) : Option ((Int32 × SC) ⊕ SC) :=
  ck z1 200 <|
  nm (setA S_112 0 z1 z2 : SC) fun S2 =>
  fX0_joinNeighbours_j113 y1 y2 y3 y4 y5 S2
noncomputable def fX0_joinNeighbours_j58 (y1 : Int32) (y2 : Int32) (y3 : Int32) (y4 : Int32) (y5 : Int32) (y6 : Int32) (y7 : Int32) (z0 : Int32) (S_58 : SC) : Option ((Int32 × SC) ⊕ SC) :=
  nm ((((y1 * y4) + y2) * 8) + y5 : Int32) fun v3 =>
  if v3 < 0 then
    fX0_joinNeighbours_j113 y1 y2 y3 y4 y5 S_58
  else
    if (200 : Int32) ≤ v3 then
      fX0_joinNeighbours_j113 y1 y2 y3 y4 y5 S_58
    else
      if z0 = 0 then
        fX0_joinNeighbours_j112 y1 y2 y3 y4 y5 v3 (-1) S_58
      else
        fX0_joinNeighbours_j112 y1 y2 y3 y4 y5 v3 ((y6 * y4) + y7) S_58
noncomputable def fX0_joinNeighbours_j57 (y1 : Int32) (y2 : Int32) (y3 : Int32) (y4 : Int32) (y5 : Int32) (y6 : Int32) (y7 : Int32) (S_57 : SC) : Option ((Int32 × SC) ⊕ SC) :=
  fX0_joinNeighbours_j58 y1 y2 y3 y4 y5 y6 y7 0 S_57
noncomputable def fX0_joinNeighbours_b3 (y1 : Int32) (y2 : Int32) (y3 : Int32) (y4 : Int32) : (Int32 × SC) → Option ((Int32 × SC) ⊕ SC) :=
  fun st => match st with
    | (y5, S_3) =>
      if (8 : Int32) ≤ y5 then
        ex <|
        some S_3
      else
        ck y5 8 <|
        nm (y1 + (dnD y5.toNatClampNeg) : Int32) fun v4 =>
        ck y5 8 <|
        nm (y2 + (dnA y5.toNatClampNeg) : Int32) fun v5 =>
        if v4 < 0 then
          fX0_joinNeighbours_j57 y1 y2 y3 y4 y5 v4 v5 S_3
        else
          if y3 ≤ v4 then
            fX0_joinNeighbours_j57 y1 y2 y3 y4 y5 v4 v5 S_3
          else
            if v5 < 0 then
              fX0_joinNeighbours_j57 y1 y2 y3 y4 y5 v4 v5 S_3
            else
              if y4 ≤ v5 then
                fX0_joinNeighbours_j57 y1 y2 y3 y4 y5 v4 v5 S_3
              else
                fX0_joinNeighbours_j58 y1 y2 y3 y4 y5 v4 v5 1 S_3
noncomputable def fX0_joinNeighbours (S : SC) (x1 : Int32) (x2 : Int32) (x3 : Int32) (x4 : Int32) : Option SC :=
  loop (fX0_joinNeighbours_b3 x1 x2 x3 x4) FUEL (0, S)
set_option maxHeartbeats 4000000 in
set_option maxRecDepth 100000 in
theorem kX0_joinNeighbours (l : Launch) (t1 t2 : Nat) (D : va_G) (cy : Nat → ClassId) (ad : Nat → Nat) (Xr : va_W) (S : SC) (x1 : Int32) (x2 : Int32) (x3 : Int32) (x4 : Int32) (r : SC) (hf : fX0_joinNeighbours S x1 x2 x3 x4 = some r) : CGs l t1 t2 D cy (wC cy ad Xr) yX0_joinNeighbours wsX0_joinNeighbours ({ frames := 0, cells := 0, slots := 0, locals := 0 } : Room) [.ref (ad 1), .int x1, .int x2, .int x3, .int x4] S none r := by
  refine CGs.of (cc := cX0_joinNeighbours) (maxL := 10) (ret := none) (by decide +kernel) rfl (Nat.le_of_ble_eq_true rfl) ?_
  intro p e s m below meth c A ls X hr T hl hX
  obtain ⟨hx, hb, hml, hown, hts, hlk, hK, hA, hwA⟩ := id X
  have hl : lv_has ls 10 [(0, .ref (ad 1)), (1, .int x1), (2, .int x2), (3, .int x3), (4, .int x4)] := hl
  have hin_X0 : ∀ w ∈ u_ws RX0 TX0 13, w ∈ wsX0_joinNeighbours := fun w h => (List.mem_cons_of_mem _ (List.mem_append_right _ h))
  unfold fX0_joinNeighbours at hf
  have l_3 : ∀ (y1 : Int32) (y2 : Int32) (y3 : Int32) (y4 : Int32) (n : Nat) (y5 : Int32) (S_3 : SC) (H : Heap) (locs : List Loc) (ls : Array Slot), loop (fX0_joinNeighbours_b3 y1 y2 y3 y4) n (y5, S_3) = some r → ST D (wC cy ad Xr) A s S_3 H locs → lv_has ls 10 [(0, .ref (ad 1)), (1, .int y1), (2, .int y2), (3, .int y3), (4, .int y4), (5, .int y5)] → W p l e ({ frames := 0, cells := 0, slots := 0, locals := 0 } : Room) s m [.ref (ad 1), .int x1, .int x2, .int x3, .int x4].toArray below meth c H locs 0 0 (MQ below (QG D (wC cy ad Xr) A none r) [.ref (ad 1), .int x1, .int x2, .int x3, .int x4].toArray s 0 0 A) (F0 m 3 ls []) := by
    intro y1 y2 y3 y4 n
    induction n with
    | zero => intro _ _ _ _ _ hf; cases hf
    | succ n ih_3 =>
      intro y5 S_3 H locs ls hf T hl
      obtain ⟨z_3, hf, hin_3, hex_3⟩ := loop_inv hf
      unfold fX0_joinNeighbours_b3 at hf
      dsimp only at hf
      have j_113 : ∀ (y5 : Int32) (S_113 : SC) (H : Heap) (locs : List Loc) (ls : Array Slot), fX0_joinNeighbours_j113 y1 y2 y3 y4 y5 S_113 = some z_3 → ST D (wC cy ad Xr) A s S_113 H locs → lv_has ls 10 [(0, .ref (ad 1)), (1, .int y1), (2, .int y2), (3, .int y3), (4, .int y4), (5, .int y5)] → W p l e ({ frames := 0, cells := 0, slots := 0, locals := 0 } : Room) s m [.ref (ad 1), .int x1, .int x2, .int x3, .int x4].toArray below meth c H locs 0 0 (MQ below (QG D (wC cy ad Xr) A none r) [.ref (ad 1), .int x1, .int x2, .int x3, .int x4].toArray s 0 0 A) (F0 m 113 ls []) := by
        intro y5 S_113 H locs ls hf T hl
        unfold fX0_joinNeighbours_j113 at hf
        obtain ⟨v1, e_v1, hf⟩ := nm_inv hf
        refine lv_iinc (v := v1) (lv' := [(5, .int v1), (0, .ref (ad 1)), (1, .int y1), (2, .int y2), (3, .int y3), (4, .int y4)]) hx hb dX0_joinNeighbours_113 hl (k := 5) rfl (by rw [e_v1]; rfl) (by decide) rfl (fun ls hl => ?_)
        refine lv_goto (tgt := 3) hx hb dX0_joinNeighbours_116 (by decide) ?_
        exact ih_3 v1 S_113 _ _ _ (hin_3 _ (Option.some.inj hf).symm) T (lv_sub hl [1, 2, 3, 4, 5, 0] rfl)
      have j_112 : ∀ (y5 : Int32) (z1 : Int32) (z2 : Int32) (S_112 : SC) (H : Heap) (locs : List Loc) (ls : Array Slot), fX0_joinNeighbours_j112 y1 y2 y3 y4 y5 z1 z2 S_112 = some z_3 → ST D (wC cy ad Xr) A s S_112 H locs → lv_has ls 10 [(0, .ref (ad 1)), (1, .int y1), (2, .int y2), (3, .int y3), (4, .int y4), (5, .int y5)] → W p l e ({ frames := 0, cells := 0, slots := 0, locals := 0 } : Room) s m [.ref (ad 1), .int x1, .int x2, .int x3, .int x4].toArray below meth c H locs 0 0 (MQ below (QG D (wC cy ad Xr) A none r) [.ref (ad 1), .int x1, .int x2, .int x3, .int x4].toArray s 0 0 A) (F0 m 112 ls [.int z2, .int z1, .ref (ad 2)]) := by
        intro y5 z1 z2 S_112 H locs ls hf T hl
        unfold fX0_joinNeighbours_j112 at hf
        obtain ⟨hin, hf⟩ := ck_inv hf
        obtain ⟨S2, e_S2, hf⟩ := nm_inv hf
        refine va_iast hx hb hK.1 T.1 T.2.1 T.2.2 13 0 rfl rfl hin dX0_joinNeighbours_112 (fun H locs hP hD hS => ?_)
        have T : ST D (wC cy ad Xr) A s S2 H locs := ⟨by rw [e_S2]; exact hP, by rw [e_S2]; exact hD, hS⟩
        exact j_113 y5 S2 _ _ _ hf T (lv_sub hl [0, 1, 2, 3, 4, 5] rfl)
      have j_58 : ∀ (y5 : Int32) (y6 : Int32) (y7 : Int32) (z0 : Int32) (S_58 : SC) (H : Heap) (locs : List Loc) (ls : Array Slot), fX0_joinNeighbours_j58 y1 y2 y3 y4 y5 y6 y7 z0 S_58 = some z_3 → ST D (wC cy ad Xr) A s S_58 H locs → lv_has ls 10 [(0, .ref (ad 1)), (1, .int y1), (2, .int y2), (3, .int y3), (4, .int y4), (5, .int y5), (6, .int y6), (7, .int y7)] → W p l e ({ frames := 0, cells := 0, slots := 0, locals := 0 } : Room) s m [.ref (ad 1), .int x1, .int x2, .int x3, .int x4].toArray below meth c H locs 0 0 (MQ below (QG D (wC cy ad Xr) A none r) [.ref (ad 1), .int x1, .int x2, .int x3, .int x4].toArray s 0 0 A) (F0 m 58 ls [.int z0]) := by
        intro y5 y6 y7 z0 S_58 H locs ls hf T hl
        unfold fX0_joinNeighbours_j58 at hf
        refine lv_istore (lv' := [(8, .int z0), (0, .ref (ad 1)), (1, .int y1), (2, .int y2), (3, .int y3), (4, .int y4), (5, .int y5), (6, .int y6), (7, .int y7)]) hx hb dX0_joinNeighbours_58 hl (by decide) rfl (fun ls hl => ?_)
        refine lv_iload_n hx hb dX0_joinNeighbours_60 rfl (lv_at hl 2 rfl) ?_
        refine lv_iload hx hb dX0_joinNeighbours_61 (lv_at hl 5 rfl) ?_
        refine lv_imul hx hb dX0_joinNeighbours_63 ?_
        refine lv_iload_n hx hb dX0_joinNeighbours_64 rfl (lv_at hl 3 rfl) ?_
        refine lv_iadd hx hb dX0_joinNeighbours_65 ?_
        refine lv_bipush (v := 8) hx hb dX0_joinNeighbours_66 (by decide) ?_
        refine lv_imul hx hb dX0_joinNeighbours_68 ?_
        refine lv_iload hx hb dX0_joinNeighbours_69 (lv_at hl 6 rfl) ?_
        refine lv_iadd hx hb dX0_joinNeighbours_71 ?_
        refine lv_topi (fun v3 e_v3 => ?_)
        replace hf := nm_use hf e_v3
        refine lv_istore (lv' := [(9, .int v3), (8, .int z0), (0, .ref (ad 1)), (1, .int y1), (2, .int y2), (3, .int y3), (4, .int y4), (5, .int y5), (6, .int y6), (7, .int y7)]) hx hb dX0_joinNeighbours_72 hl (by decide) rfl (fun ls hl => ?_)
        refine lv_iload hx hb dX0_joinNeighbours_74 (lv_at hl 0 rfl) ?_
        refine lv_if_lt (tgt := 113) hx hb dX0_joinNeighbours_76 (by decide) (fun hc => ?_) (fun hc => ?_)
        · replace hf := ifp hc hf
          exact j_113 y5 S_58 _ _ _ hf T (lv_sub hl [2, 3, 4, 5, 6, 7] rfl)
        · replace hf := ifn hc hf
          refine lv_iload hx hb dX0_joinNeighbours_79 (lv_at hl 0 rfl) ?_
          refine lv_aload_n hx hb dX0_joinNeighbours_81 rfl (lv_at hl 2 rfl) ?_
          refine va_get (D := D) (ci := 0) (v := .ref (ad 2)) (C := RX0) (T := TX0) (N := 13) hx hb hts hin_X0 hown hK.1 T.1 14 rfl rfl 0 (by decide) (hts _ (List.mem_of_getElem? (i := 3) rfl)) (fun _ h9 => h9) rfl dX0_joinNeighbours_82 ?_
          refine va_alen (v := 200) hx hb hK.1 T.1 13 0 rfl rfl rfl dX0_joinNeighbours_85 ?_
          refine lv_icmp_ge (tgt := 113) hx hb dX0_joinNeighbours_86 (by decide) (fun hc => ?_) (fun hc => ?_)
          · replace hf := ifp hc hf
            exact j_113 y5 S_58 _ _ _ hf T (lv_sub hl [2, 3, 4, 5, 6, 7] rfl)
          · replace hf := ifn hc hf
            refine lv_aload_n hx hb dX0_joinNeighbours_89 rfl (lv_at hl 2 rfl) ?_
            refine va_get (D := D) (ci := 0) (v := .ref (ad 2)) (C := RX0) (T := TX0) (N := 13) hx hb hts hin_X0 hown hK.1 T.1 14 rfl rfl 0 (by decide) (hts _ (List.mem_of_getElem? (i := 3) rfl)) (fun _ h9 => h9) rfl dX0_joinNeighbours_90 ?_
            refine lv_iload hx hb dX0_joinNeighbours_93 (lv_at hl 0 rfl) ?_
            refine lv_iload hx hb dX0_joinNeighbours_95 (lv_at hl 1 rfl) ?_
            refine lv_if_eq (tgt := 111) hx hb dX0_joinNeighbours_97 (by decide) (fun hc => ?_) (fun hc => ?_)
            · replace hf := ifp hc hf
              refine lv_iconst (v := (-1)) hx hb dX0_joinNeighbours_111 (by decide) ?_
              exact j_112 y5 v3 (-1) S_58 _ _ _ hf T (lv_sub hl [2, 3, 4, 5, 6, 7] rfl)
            · replace hf := ifn hc hf
              refine lv_iload hx hb dX0_joinNeighbours_100 (lv_at hl 8 rfl) ?_
              refine lv_iload hx hb dX0_joinNeighbours_102 (lv_at hl 6 rfl) ?_
              refine lv_imul hx hb dX0_joinNeighbours_104 ?_
              refine lv_iload hx hb dX0_joinNeighbours_105 (lv_at hl 9 rfl) ?_
              refine lv_iadd hx hb dX0_joinNeighbours_107 ?_
              refine lv_goto (tgt := 112) hx hb dX0_joinNeighbours_108 (by decide) ?_
              exact j_112 y5 v3 ((y6 * y4) + y7) S_58 _ _ _ hf T (lv_sub hl [2, 3, 4, 5, 6, 7] rfl)
      have j_57 : ∀ (y5 : Int32) (y6 : Int32) (y7 : Int32) (S_57 : SC) (H : Heap) (locs : List Loc) (ls : Array Slot), fX0_joinNeighbours_j57 y1 y2 y3 y4 y5 y6 y7 S_57 = some z_3 → ST D (wC cy ad Xr) A s S_57 H locs → lv_has ls 10 [(0, .ref (ad 1)), (1, .int y1), (2, .int y2), (3, .int y3), (4, .int y4), (5, .int y5), (6, .int y6), (7, .int y7)] → W p l e ({ frames := 0, cells := 0, slots := 0, locals := 0 } : Room) s m [.ref (ad 1), .int x1, .int x2, .int x3, .int x4].toArray below meth c H locs 0 0 (MQ below (QG D (wC cy ad Xr) A none r) [.ref (ad 1), .int x1, .int x2, .int x3, .int x4].toArray s 0 0 A) (F0 m 57 ls []) := by
        intro y5 y6 y7 S_57 H locs ls hf T hl
        unfold fX0_joinNeighbours_j57 at hf
        refine lv_iconst (v := 0) hx hb dX0_joinNeighbours_57 (by decide) ?_
        exact j_58 y5 y6 y7 0 S_57 _ _ _ hf T (lv_sub hl [0, 1, 2, 3, 4, 5, 6, 7] rfl)
      refine lv_iload hx hb dX0_joinNeighbours_3 (lv_at hl 5 rfl) ?_
      refine lv_bipush (v := 8) hx hb dX0_joinNeighbours_5 (by decide) ?_
      refine lv_icmp_ge (tgt := 119) hx hb dX0_joinNeighbours_7 (by decide) (fun hc => ?_) (fun hc => ?_)
      · replace hf := ifp hc hf
        obtain ⟨r0, hf, hz⟩ := ex_inv hf
        rw [hex_3 r0 hz] at hf
        exact rf_vw hf X T hr dX0_joinNeighbours_119
      · replace hf := ifn hc hf
        refine lv_iload_n hx hb dX0_joinNeighbours_10 rfl (lv_at hl 1 rfl) ?_
        refine va_gets hx hb hX.1 T.2.2 hown (hts _ (List.mem_of_getElem? (i := 1) rfl)) (fun _ h9 => h9) dX0_joinNeighbours_11 ?_
        refine lv_iload hx hb dX0_joinNeighbours_14 (lv_at hl 5 rfl) ?_
        obtain ⟨hin, hf⟩ := ck_inv hf
        refine va_ti (v := .int (dnD y5.toNatClampNeg)) hx hb hX.2.2.1 T.2.2 hin rfl dX0_joinNeighbours_16 ?_
        refine lv_iadd hx hb dX0_joinNeighbours_17 ?_
        refine lv_topi (fun v4 e_v4 => ?_)
        replace hf := nm_use hf e_v4
        refine lv_istore (lv' := [(6, .int v4), (0, .ref (ad 1)), (1, .int y1), (2, .int y2), (3, .int y3), (4, .int y4), (5, .int y5)]) hx hb dX0_joinNeighbours_18 hl (by decide) rfl (fun ls hl => ?_)
        refine lv_iload_n hx hb dX0_joinNeighbours_20 rfl (lv_at hl 3 rfl) ?_
        refine va_gets hx hb hX.2.1 T.2.2 hown (hts _ (List.mem_of_getElem? (i := 2) rfl)) (fun _ h9 => h9) dX0_joinNeighbours_21 ?_
        refine lv_iload hx hb dX0_joinNeighbours_24 (lv_at hl 6 rfl) ?_
        obtain ⟨hin, hf⟩ := ck_inv hf
        refine va_ti (v := .int (dnA y5.toNatClampNeg)) hx hb hX.2.2.2.1 T.2.2 hin rfl dX0_joinNeighbours_26 ?_
        refine lv_iadd hx hb dX0_joinNeighbours_27 ?_
        refine lv_topi (fun v5 e_v5 => ?_)
        replace hf := nm_use hf e_v5
        refine lv_istore (lv' := [(7, .int v5), (6, .int v4), (0, .ref (ad 1)), (1, .int y1), (2, .int y2), (3, .int y3), (4, .int y4), (5, .int y5)]) hx hb dX0_joinNeighbours_28 hl (by decide) rfl (fun ls hl => ?_)
        refine lv_iload hx hb dX0_joinNeighbours_30 (lv_at hl 1 rfl) ?_
        refine lv_if_lt (tgt := 57) hx hb dX0_joinNeighbours_32 (by decide) (fun hc => ?_) (fun hc => ?_)
        · replace hf := ifp hc hf
          exact j_57 y5 v4 v5 S_3 _ _ _ hf T (lv_sub hl [2, 3, 4, 5, 6, 7, 1, 0] rfl)
        · replace hf := ifn hc hf
          refine lv_iload hx hb dX0_joinNeighbours_35 (lv_at hl 1 rfl) ?_
          refine lv_iload_n hx hb dX0_joinNeighbours_37 rfl (lv_at hl 5 rfl) ?_
          refine lv_icmp_ge (tgt := 57) hx hb dX0_joinNeighbours_38 (by decide) (fun hc => ?_) (fun hc => ?_)
          · replace hf := ifp hc hf
            exact j_57 y5 v4 v5 S_3 _ _ _ hf T (lv_sub hl [2, 3, 4, 5, 6, 7, 1, 0] rfl)
          · replace hf := ifn hc hf
            refine lv_iload hx hb dX0_joinNeighbours_41 (lv_at hl 0 rfl) ?_
            refine lv_if_lt (tgt := 57) hx hb dX0_joinNeighbours_43 (by decide) (fun hc => ?_) (fun hc => ?_)
            · replace hf := ifp hc hf
              exact j_57 y5 v4 v5 S_3 _ _ _ hf T (lv_sub hl [2, 3, 4, 5, 6, 7, 1, 0] rfl)
            · replace hf := ifn hc hf
              refine lv_iload hx hb dX0_joinNeighbours_46 (lv_at hl 0 rfl) ?_
              refine lv_iload hx hb dX0_joinNeighbours_48 (lv_at hl 6 rfl) ?_
              refine lv_icmp_ge (tgt := 57) hx hb dX0_joinNeighbours_50 (by decide) (fun hc => ?_) (fun hc => ?_)
              · replace hf := ifp hc hf
                exact j_57 y5 v4 v5 S_3 _ _ _ hf T (lv_sub hl [2, 3, 4, 5, 6, 7, 1, 0] rfl)
              · replace hf := ifn hc hf
                refine lv_iconst (v := 1) hx hb dX0_joinNeighbours_53 (by decide) ?_
                refine lv_goto (tgt := 58) hx hb dX0_joinNeighbours_54 (by decide) ?_
                exact j_58 y5 v4 v5 1 S_3 _ _ _ hf T (lv_sub hl [2, 3, 4, 5, 6, 7, 1, 0] rfl)
  refine lv_iconst (v := 0) hx hb dX0_joinNeighbours_0 (by decide) ?_
  refine lv_istore (lv' := [(5, .int 0), (0, .ref (ad 1)), (1, .int x1), (2, .int x2), (3, .int x3), (4, .int x4)]) hx hb dX0_joinNeighbours_1 hl (by decide) rfl (fun ls hl => ?_)
  exact l_3 x1 x2 x3 x4 FUEL 0 S _ _ _ hf T (lv_sub hl [1, 2, 3, 4, 5, 0] rfl)

noncomputable def fX0_start_b80 (y1 : Int32) (y2 : Int32) (y6 : Int32) : (Int32 × SC) → Option ((Int32 × SC) ⊕ ((Int32 × SC) ⊕ SC)) :=
  fun st => match st with
    | (y7, S_80) =>
      if y2 ≤ y7 then
        ex <|
        nm (y6 + 1 : Int32) fun v1 =>
        some (.inl (v1, S_80))
      else
        bnd (fX0_joinNeighbours S_80 y6 y7 y1 y2) fun S3 =>
        nm (y7 + 1 : Int32) fun v4 =>
        some (.inl (v4, S3))
noncomputable def fX0_start_b71 (y1 : Int32) (y2 : Int32) : (Int32 × SC) → Option ((Int32 × SC) ⊕ SC) :=
  fun st => match st with
    | (y6, S_71) =>
      if y1 ≤ y6 then
        ex <|
        some S_71
      else
        loop (fX0_start_b80 y1 y2 y6) FUEL (0, S_71)
noncomputable def fX0_start (S : SC) (x1 : Int32) (x2 : Int32) (x3 : Int32) (x4 : Int32) (x5 : Int32) : Option SC :=
  nm (setS S 0 (x1 * x2) : SC) fun S5 =>
  nm (setS S5 1 x3 : SC) fun S6 =>
  nm (setS S6 2 x4 : SC) fun S7 =>
  nm (setS S7 3 x5 : SC) fun S8 =>
  nm (setS S8 4 0 : SC) fun S9 =>
  nm (setS S9 5 0 : SC) fun S10 =>
  nm (setS S10 6 (-1) : SC) fun S11 =>
  nm (setS S11 7 0 : SC) fun S12 =>
  bnd (fJ7_fill_53178 1 S12 0) fun S14 =>
  bnd (fJ7_fill_53178 2 S14 (-1)) fun S16 =>
  bnd (fJ7_fill_53178 3 S16 (-1)) fun S18 =>
  loop (fX0_start_b71 x1 x2) FUEL (0, S18)
set_option maxHeartbeats 4000000 in
set_option maxRecDepth 100000 in
theorem kX0_start (l : Launch) (t1 t2 : Nat) (D : va_G) (cy : Nat → ClassId) (ad : Nat → Nat) (Xr : va_W) (S : SC) (x1 : Int32) (x2 : Int32) (x3 : Int32) (x4 : Int32) (x5 : Int32) (r : SC) (hf : fX0_start S x1 x2 x3 x4 x5 = some r) : CGs l t1 t2 D cy (wC cy ad Xr) yX0_start wsX0_start ({ frames := 1, cells := 0, slots := 0, locals := 29 } : Room) [.ref (ad 1), .int x1, .int x2, .int x3, .int x4, .int x5] S none r := by
  refine CGs.of (cc := cX0_start) (maxL := 8) (ret := none) (by decide +kernel) rfl (Nat.le_of_ble_eq_true rfl) ?_
  intro p e s m below meth c A ls X hr T hl hX
  obtain ⟨hx, hb, hml, hown, hts, hlk, hK, hA, hwA⟩ := id X
  have hl : lv_has ls 8 [(0, .ref (ad 1)), (1, .int x1), (2, .int x2), (3, .int x3), (4, .int x4), (5, .int x5)] := hl
  have hin_X0 : ∀ w ∈ u_ws RX0 TX0 13, w ∈ wsX0_start := fun w h => (List.mem_cons_of_mem _ (List.mem_append_right _ h))
  unfold fX0_start at hf
  have l_71 : ∀ (y1 : Int32) (y2 : Int32) (n : Nat) (y6 : Int32) (S_71 : SC) (H : Heap) (locs : List Loc) (ls : Array Slot), loop (fX0_start_b71 y1 y2) n (y6, S_71) = some r → ST D (wC cy ad Xr) A s S_71 H locs → lv_has ls 8 [(0, .ref (ad 1)), (1, .int y1), (2, .int y2), (6, .int y6)] → W p l e ({ frames := 1, cells := 0, slots := 0, locals := 29 } : Room) s m [.ref (ad 1), .int x1, .int x2, .int x3, .int x4, .int x5].toArray below meth c H locs 0 0 (MQ below (QG D (wC cy ad Xr) A none r) [.ref (ad 1), .int x1, .int x2, .int x3, .int x4, .int x5].toArray s 0 0 A) (F0 m 71 ls []) := by
    intro y1 y2 n
    induction n with
    | zero => intro _ _ _ _ _ hf; cases hf
    | succ n ih_71 =>
      intro y6 S_71 H locs ls hf T hl
      obtain ⟨z_71, hf, hin_71, hex_71⟩ := loop_inv hf
      unfold fX0_start_b71 at hf
      dsimp only at hf
      have l_80 : ∀ (y6 : Int32) (n : Nat) (y7 : Int32) (S_80 : SC) (H : Heap) (locs : List Loc) (ls : Array Slot), loop (fX0_start_b80 y1 y2 y6) n (y7, S_80) = some z_71 → ST D (wC cy ad Xr) A s S_80 H locs → lv_has ls 8 [(0, .ref (ad 1)), (1, .int y1), (2, .int y2), (6, .int y6), (7, .int y7)] → W p l e ({ frames := 1, cells := 0, slots := 0, locals := 29 } : Room) s m [.ref (ad 1), .int x1, .int x2, .int x3, .int x4, .int x5].toArray below meth c H locs 0 0 (MQ below (QG D (wC cy ad Xr) A none r) [.ref (ad 1), .int x1, .int x2, .int x3, .int x4, .int x5].toArray s 0 0 A) (F0 m 80 ls []) := by
        intro y6 n
        induction n with
        | zero => intro _ _ _ _ _ hf; cases hf
        | succ n ih_80 =>
          intro y7 S_80 H locs ls hf T hl
          obtain ⟨z_80, hf, hin_80, hex_80⟩ := loop_inv hf
          unfold fX0_start_b80 at hf
          dsimp only at hf
          refine lv_iload hx hb dX0_start_80 (lv_at hl 4 rfl) ?_
          refine lv_iload_n hx hb dX0_start_82 rfl (lv_at hl 2 rfl) ?_
          refine lv_icmp_ge (tgt := 102) hx hb dX0_start_83 (by decide) (fun hc => ?_) (fun hc => ?_)
          · replace hf := ifp hc hf
            obtain ⟨r0, hf, hz⟩ := ex_inv hf
            rw [hex_80 r0 hz] at hf
            obtain ⟨v1, e_v1, hf⟩ := nm_inv hf
            refine lv_iinc (v := v1) (lv' := [(6, .int v1), (0, .ref (ad 1)), (1, .int y1), (2, .int y2), (7, .int y7)]) hx hb dX0_start_102 hl (k := 3) rfl (by rw [e_v1]; rfl) (by decide) rfl (fun ls hl => ?_)
            refine lv_goto (tgt := 71) hx hb dX0_start_105 (by decide) ?_
            exact ih_71 v1 S_80 _ _ _ (hin_71 _ (Option.some.inj hf).symm) T (lv_sub hl [1, 2, 3, 0] rfl)
          · replace hf := ifn hc hf
            refine lv_aload_n hx hb dX0_start_86 rfl (lv_at hl 0 rfl) ?_
            refine lv_iload hx hb dX0_start_87 (lv_at hl 3 rfl) ?_
            refine lv_iload hx hb dX0_start_89 (lv_at hl 4 rfl) ?_
            refine lv_iload_n hx hb dX0_start_91 rfl (lv_at hl 1 rfl) ?_
            refine lv_iload_n hx hb dX0_start_92 rfl (lv_at hl 2 rfl) ?_
            obtain ⟨S3, h2, hf⟩ := bnd_inv hf
            refine cgs_V (q0 := 14) (ci := 0) (As := [.int y6, .int y7, .int y1, .int y2]) (rest := []) X hX T (kX0_joinNeighbours l t1 t2 D cy ad Xr S_80 y6 y7 y1 y2 S3 h2) (cwV 4 hts gX0_start_X0_joinNeighbours rfl rfl rfl (by decide +kernel) ⟨Nat.le_of_ble_eq_true rfl, Nat.le_of_ble_eq_true rfl⟩) rfl rfl rfl hl.1 rfl (Nat.le_of_ble_eq_true rfl) dX0_start_93 ⟨Nat.zero_le _, Nat.zero_le _⟩ (st2 := []) (pc2 := 96) rfl rfl (fun H locs T => ?_)
            obtain ⟨v4, e_v4, hf⟩ := nm_inv hf
            refine lv_iinc (v := v4) (lv' := [(7, .int v4), (0, .ref (ad 1)), (1, .int y1), (2, .int y2), (6, .int y6)]) hx hb dX0_start_96 hl (k := 4) rfl (by rw [e_v4]; rfl) (by decide) rfl (fun ls hl => ?_)
            refine lv_goto (tgt := 80) hx hb dX0_start_99 (by decide) ?_
            exact ih_80 v4 S3 _ _ _ (hin_80 _ (Option.some.inj hf).symm) T (lv_sub hl [1, 2, 3, 4, 0] rfl)
      refine lv_iload hx hb dX0_start_71 (lv_at hl 3 rfl) ?_
      refine lv_iload_n hx hb dX0_start_73 rfl (lv_at hl 1 rfl) ?_
      refine lv_icmp_ge (tgt := 108) hx hb dX0_start_74 (by decide) (fun hc => ?_) (fun hc => ?_)
      · replace hf := ifp hc hf
        obtain ⟨r0, hf, hz⟩ := ex_inv hf
        rw [hex_71 r0 hz] at hf
        exact rf_vw hf X T hr dX0_start_108
      · replace hf := ifn hc hf
        refine lv_iconst (v := 0) hx hb dX0_start_77 (by decide) ?_
        refine lv_istore (lv' := [(7, .int 0), (0, .ref (ad 1)), (1, .int y1), (2, .int y2), (6, .int y6)]) hx hb dX0_start_78 hl (by decide) rfl (fun ls hl => ?_)
        exact l_80 y6 FUEL 0 S_71 _ _ _ hf T (lv_sub hl [1, 2, 3, 4, 0] rfl)
  refine lv_aload_n hx hb dX0_start_0 rfl (lv_at hl 0 rfl) ?_
  refine lv_iload_n hx hb dX0_start_1 rfl (lv_at hl 1 rfl) ?_
  refine lv_iload_n hx hb dX0_start_2 rfl (lv_at hl 2 rfl) ?_
  refine lv_imul hx hb dX0_start_3 ?_
  obtain ⟨S5, e_S5, hf⟩ := nm_inv hf
  refine va_put (D := D) (ci := 0) (v := .int (x1 * x2)) (ty := .int) (C := RX0) (T := TX0) (N := 13) hx hb hts hin_X0 tyX0 tyX0_ok nmX0 hown hK.1 T.1 T.2.1 T.2.2 14 rfl rfl 5 (by decide) (hts _ (List.mem_of_getElem? (i := 1) rfl)) (fun _ h9 => h9) rfl (by decide +kernel) rfl rfl (Nat.le_of_ble_eq_true rfl) dX0_start_4 (fun H locs hP hD hS => ?_)
  have T : ST D (wC cy ad Xr) A s S5 H locs := ⟨by rw [e_S5]; exact hP, by rw [e_S5]; exact hD, hS⟩
  refine lv_aload_n hx hb dX0_start_7 rfl (lv_at hl 0 rfl) ?_
  refine lv_iload_n hx hb dX0_start_8 rfl (lv_at hl 3 rfl) ?_
  obtain ⟨S6, e_S6, hf⟩ := nm_inv hf
  refine va_put (D := D) (ci := 0) (v := .int x3) (ty := .int) (C := RX0) (T := TX0) (N := 13) hx hb hts hin_X0 tyX0 tyX0_ok nmX0 hown hK.1 T.1 T.2.1 T.2.2 14 rfl rfl 6 (by decide) (hts _ (List.mem_of_getElem? (i := 2) rfl)) (fun _ h9 => h9) rfl (by decide +kernel) rfl rfl (Nat.le_of_ble_eq_true rfl) dX0_start_9 (fun H locs hP hD hS => ?_)
  have T : ST D (wC cy ad Xr) A s S6 H locs := ⟨by rw [e_S6]; exact hP, by rw [e_S6]; exact hD, hS⟩
  refine lv_aload_n hx hb dX0_start_12 rfl (lv_at hl 0 rfl) ?_
  refine lv_iload hx hb dX0_start_13 (lv_at hl 4 rfl) ?_
  obtain ⟨S7, e_S7, hf⟩ := nm_inv hf
  refine va_put (D := D) (ci := 0) (v := .int x4) (ty := .int) (C := RX0) (T := TX0) (N := 13) hx hb hts hin_X0 tyX0 tyX0_ok nmX0 hown hK.1 T.1 T.2.1 T.2.2 14 rfl rfl 7 (by decide) (hts _ (List.mem_of_getElem? (i := 3) rfl)) (fun _ h9 => h9) rfl (by decide +kernel) rfl rfl (Nat.le_of_ble_eq_true rfl) dX0_start_15 (fun H locs hP hD hS => ?_)
  have T : ST D (wC cy ad Xr) A s S7 H locs := ⟨by rw [e_S7]; exact hP, by rw [e_S7]; exact hD, hS⟩
  refine lv_aload_n hx hb dX0_start_18 rfl (lv_at hl 0 rfl) ?_
  refine lv_iload hx hb dX0_start_19 (lv_at hl 5 rfl) ?_
  obtain ⟨S8, e_S8, hf⟩ := nm_inv hf
  refine va_put (D := D) (ci := 0) (v := .int x5) (ty := .int) (C := RX0) (T := TX0) (N := 13) hx hb hts hin_X0 tyX0 tyX0_ok nmX0 hown hK.1 T.1 T.2.1 T.2.2 14 rfl rfl 8 (by decide) (hts _ (List.mem_of_getElem? (i := 4) rfl)) (fun _ h9 => h9) rfl (by decide +kernel) rfl rfl (Nat.le_of_ble_eq_true rfl) dX0_start_21 (fun H locs hP hD hS => ?_)
  have T : ST D (wC cy ad Xr) A s S8 H locs := ⟨by rw [e_S8]; exact hP, by rw [e_S8]; exact hD, hS⟩
  refine lv_aload_n hx hb dX0_start_24 rfl (lv_at hl 0 rfl) ?_
  refine lv_iconst (v := 0) hx hb dX0_start_25 (by decide) ?_
  obtain ⟨S9, e_S9, hf⟩ := nm_inv hf
  refine va_put (D := D) (ci := 0) (v := .int 0) (ty := .int) (C := RX0) (T := TX0) (N := 13) hx hb hts hin_X0 tyX0 tyX0_ok nmX0 hown hK.1 T.1 T.2.1 T.2.2 14 rfl rfl 9 (by decide) (hts _ (List.mem_of_getElem? (i := 5) rfl)) (fun _ h9 => h9) rfl (by decide +kernel) rfl rfl (Nat.le_of_ble_eq_true rfl) dX0_start_26 (fun H locs hP hD hS => ?_)
  have T : ST D (wC cy ad Xr) A s S9 H locs := ⟨by rw [e_S9]; exact hP, by rw [e_S9]; exact hD, hS⟩
  refine lv_aload_n hx hb dX0_start_29 rfl (lv_at hl 0 rfl) ?_
  refine lv_iconst (v := 0) hx hb dX0_start_30 (by decide) ?_
  obtain ⟨S10, e_S10, hf⟩ := nm_inv hf
  refine va_put (D := D) (ci := 0) (v := .int 0) (ty := .int) (C := RX0) (T := TX0) (N := 13) hx hb hts hin_X0 tyX0 tyX0_ok nmX0 hown hK.1 T.1 T.2.1 T.2.2 14 rfl rfl 10 (by decide) (hts _ (List.mem_of_getElem? (i := 6) rfl)) (fun _ h9 => h9) rfl (by decide +kernel) rfl rfl (Nat.le_of_ble_eq_true rfl) dX0_start_31 (fun H locs hP hD hS => ?_)
  have T : ST D (wC cy ad Xr) A s S10 H locs := ⟨by rw [e_S10]; exact hP, by rw [e_S10]; exact hD, hS⟩
  refine lv_aload_n hx hb dX0_start_34 rfl (lv_at hl 0 rfl) ?_
  refine lv_iconst (v := (-1)) hx hb dX0_start_35 (by decide) ?_
  obtain ⟨S11, e_S11, hf⟩ := nm_inv hf
  refine va_put (D := D) (ci := 0) (v := .int (-1)) (ty := .int) (C := RX0) (T := TX0) (N := 13) hx hb hts hin_X0 tyX0 tyX0_ok nmX0 hown hK.1 T.1 T.2.1 T.2.2 14 rfl rfl 11 (by decide) (hts _ (List.mem_of_getElem? (i := 7) rfl)) (fun _ h9 => h9) rfl (by decide +kernel) rfl rfl (Nat.le_of_ble_eq_true rfl) dX0_start_36 (fun H locs hP hD hS => ?_)
  have T : ST D (wC cy ad Xr) A s S11 H locs := ⟨by rw [e_S11]; exact hP, by rw [e_S11]; exact hD, hS⟩
  refine lv_aload_n hx hb dX0_start_39 rfl (lv_at hl 0 rfl) ?_
  refine lv_iconst (v := 0) hx hb dX0_start_40 (by decide) ?_
  obtain ⟨S12, e_S12, hf⟩ := nm_inv hf
  refine va_put (D := D) (ci := 0) (v := .int 0) (ty := .boolean) (C := RX0) (T := TX0) (N := 13) hx hb hts hin_X0 tyX0 tyX0_ok nmX0 hown hK.1 T.1 T.2.1 T.2.2 14 rfl rfl 12 (by decide) (hts _ (List.mem_of_getElem? (i := 8) rfl)) (fun _ h9 => h9) rfl (by decide +kernel) rfl rfl (Nat.le_of_ble_eq_true rfl) dX0_start_41 (fun H locs hP hD hS => ?_)
  have T : ST D (wC cy ad Xr) A s S12 H locs := ⟨by rw [e_S12]; exact hP, by rw [e_S12]; exact hD, hS⟩
  refine lv_aload_n hx hb dX0_start_44 rfl (lv_at hl 0 rfl) ?_
  refine va_get (D := D) (ci := 0) (v := .ref (ad 3)) (C := RX0) (T := TX0) (N := 13) hx hb hts hin_X0 hown hK.1 T.1 14 rfl rfl 1 (by decide) (hts _ (List.mem_of_getElem? (i := 9) rfl)) (fun _ h9 => h9) rfl dX0_start_45 ?_
  refine lv_iconst (v := 0) hx hb dX0_start_48 (by decide) ?_
  obtain ⟨S14, h13, hf⟩ := bnd_inv hf
  refine cg_S (As := [.ref (ad 3), .int 0]) (rest := []) X T (kJ7_fill_53178 l D cy ad Xr 1 S12 0 S14 h13 (by decide)) (va_cwS 2 hts gX0_start_J7_fill_53178 rfl rfl rfl (by decide +kernel) ⟨Nat.le_of_ble_eq_true rfl, Nat.le_of_ble_eq_true rfl⟩) rfl hl.1 rfl (Nat.le_of_ble_eq_true rfl) dX0_start_49 ⟨Nat.zero_le _, Nat.zero_le _⟩ (st2 := []) (pc2 := 52) rfl rfl (fun H locs T => ?_)
  refine lv_aload_n hx hb dX0_start_52 rfl (lv_at hl 0 rfl) ?_
  refine va_get (D := D) (ci := 0) (v := .ref (ad 4)) (C := RX0) (T := TX0) (N := 13) hx hb hts hin_X0 hown hK.1 T.1 14 rfl rfl 2 (by decide) (hts _ (List.mem_of_getElem? (i := 10) rfl)) (fun _ h9 => h9) rfl dX0_start_53 ?_
  refine lv_iconst (v := (-1)) hx hb dX0_start_56 (by decide) ?_
  obtain ⟨S16, h15, hf⟩ := bnd_inv hf
  refine cg_S (As := [.ref (ad 4), .int (-1)]) (rest := []) X T (kJ7_fill_53178 l D cy ad Xr 2 S14 (-1) S16 h15 (by decide)) (va_cwS 2 hts gX0_start_J7_fill_53178 rfl rfl rfl (by decide +kernel) ⟨Nat.le_of_ble_eq_true rfl, Nat.le_of_ble_eq_true rfl⟩) rfl hl.1 rfl (Nat.le_of_ble_eq_true rfl) dX0_start_57 ⟨Nat.zero_le _, Nat.zero_le _⟩ (st2 := []) (pc2 := 60) rfl rfl (fun H locs T => ?_)
  refine lv_aload_n hx hb dX0_start_60 rfl (lv_at hl 0 rfl) ?_
  refine va_get (D := D) (ci := 0) (v := .ref (ad 5)) (C := RX0) (T := TX0) (N := 13) hx hb hts hin_X0 hown hK.1 T.1 14 rfl rfl 3 (by decide) (hts _ (List.mem_of_getElem? (i := 11) rfl)) (fun _ h9 => h9) rfl dX0_start_61 ?_
  refine lv_iconst (v := (-1)) hx hb dX0_start_64 (by decide) ?_
  obtain ⟨S18, h17, hf⟩ := bnd_inv hf
  refine cg_S (As := [.ref (ad 5), .int (-1)]) (rest := []) X T (kJ7_fill_53178 l D cy ad Xr 3 S16 (-1) S18 h17 (by decide)) (va_cwS 2 hts gX0_start_J7_fill_53178 rfl rfl rfl (by decide +kernel) ⟨Nat.le_of_ble_eq_true rfl, Nat.le_of_ble_eq_true rfl⟩) rfl hl.1 rfl (Nat.le_of_ble_eq_true rfl) dX0_start_65 ⟨Nat.zero_le _, Nat.zero_le _⟩ (st2 := []) (pc2 := 68) rfl rfl (fun H locs T => ?_)
  refine lv_iconst (v := 0) hx hb dX0_start_68 (by decide) ?_
  refine lv_istore (lv' := [(6, .int 0), (0, .ref (ad 1)), (1, .int x1), (2, .int x2), (3, .int x3), (4, .int x4), (5, .int x5)]) hx hb dX0_start_69 hl (by decide) rfl (fun ls hl => ?_)
  exact l_71 x1 x2 FUEL 0 S18 _ _ _ hf T (lv_sub hl [1, 2, 3, 0] rfl)
