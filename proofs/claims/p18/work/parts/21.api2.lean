noncomputable def fX3_begin (S : SC) (x1 : Int32) (x2 : Int32) (x3 : Int32) (x4 : Int32) (x5 : Int32) : Option ((Int32 ⊕ Nat) × SC) :=
  bnd (fX3_isOutside S x1 2 5) fun v2 =>
  if v2 = 0 then
    bnd (fX3_isOutside S x2 2 5) fun v4 =>
    if v4 = 0 then
      bnd (fX3_isOutside S x3 1 2) fun v6 =>
      if v6 = 0 then
        if (2 : Int32) * x3 < x1 * x2 then
          bnd (fX3_isOutside S x4 0 6) fun v8 =>
          if v8 = 0 then
            bnd (fX3_isOutside S x5 0 6) fun v10 =>
            if v10 = 0 then
              bnd (fX0_start S x1 x2 x3 x4 x5) fun S12 =>
              some (.inl (S12.1 0), S12)
            else
              some (.inr 0, S)
          else
            some (.inr 0, S)
        else
          some (.inr 0, S)
      else
        some (.inr 0, S)
    else
      some (.inr 0, S)
  else
    some (.inr 0, S)
set_option maxHeartbeats 4000000 in
set_option maxRecDepth 100000 in
theorem kX3_begin (l : Launch) (hfl : l.stackTraces = false) (t1 t2 : Nat) (D : va_G) (cy : Nat → ClassId) (ad : Nat → Nat) (Xr : va_W) (S : SC) (x1 : Int32) (x2 : Int32) (x3 : Int32) (x4 : Int32) (x5 : Int32) (r : ((Int32 ⊕ Nat) × SC)) (hf : fX3_begin S x1 x2 x3 x4 x5 = some r) : CT l t1 t2 D cy (wC cy ad Xr) yX3_begin wsX3_begin ({ frames := 6, cells := 1, slots := 6, locals := 90 } : Room) [.ref (ad 0), .int x1, .int x2, .int x3, .int x4, .int x5] S (resI r.1) r.2 := by
  refine CT.of (cc := cX3_begin) (maxL := 6) (ret := (some .int)) (by decide +kernel) rfl (Nat.le_of_ble_eq_true rfl) ?_
  intro p e s m below meth c A ls X hr T hl hX htab
  obtain ⟨hx, hb, hml, hown, hts, hlk, hK, hA, hwA⟩ := id X
  have hl : lv_has ls 6 [(0, .ref (ad 0)), (1, .int x1), (2, .int x2), (3, .int x3), (4, .int x4), (5, .int x5)] := hl
  have hin_X0 : ∀ w ∈ u_ws RX0 TX0 13, w ∈ wsX3_begin := fun w h => (List.mem_cons_of_mem _ (List.mem_append_left _ (List.mem_append_right _ h)))
  have hin_X3 : ∀ w ∈ u_ws RX3 TX3 3, w ∈ wsX3_begin := fun w h => (List.mem_cons_of_mem _ (List.mem_append_left _ (List.mem_append_left _ (List.mem_append_right _ h))))
  have hg_42 : ∀ w ∈ (vx_atS RX3 42 "java/lang/IllegalArgumentException" ["java/lang/RuntimeException", "java/lang/Exception"]).filter goodWord, w.before [.ref (ad 0), .int x1, .int x2, .int x3, .int x4, .int x5].toArray s = true := fun w h => hts w (List.mem_cons_of_mem _ (List.mem_append_right _ h))
  unfold fX3_begin at hf
  refine lv_iload_n hx hb dX3_begin_0 rfl (lv_at hl 1 rfl) ?_
  refine lv_iconst (v := 2) hx hb dX3_begin_1 (by decide) ?_
  refine lv_iconst (v := 5) hx hb dX3_begin_2 (by decide) ?_
  obtain ⟨v2, h1, hf⟩ := bnd_inv hf
  refine cg_S (As := [.int x1, .int 2, .int 5]) (rest := []) X T (kX3_isOutside l D cy ad Xr S x1 2 5 v2 h1) (va_cwS 3 hts gX3_begin_X3_isOutside rfl rfl rfl (by decide +kernel) ⟨Nat.le_of_ble_eq_true rfl, Nat.le_of_ble_eq_true rfl⟩) rfl hl.1 rfl (Nat.le_of_ble_eq_true rfl) dX3_begin_3 ⟨Nat.le_of_ble_eq_true rfl, Nat.le_of_ble_eq_true rfl⟩ (st2 := [.int v2]) (pc2 := 6) rfl rfl (fun H locs T => ?_)
  refine lv_if_ne (tgt := 18) hx hb dX3_begin_6 (by decide) (fun hc => ?_) (fun hc => ?_)
  · replace hf := ifn hc hf
    refine qIw (Option.some.inj hf).symm ?_
    exact thr_S (ik := 38) (is := 40) (ic := 42) (k := 0) (text := "rows or columns out of range") (cls := "java/lang/IllegalArgumentException") X hX T hfl htab rfl (by decide +kernel) (hts _ (List.mem_of_getElem? (i := 1) rfl)) (hts _ (List.mem_of_getElem? (i := 2) rfl)) (List.mem_of_getElem? (i := 0) rfl) hg_42 (by decide +kernel) (by decide +kernel) hl.1 dX3_begin_18 dX3_begin_21 dX3_begin_22 dX3_begin_24 dX3_begin_27 (Nat.le_of_ble_eq_true rfl) (Nat.le_of_ble_eq_true rfl) (Nat.le_of_ble_eq_true rfl) (Nat.le_of_ble_eq_true rfl) (Nat.le_of_ble_eq_true rfl) (Nat.le_of_ble_eq_true rfl)
  · replace hf := ifp hc hf
    refine lv_iload_n hx hb dX3_begin_9 rfl (lv_at hl 2 rfl) ?_
    refine lv_iconst (v := 2) hx hb dX3_begin_10 (by decide) ?_
    refine lv_iconst (v := 5) hx hb dX3_begin_11 (by decide) ?_
    obtain ⟨v4, h3, hf⟩ := bnd_inv hf
    refine cg_S (As := [.int x2, .int 2, .int 5]) (rest := []) X T (kX3_isOutside l D cy ad Xr S x2 2 5 v4 h3) (va_cwS 3 hts gX3_begin_X3_isOutside rfl rfl rfl (by decide +kernel) ⟨Nat.le_of_ble_eq_true rfl, Nat.le_of_ble_eq_true rfl⟩) rfl hl.1 rfl (Nat.le_of_ble_eq_true rfl) dX3_begin_12 ⟨Nat.le_of_ble_eq_true rfl, Nat.le_of_ble_eq_true rfl⟩ (st2 := [.int v4]) (pc2 := 15) rfl rfl (fun H locs T => ?_)
    refine lv_if_eq (tgt := 28) hx hb dX3_begin_15 (by decide) (fun hc => ?_) (fun hc => ?_)
    · replace hf := ifp hc hf
      refine lv_iload_n hx hb dX3_begin_28 rfl (lv_at hl 3 rfl) ?_
      refine lv_iconst (v := 1) hx hb dX3_begin_29 (by decide) ?_
      refine lv_iconst (v := 2) hx hb dX3_begin_30 (by decide) ?_
      obtain ⟨v6, h5, hf⟩ := bnd_inv hf
      refine cg_S (As := [.int x3, .int 1, .int 2]) (rest := []) X T (kX3_isOutside l D cy ad Xr S x3 1 2 v6 h5) (va_cwS 3 hts gX3_begin_X3_isOutside rfl rfl rfl (by decide +kernel) ⟨Nat.le_of_ble_eq_true rfl, Nat.le_of_ble_eq_true rfl⟩) rfl hl.1 rfl (Nat.le_of_ble_eq_true rfl) dX3_begin_31 ⟨Nat.le_of_ble_eq_true rfl, Nat.le_of_ble_eq_true rfl⟩ (st2 := [.int v6]) (pc2 := 34) rfl rfl (fun H locs T => ?_)
      refine lv_if_ne (tgt := 46) hx hb dX3_begin_34 (by decide) (fun hc => ?_) (fun hc => ?_)
      · replace hf := ifn hc hf
        refine qIw (Option.some.inj hf).symm ?_
        exact thr_S (ik := 38) (is := 45) (ic := 42) (k := 0) (text := "builders out of range, or they leave no cell free") (cls := "java/lang/IllegalArgumentException") X hX T hfl htab rfl (by decide +kernel) (hts _ (List.mem_of_getElem? (i := 1) rfl)) (hts _ (List.mem_of_getElem? (i := 2) rfl)) (List.mem_of_getElem? (i := 1) rfl) hg_42 (by decide +kernel) (by decide +kernel) hl.1 dX3_begin_46 dX3_begin_49 dX3_begin_50 dX3_begin_52 dX3_begin_55 (Nat.le_of_ble_eq_true rfl) (Nat.le_of_ble_eq_true rfl) (Nat.le_of_ble_eq_true rfl) (Nat.le_of_ble_eq_true rfl) (Nat.le_of_ble_eq_true rfl) (Nat.le_of_ble_eq_true rfl)
      · replace hf := ifp hc hf
        refine lv_iconst (v := 2) hx hb dX3_begin_37 (by decide) ?_
        refine lv_iload_n hx hb dX3_begin_38 rfl (lv_at hl 3 rfl) ?_
        refine lv_imul hx hb dX3_begin_39 ?_
        refine lv_iload_n hx hb dX3_begin_40 rfl (lv_at hl 1 rfl) ?_
        refine lv_iload_n hx hb dX3_begin_41 rfl (lv_at hl 2 rfl) ?_
        refine lv_imul hx hb dX3_begin_42 ?_
        refine lv_icmp_lt (tgt := 56) hx hb dX3_begin_43 (by decide) (fun hc => ?_) (fun hc => ?_)
        · replace hf := ifp hc hf
          refine lv_iload hx hb dX3_begin_56 (lv_at hl 4 rfl) ?_
          refine lv_iconst (v := 0) hx hb dX3_begin_58 (by decide) ?_
          refine lv_bipush (v := 6) hx hb dX3_begin_59 (by decide) ?_
          obtain ⟨v8, h7, hf⟩ := bnd_inv hf
          refine cg_S (As := [.int x4, .int 0, .int 6]) (rest := []) X T (kX3_isOutside l D cy ad Xr S x4 0 6 v8 h7) (va_cwS 3 hts gX3_begin_X3_isOutside rfl rfl rfl (by decide +kernel) ⟨Nat.le_of_ble_eq_true rfl, Nat.le_of_ble_eq_true rfl⟩) rfl hl.1 rfl (Nat.le_of_ble_eq_true rfl) dX3_begin_61 ⟨Nat.le_of_ble_eq_true rfl, Nat.le_of_ble_eq_true rfl⟩ (st2 := [.int v8]) (pc2 := 64) rfl rfl (fun H locs T => ?_)
          refine lv_if_ne (tgt := 78) hx hb dX3_begin_64 (by decide) (fun hc => ?_) (fun hc => ?_)
          · replace hf := ifn hc hf
            refine qIw (Option.some.inj hf).symm ?_
            exact thr_S (ik := 38) (is := 47) (ic := 42) (k := 0) (text := "power out of range") (cls := "java/lang/IllegalArgumentException") X hX T hfl htab rfl (by decide +kernel) (hts _ (List.mem_of_getElem? (i := 1) rfl)) (hts _ (List.mem_of_getElem? (i := 2) rfl)) (List.mem_of_getElem? (i := 2) rfl) hg_42 (by decide +kernel) (by decide +kernel) hl.1 dX3_begin_78 dX3_begin_81 dX3_begin_82 dX3_begin_84 dX3_begin_87 (Nat.le_of_ble_eq_true rfl) (Nat.le_of_ble_eq_true rfl) (Nat.le_of_ble_eq_true rfl) (Nat.le_of_ble_eq_true rfl) (Nat.le_of_ble_eq_true rfl) (Nat.le_of_ble_eq_true rfl)
          · replace hf := ifp hc hf
            refine lv_iload hx hb dX3_begin_67 (lv_at hl 5 rfl) ?_
            refine lv_iconst (v := 0) hx hb dX3_begin_69 (by decide) ?_
            refine lv_bipush (v := 6) hx hb dX3_begin_70 (by decide) ?_
            obtain ⟨v10, h9, hf⟩ := bnd_inv hf
            refine cg_S (As := [.int x5, .int 0, .int 6]) (rest := []) X T (kX3_isOutside l D cy ad Xr S x5 0 6 v10 h9) (va_cwS 3 hts gX3_begin_X3_isOutside rfl rfl rfl (by decide +kernel) ⟨Nat.le_of_ble_eq_true rfl, Nat.le_of_ble_eq_true rfl⟩) rfl hl.1 rfl (Nat.le_of_ble_eq_true rfl) dX3_begin_72 ⟨Nat.le_of_ble_eq_true rfl, Nat.le_of_ble_eq_true rfl⟩ (st2 := [.int v10]) (pc2 := 75) rfl rfl (fun H locs T => ?_)
            refine lv_if_eq (tgt := 88) hx hb dX3_begin_75 (by decide) (fun hc => ?_) (fun hc => ?_)
            · replace hf := ifp hc hf
              refine lv_aload_n hx hb dX3_begin_88 rfl (lv_at hl 0 rfl) ?_
              refine va_get (D := D) (ci := 3) (v := .ref (ad 1)) (C := RX3) (T := TX3) (N := 3) hx hb hts hin_X3 hown hK.1 T.1 15 rfl rfl 0 (by decide) (hts _ (List.mem_of_getElem? (i := 3) rfl)) (fun _ h9 => h9) rfl dX3_begin_89 ?_
              refine lv_iload_n hx hb dX3_begin_92 rfl (lv_at hl 1 rfl) ?_
              refine lv_iload_n hx hb dX3_begin_93 rfl (lv_at hl 2 rfl) ?_
              refine lv_iload_n hx hb dX3_begin_94 rfl (lv_at hl 3 rfl) ?_
              refine lv_iload hx hb dX3_begin_95 (lv_at hl 4 rfl) ?_
              refine lv_iload hx hb dX3_begin_97 (lv_at hl 5 rfl) ?_
              obtain ⟨S12, h11, hf⟩ := bnd_inv hf
              refine cgs_V (q0 := 14) (ci := 0) (As := [.int x1, .int x2, .int x3, .int x4, .int x5]) (rest := []) X hX T (kX0_start l t1 t2 D cy ad Xr S x1 x2 x3 x4 x5 S12 h11) (cwV 5 hts gX3_begin_X0_start rfl rfl rfl (by decide +kernel) ⟨Nat.le_of_ble_eq_true rfl, Nat.le_of_ble_eq_true rfl⟩) rfl rfl rfl hl.1 rfl (Nat.le_of_ble_eq_true rfl) dX3_begin_99 ⟨Nat.le_of_ble_eq_true rfl, Nat.le_of_ble_eq_true rfl⟩ (st2 := []) (pc2 := 102) rfl rfl (fun H locs T => ?_)
              refine lv_aload_n hx hb dX3_begin_102 rfl (lv_at hl 0 rfl) ?_
              refine va_get (D := D) (ci := 3) (v := .ref (ad 1)) (C := RX3) (T := TX3) (N := 3) hx hb hts hin_X3 hown hK.1 T.1 15 rfl rfl 0 (by decide) (hts _ (List.mem_of_getElem? (i := 3) rfl)) (fun _ h9 => h9) rfl dX3_begin_103 ?_
              refine va_getN (D := D) (ci := 0) (v := .int (S12.1 0)) (C := RX0) (T := TX0) (N := 13) hx hb hts hin_X0 hown hK.1 T.1 14 rfl rfl 5 (by decide) (va_Nw.use rfl (hK.2 _ (List.mem_of_getElem? (i := 1) rfl))) (fun _ h9 => h9) rfl dX3_begin_106 ?_
              exact tf_iw hf X T hr dX3_begin_109 (Nat.le_of_ble_eq_true rfl) (Nat.le_of_ble_eq_true rfl)
            · replace hf := ifn hc hf
              refine qIw (Option.some.inj hf).symm ?_
              exact thr_S (ik := 38) (is := 47) (ic := 42) (k := 0) (text := "power out of range") (cls := "java/lang/IllegalArgumentException") X hX T hfl htab rfl (by decide +kernel) (hts _ (List.mem_of_getElem? (i := 1) rfl)) (hts _ (List.mem_of_getElem? (i := 2) rfl)) (List.mem_of_getElem? (i := 2) rfl) hg_42 (by decide +kernel) (by decide +kernel) hl.1 dX3_begin_78 dX3_begin_81 dX3_begin_82 dX3_begin_84 dX3_begin_87 (Nat.le_of_ble_eq_true rfl) (Nat.le_of_ble_eq_true rfl) (Nat.le_of_ble_eq_true rfl) (Nat.le_of_ble_eq_true rfl) (Nat.le_of_ble_eq_true rfl) (Nat.le_of_ble_eq_true rfl)
        · replace hf := ifn hc hf
          refine qIw (Option.some.inj hf).symm ?_
          exact thr_S (ik := 38) (is := 45) (ic := 42) (k := 0) (text := "builders out of range, or they leave no cell free") (cls := "java/lang/IllegalArgumentException") X hX T hfl htab rfl (by decide +kernel) (hts _ (List.mem_of_getElem? (i := 1) rfl)) (hts _ (List.mem_of_getElem? (i := 2) rfl)) (List.mem_of_getElem? (i := 1) rfl) hg_42 (by decide +kernel) (by decide +kernel) hl.1 dX3_begin_46 dX3_begin_49 dX3_begin_50 dX3_begin_52 dX3_begin_55 (Nat.le_of_ble_eq_true rfl) (Nat.le_of_ble_eq_true rfl) (Nat.le_of_ble_eq_true rfl) (Nat.le_of_ble_eq_true rfl) (Nat.le_of_ble_eq_true rfl) (Nat.le_of_ble_eq_true rfl)
    · replace hf := ifn hc hf
      refine qIw (Option.some.inj hf).symm ?_
      exact thr_S (ik := 38) (is := 40) (ic := 42) (k := 0) (text := "rows or columns out of range") (cls := "java/lang/IllegalArgumentException") X hX T hfl htab rfl (by decide +kernel) (hts _ (List.mem_of_getElem? (i := 1) rfl)) (hts _ (List.mem_of_getElem? (i := 2) rfl)) (List.mem_of_getElem? (i := 0) rfl) hg_42 (by decide +kernel) (by decide +kernel) hl.1 dX3_begin_18 dX3_begin_21 dX3_begin_22 dX3_begin_24 dX3_begin_27 (Nat.le_of_ble_eq_true rfl) (Nat.le_of_ble_eq_true rfl) (Nat.le_of_ble_eq_true rfl) (Nat.le_of_ble_eq_true rfl) (Nat.le_of_ble_eq_true rfl) (Nat.le_of_ble_eq_true rfl)

noncomputable def fX3_place (S : SC) (x1 : Int32) : Option ((Int32 ⊕ Nat) × SC) :=
  bndxS S (fX3_requireCell S x1) fun v2 =>
  bnd (fX0_isSet S) fun v4 =>
  if v4 = 0 then
    bnd (fX0_isOpen S x1) fun v6 =>
    if v6 = 0 then
      some (.inr 1, S)
    else
      bnd (fX0_addBuilder S x1) fun S8 =>
      bnd (fX0_mover S8) fun v10 =>
      some (.inl v10, S8)
  else
    some (.inr 1, S)
set_option maxHeartbeats 4000000 in
set_option maxRecDepth 100000 in
theorem kX3_place (l : Launch) (hfl : l.stackTraces = false) (t1 t2 : Nat) (D : va_G) (cy : Nat → ClassId) (ad : Nat → Nat) (Xr : va_W) (S : SC) (x1 : Int32) (r : ((Int32 ⊕ Nat) × SC)) (hf : fX3_place S x1 = some r) : CT l t1 t2 D cy (wC cy ad Xr) yX3_place wsX3_place ({ frames := 7, cells := 2, slots := 12, locals := 123 } : Room) [.ref (ad 0), .int x1] S (resI r.1) r.2 := by
  refine CT.of (cc := cX3_place) (maxL := 2) (ret := (some .int)) (by decide +kernel) rfl (Nat.le_of_ble_eq_true rfl) ?_
  intro p e s m below meth c A ls X hr T hl hX htab
  obtain ⟨hx, hb, hml, hown, hts, hlk, hK, hA, hwA⟩ := id X
  have hl : lv_has ls 2 [(0, .ref (ad 0)), (1, .int x1)] := hl
  have hin_X3 : ∀ w ∈ u_ws RX3 TX3 3, w ∈ wsX3_place := fun w h => (List.mem_cons_of_mem _ (List.mem_append_left _ (List.mem_append_left _ (List.mem_append_left _ (List.mem_append_right _ h)))))
  have hg_69 : ∀ w ∈ (vx_atS RX3 69 "java/lang/IllegalStateException" ["java/lang/RuntimeException", "java/lang/Exception"]).filter goodWord, w.before [.ref (ad 0), .int x1].toArray s = true := fun w h => hts w (List.mem_cons_of_mem _ (List.mem_append_left _ (List.mem_append_right _ h)))
  unfold fX3_place at hf
  refine lv_aload_n hx hb dX3_place_0 rfl (lv_at hl 0 rfl) ?_
  refine lv_iload_n hx hb dX3_place_1 rfl (lv_at hl 1 rfl) ?_
  rcases (bndxS_inv hf).symm with ⟨e9, h1, hf⟩ | ⟨v2, h1, hf⟩
  · refine qIw hf ?_
    exact ct_Vx (k := e9) (q0 := 15) (ci := 3) (As := [.int x1]) (rest := []) X hX T (kX3_requireCell l hfl t1 t2 D cy ad Xr S x1 (.inr e9) h1) (cwV 1 hts gX3_place_X3_requireCell rfl rfl rfl (by decide +kernel) ⟨Nat.le_of_ble_eq_true rfl, Nat.le_of_ble_eq_true rfl⟩) rfl rfl rfl hl.1 rfl (Nat.le_of_ble_eq_true rfl) dX3_place_2 ⟨Nat.le_of_ble_eq_true rfl, Nat.le_of_ble_eq_true rfl⟩ htab (Nat.le_of_ble_eq_true rfl) (Nat.le_of_ble_eq_true rfl)
  refine ct_Vi (v := none) (q0 := 15) (ci := 3) (As := [.int x1]) (rest := []) X hX T (kX3_requireCell l hfl t1 t2 D cy ad Xr S x1 (.inl v2) h1) (cwV 1 hts gX3_place_X3_requireCell rfl rfl rfl (by decide +kernel) ⟨Nat.le_of_ble_eq_true rfl, Nat.le_of_ble_eq_true rfl⟩) rfl rfl rfl hl.1 rfl (Nat.le_of_ble_eq_true rfl) dX3_place_2 ⟨Nat.le_of_ble_eq_true rfl, Nat.le_of_ble_eq_true rfl⟩ (st2 := []) (pc2 := 5) (c2 := 1) (s2 := 6) rfl rfl rfl rfl (fun H locs T => ?_)
  refine lv_aload_n hx hb dX3_place_5 rfl (lv_at hl 0 rfl) ?_
  refine va_get (D := D) (ci := 3) (v := .ref (ad 1)) (C := RX3) (T := TX3) (N := 3) hx hb hts hin_X3 hown hK.1 T.1 15 rfl rfl 0 (by decide) (hts _ (List.mem_of_getElem? (i := 3) rfl)) (fun _ h9 => h9) rfl dX3_place_6 ?_
  obtain ⟨v4, h3, hf⟩ := bnd_inv hf
  refine cg_V (q0 := 14) (ci := 0) (As := []) (rest := []) X T (kX0_isSet l D cy ad Xr S v4 h3) (cwV 0 hts gX3_place_X0_isSet rfl rfl rfl (by decide +kernel) ⟨Nat.le_of_ble_eq_true rfl, Nat.le_of_ble_eq_true rfl⟩) rfl rfl rfl hl.1 rfl (Nat.le_of_ble_eq_true rfl) dX3_place_9 ⟨Nat.le_of_ble_eq_true rfl, Nat.le_of_ble_eq_true rfl⟩ (st2 := [.int v4]) (pc2 := 12) rfl rfl (fun H locs T => ?_)
  refine lv_if_ne (tgt := 26) hx hb dX3_place_12 (by decide) (fun hc => ?_) (fun hc => ?_)
  · replace hf := ifn hc hf
    refine qIw (Option.some.inj hf).symm ?_
    exact thr_S (ik := 65) (is := 67) (ic := 69) (k := 1) (text := "no builder can be placed there now") (cls := "java/lang/IllegalStateException") X hX T hfl htab rfl (by decide +kernel) (hts _ (List.mem_of_getElem? (i := 1) rfl)) (hts _ (List.mem_of_getElem? (i := 2) rfl)) (List.mem_of_getElem? (i := 3) rfl) hg_69 (by decide +kernel) (by decide +kernel) hl.1 dX3_place_26 dX3_place_29 dX3_place_30 dX3_place_32 dX3_place_35 (Nat.le_of_ble_eq_true rfl) (Nat.le_of_ble_eq_true rfl) (Nat.le_of_ble_eq_true rfl) (Nat.le_of_ble_eq_true rfl) (Nat.le_of_ble_eq_true rfl) (Nat.le_of_ble_eq_true rfl)
  · replace hf := ifp hc hf
    refine lv_aload_n hx hb dX3_place_15 rfl (lv_at hl 0 rfl) ?_
    refine va_get (D := D) (ci := 3) (v := .ref (ad 1)) (C := RX3) (T := TX3) (N := 3) hx hb hts hin_X3 hown hK.1 T.1 15 rfl rfl 0 (by decide) (hts _ (List.mem_of_getElem? (i := 3) rfl)) (fun _ h9 => h9) rfl dX3_place_16 ?_
    refine lv_iload_n hx hb dX3_place_19 rfl (lv_at hl 1 rfl) ?_
    obtain ⟨v6, h5, hf⟩ := bnd_inv hf
    refine cg_V (q0 := 14) (ci := 0) (As := [.int x1]) (rest := []) X T (kX0_isOpen l D cy ad Xr S x1 v6 h5) (cwV 1 hts gX3_place_X0_isOpen rfl rfl rfl (by decide +kernel) ⟨Nat.le_of_ble_eq_true rfl, Nat.le_of_ble_eq_true rfl⟩) rfl rfl rfl hl.1 rfl (Nat.le_of_ble_eq_true rfl) dX3_place_20 ⟨Nat.le_of_ble_eq_true rfl, Nat.le_of_ble_eq_true rfl⟩ (st2 := [.int v6]) (pc2 := 23) rfl rfl (fun H locs T => ?_)
    refine lv_if_ne (tgt := 36) hx hb dX3_place_23 (by decide) (fun hc => ?_) (fun hc => ?_)
    · replace hf := ifn hc hf
      refine lv_aload_n hx hb dX3_place_36 rfl (lv_at hl 0 rfl) ?_
      refine va_get (D := D) (ci := 3) (v := .ref (ad 1)) (C := RX3) (T := TX3) (N := 3) hx hb hts hin_X3 hown hK.1 T.1 15 rfl rfl 0 (by decide) (hts _ (List.mem_of_getElem? (i := 3) rfl)) (fun _ h9 => h9) rfl dX3_place_37 ?_
      refine lv_iload_n hx hb dX3_place_40 rfl (lv_at hl 1 rfl) ?_
      obtain ⟨S8, h7, hf⟩ := bnd_inv hf
      refine cg_V (q0 := 14) (ci := 0) (As := [.int x1]) (rest := []) X T (kX0_addBuilder l D cy ad Xr S x1 S8 h7) (cwV 1 hts gX3_place_X0_addBuilder rfl rfl rfl (by decide +kernel) ⟨Nat.le_of_ble_eq_true rfl, Nat.le_of_ble_eq_true rfl⟩) rfl rfl rfl hl.1 rfl (Nat.le_of_ble_eq_true rfl) dX3_place_41 ⟨Nat.le_of_ble_eq_true rfl, Nat.le_of_ble_eq_true rfl⟩ (st2 := []) (pc2 := 44) rfl rfl (fun H locs T => ?_)
      refine lv_aload_n hx hb dX3_place_44 rfl (lv_at hl 0 rfl) ?_
      refine va_get (D := D) (ci := 3) (v := .ref (ad 1)) (C := RX3) (T := TX3) (N := 3) hx hb hts hin_X3 hown hK.1 T.1 15 rfl rfl 0 (by decide) (hts _ (List.mem_of_getElem? (i := 3) rfl)) (fun _ h9 => h9) rfl dX3_place_45 ?_
      obtain ⟨v10, h9, hf⟩ := bnd_inv hf
      refine cg_V (q0 := 14) (ci := 0) (As := []) (rest := []) X T (kX0_mover l D cy ad Xr S8 v10 h9) (cwV 0 hts gX3_place_X0_mover rfl rfl rfl (by decide +kernel) ⟨Nat.le_of_ble_eq_true rfl, Nat.le_of_ble_eq_true rfl⟩) rfl rfl rfl hl.1 rfl (Nat.le_of_ble_eq_true rfl) dX3_place_48 ⟨Nat.le_of_ble_eq_true rfl, Nat.le_of_ble_eq_true rfl⟩ (st2 := [.int v10]) (pc2 := 51) rfl rfl (fun H locs T => ?_)
      exact tf_iw hf X T hr dX3_place_51 (Nat.le_of_ble_eq_true rfl) (Nat.le_of_ble_eq_true rfl)
    · replace hf := ifp hc hf
      refine qIw (Option.some.inj hf).symm ?_
      exact thr_S (ik := 65) (is := 67) (ic := 69) (k := 1) (text := "no builder can be placed there now") (cls := "java/lang/IllegalStateException") X hX T hfl htab rfl (by decide +kernel) (hts _ (List.mem_of_getElem? (i := 1) rfl)) (hts _ (List.mem_of_getElem? (i := 2) rfl)) (List.mem_of_getElem? (i := 3) rfl) hg_69 (by decide +kernel) (by decide +kernel) hl.1 dX3_place_26 dX3_place_29 dX3_place_30 dX3_place_32 dX3_place_35 (Nat.le_of_ble_eq_true rfl) (Nat.le_of_ble_eq_true rfl) (Nat.le_of_ble_eq_true rfl) (Nat.le_of_ble_eq_true rfl) (Nat.le_of_ble_eq_true rfl) (Nat.le_of_ble_eq_true rfl)

noncomputable def fX3_raise (S : SC) (x1 : Int32) (x2 : Int32) : Option ((Int32 ⊕ Nat) × SC) :=
  bndxS S (fX3_requireCell S x1) fun v2 =>
  bnd (fX3_isOutside S x2 0 4) fun v4 =>
  if v4 = 0 then
    bnd (fX0_isSet S) fun v6 =>
    if v6 = 0 then
      bnd (fX0_holderOf S x1) fun v8 =>
      if v8 = (-1) then
        bnd (fX0_storeysOf S x1) fun v10 =>
        bnd (fX0_setStoreys S x1 x2) fun S12 =>
        some (.inl v10, S12)
      else
        some (.inr 1, S)
    else
      some (.inr 1, S)
  else
    some (.inr 0, S)
set_option maxHeartbeats 4000000 in
set_option maxRecDepth 100000 in
theorem kX3_raise (l : Launch) (hfl : l.stackTraces = false) (t1 t2 : Nat) (D : va_G) (cy : Nat → ClassId) (ad : Nat → Nat) (Xr : va_W) (S : SC) (x1 : Int32) (x2 : Int32) (r : ((Int32 ⊕ Nat) × SC)) (hf : fX3_raise S x1 x2 = some r) : CT l t1 t2 D cy (wC cy ad Xr) yX3_raise wsX3_raise ({ frames := 7, cells := 2, slots := 12, locals := 111 } : Room) [.ref (ad 0), .int x1, .int x2] S (resI r.1) r.2 := by
  refine CT.of (cc := cX3_raise) (maxL := 4) (ret := (some .int)) (by decide +kernel) rfl (Nat.le_of_ble_eq_true rfl) ?_
  intro p e s m below meth c A ls X hr T hl hX htab
  obtain ⟨hx, hb, hml, hown, hts, hlk, hK, hA, hwA⟩ := id X
  have hl : lv_has ls 4 [(0, .ref (ad 0)), (1, .int x1), (2, .int x2)] := hl
  have hin_X3 : ∀ w ∈ u_ws RX3 TX3 3, w ∈ wsX3_raise := fun w h => (List.mem_cons_of_mem _ (List.mem_append_left _ (List.mem_append_left _ (List.mem_append_left _ (List.mem_append_left _ (List.mem_append_right _ h))))))
  have hg_42 : ∀ w ∈ (vx_atS RX3 42 "java/lang/IllegalArgumentException" ["java/lang/RuntimeException", "java/lang/Exception"]).filter goodWord, w.before [.ref (ad 0), .int x1, .int x2].toArray s = true := fun w h => hts w (List.mem_cons_of_mem _ (List.mem_append_left _ (List.mem_append_left _ (List.mem_append_right _ h))))
  have hg_69 : ∀ w ∈ (vx_atS RX3 69 "java/lang/IllegalStateException" ["java/lang/RuntimeException", "java/lang/Exception"]).filter goodWord, w.before [.ref (ad 0), .int x1, .int x2].toArray s = true := fun w h => hts w (List.mem_cons_of_mem _ (List.mem_append_left _ (List.mem_append_right _ h)))
  unfold fX3_raise at hf
  refine lv_aload_n hx hb dX3_raise_0 rfl (lv_at hl 0 rfl) ?_
  refine lv_iload_n hx hb dX3_raise_1 rfl (lv_at hl 1 rfl) ?_
  rcases (bndxS_inv hf).symm with ⟨e9, h1, hf⟩ | ⟨v2, h1, hf⟩
  · refine qIw hf ?_
    exact ct_Vx (k := e9) (q0 := 15) (ci := 3) (As := [.int x1]) (rest := []) X hX T (kX3_requireCell l hfl t1 t2 D cy ad Xr S x1 (.inr e9) h1) (cwV 1 hts gX3_raise_X3_requireCell rfl rfl rfl (by decide +kernel) ⟨Nat.le_of_ble_eq_true rfl, Nat.le_of_ble_eq_true rfl⟩) rfl rfl rfl hl.1 rfl (Nat.le_of_ble_eq_true rfl) dX3_raise_2 ⟨Nat.le_of_ble_eq_true rfl, Nat.le_of_ble_eq_true rfl⟩ htab (Nat.le_of_ble_eq_true rfl) (Nat.le_of_ble_eq_true rfl)
  refine ct_Vi (v := none) (q0 := 15) (ci := 3) (As := [.int x1]) (rest := []) X hX T (kX3_requireCell l hfl t1 t2 D cy ad Xr S x1 (.inl v2) h1) (cwV 1 hts gX3_raise_X3_requireCell rfl rfl rfl (by decide +kernel) ⟨Nat.le_of_ble_eq_true rfl, Nat.le_of_ble_eq_true rfl⟩) rfl rfl rfl hl.1 rfl (Nat.le_of_ble_eq_true rfl) dX3_raise_2 ⟨Nat.le_of_ble_eq_true rfl, Nat.le_of_ble_eq_true rfl⟩ (st2 := []) (pc2 := 5) (c2 := 1) (s2 := 6) rfl rfl rfl rfl (fun H locs T => ?_)
  refine lv_iload_n hx hb dX3_raise_5 rfl (lv_at hl 2 rfl) ?_
  refine lv_iconst (v := 0) hx hb dX3_raise_6 (by decide) ?_
  refine lv_iconst (v := 4) hx hb dX3_raise_7 (by decide) ?_
  obtain ⟨v4, h3, hf⟩ := bnd_inv hf
  refine cg_S (As := [.int x2, .int 0, .int 4]) (rest := []) X T (kX3_isOutside l D cy ad Xr S x2 0 4 v4 h3) (va_cwS 3 hts gX3_raise_X3_isOutside rfl rfl rfl (by decide +kernel) ⟨Nat.le_of_ble_eq_true rfl, Nat.le_of_ble_eq_true rfl⟩) rfl hl.1 rfl (Nat.le_of_ble_eq_true rfl) dX3_raise_8 ⟨Nat.le_of_ble_eq_true rfl, Nat.le_of_ble_eq_true rfl⟩ (st2 := [.int v4]) (pc2 := 11) rfl rfl (fun H locs T => ?_)
  refine lv_if_eq (tgt := 24) hx hb dX3_raise_11 (by decide) (fun hc => ?_) (fun hc => ?_)
  · replace hf := ifp hc hf
    refine lv_aload_n hx hb dX3_raise_24 rfl (lv_at hl 0 rfl) ?_
    refine va_get (D := D) (ci := 3) (v := .ref (ad 1)) (C := RX3) (T := TX3) (N := 3) hx hb hts hin_X3 hown hK.1 T.1 15 rfl rfl 0 (by decide) (hts _ (List.mem_of_getElem? (i := 5) rfl)) (fun _ h9 => h9) rfl dX3_raise_25 ?_
    obtain ⟨v6, h5, hf⟩ := bnd_inv hf
    refine cg_V (q0 := 14) (ci := 0) (As := []) (rest := []) X T (kX0_isSet l D cy ad Xr S v6 h5) (cwV 0 hts gX3_raise_X0_isSet rfl rfl rfl (by decide +kernel) ⟨Nat.le_of_ble_eq_true rfl, Nat.le_of_ble_eq_true rfl⟩) rfl rfl rfl hl.1 rfl (Nat.le_of_ble_eq_true rfl) dX3_raise_28 ⟨Nat.le_of_ble_eq_true rfl, Nat.le_of_ble_eq_true rfl⟩ (st2 := [.int v6]) (pc2 := 31) rfl rfl (fun H locs T => ?_)
    refine lv_if_ne (tgt := 46) hx hb dX3_raise_31 (by decide) (fun hc => ?_) (fun hc => ?_)
    · replace hf := ifn hc hf
      refine qIw (Option.some.inj hf).symm ?_
      exact thr_S (ik := 65) (is := 83) (ic := 69) (k := 1) (text := "the height cannot be set there now") (cls := "java/lang/IllegalStateException") X hX T hfl htab rfl (by decide +kernel) (hts _ (List.mem_of_getElem? (i := 3) rfl)) (hts _ (List.mem_of_getElem? (i := 4) rfl)) (List.mem_of_getElem? (i := 5) rfl) hg_69 (by decide +kernel) (by decide +kernel) hl.1 dX3_raise_46 dX3_raise_49 dX3_raise_50 dX3_raise_52 dX3_raise_55 (Nat.le_of_ble_eq_true rfl) (Nat.le_of_ble_eq_true rfl) (Nat.le_of_ble_eq_true rfl) (Nat.le_of_ble_eq_true rfl) (Nat.le_of_ble_eq_true rfl) (Nat.le_of_ble_eq_true rfl)
    · replace hf := ifp hc hf
      refine lv_aload_n hx hb dX3_raise_34 rfl (lv_at hl 0 rfl) ?_
      refine va_get (D := D) (ci := 3) (v := .ref (ad 1)) (C := RX3) (T := TX3) (N := 3) hx hb hts hin_X3 hown hK.1 T.1 15 rfl rfl 0 (by decide) (hts _ (List.mem_of_getElem? (i := 5) rfl)) (fun _ h9 => h9) rfl dX3_raise_35 ?_
      refine lv_iload_n hx hb dX3_raise_38 rfl (lv_at hl 1 rfl) ?_
      obtain ⟨v8, h7, hf⟩ := bnd_inv hf
      refine cg_V (q0 := 14) (ci := 0) (As := [.int x1]) (rest := []) X T (kX0_holderOf l D cy ad Xr S x1 v8 h7) (cwV 1 hts gX3_raise_X0_holderOf rfl rfl rfl (by decide +kernel) ⟨Nat.le_of_ble_eq_true rfl, Nat.le_of_ble_eq_true rfl⟩) rfl rfl rfl hl.1 rfl (Nat.le_of_ble_eq_true rfl) dX3_raise_39 ⟨Nat.le_of_ble_eq_true rfl, Nat.le_of_ble_eq_true rfl⟩ (st2 := [.int v8]) (pc2 := 42) rfl rfl (fun H locs T => ?_)
      refine lv_iconst (v := (-1)) hx hb dX3_raise_42 (by decide) ?_
      refine lv_icmp_eq (tgt := 56) hx hb dX3_raise_43 (by decide) (fun hc => ?_) (fun hc => ?_)
      · replace hf := ifp hc hf
        refine lv_aload_n hx hb dX3_raise_56 rfl (lv_at hl 0 rfl) ?_
        refine va_get (D := D) (ci := 3) (v := .ref (ad 1)) (C := RX3) (T := TX3) (N := 3) hx hb hts hin_X3 hown hK.1 T.1 15 rfl rfl 0 (by decide) (hts _ (List.mem_of_getElem? (i := 5) rfl)) (fun _ h9 => h9) rfl dX3_raise_57 ?_
        refine lv_iload_n hx hb dX3_raise_60 rfl (lv_at hl 1 rfl) ?_
        obtain ⟨v10, h9, hf⟩ := bnd_inv hf
        refine cg_V (q0 := 14) (ci := 0) (As := [.int x1]) (rest := []) X T (kX0_storeysOf l D cy ad Xr S x1 v10 h9) (cwV 1 hts gX3_raise_X0_storeysOf rfl rfl rfl (by decide +kernel) ⟨Nat.le_of_ble_eq_true rfl, Nat.le_of_ble_eq_true rfl⟩) rfl rfl rfl hl.1 rfl (Nat.le_of_ble_eq_true rfl) dX3_raise_61 ⟨Nat.le_of_ble_eq_true rfl, Nat.le_of_ble_eq_true rfl⟩ (st2 := [.int v10]) (pc2 := 64) rfl rfl (fun H locs T => ?_)
        refine lv_istore_n (lv' := [(3, .int v10), (0, .ref (ad 0)), (1, .int x1), (2, .int x2)]) hx hb dX3_raise_64 rfl hl (by decide) rfl (fun ls hl => ?_)
        refine lv_aload_n hx hb dX3_raise_65 rfl (lv_at hl 1 rfl) ?_
        refine va_get (D := D) (ci := 3) (v := .ref (ad 1)) (C := RX3) (T := TX3) (N := 3) hx hb hts hin_X3 hown hK.1 T.1 15 rfl rfl 0 (by decide) (hts _ (List.mem_of_getElem? (i := 5) rfl)) (fun _ h9 => h9) rfl dX3_raise_66 ?_
        refine lv_iload_n hx hb dX3_raise_69 rfl (lv_at hl 2 rfl) ?_
        refine lv_iload_n hx hb dX3_raise_70 rfl (lv_at hl 3 rfl) ?_
        obtain ⟨S12, h11, hf⟩ := bnd_inv hf
        refine cg_V (q0 := 14) (ci := 0) (As := [.int x1, .int x2]) (rest := []) X T (kX0_setStoreys l D cy ad Xr S x1 x2 S12 h11) (cwV 2 hts gX3_raise_X0_setStoreys rfl rfl rfl (by decide +kernel) ⟨Nat.le_of_ble_eq_true rfl, Nat.le_of_ble_eq_true rfl⟩) rfl rfl rfl hl.1 rfl (Nat.le_of_ble_eq_true rfl) dX3_raise_71 ⟨Nat.le_of_ble_eq_true rfl, Nat.le_of_ble_eq_true rfl⟩ (st2 := []) (pc2 := 74) rfl rfl (fun H locs T => ?_)
        refine lv_iload_n hx hb dX3_raise_74 rfl (lv_at hl 0 rfl) ?_
        exact tf_iw hf X T hr dX3_raise_75 (Nat.le_of_ble_eq_true rfl) (Nat.le_of_ble_eq_true rfl)
      · replace hf := ifn hc hf
        refine qIw (Option.some.inj hf).symm ?_
        exact thr_S (ik := 65) (is := 83) (ic := 69) (k := 1) (text := "the height cannot be set there now") (cls := "java/lang/IllegalStateException") X hX T hfl htab rfl (by decide +kernel) (hts _ (List.mem_of_getElem? (i := 3) rfl)) (hts _ (List.mem_of_getElem? (i := 4) rfl)) (List.mem_of_getElem? (i := 5) rfl) hg_69 (by decide +kernel) (by decide +kernel) hl.1 dX3_raise_46 dX3_raise_49 dX3_raise_50 dX3_raise_52 dX3_raise_55 (Nat.le_of_ble_eq_true rfl) (Nat.le_of_ble_eq_true rfl) (Nat.le_of_ble_eq_true rfl) (Nat.le_of_ble_eq_true rfl) (Nat.le_of_ble_eq_true rfl) (Nat.le_of_ble_eq_true rfl)
  · replace hf := ifn hc hf
    refine qIw (Option.some.inj hf).symm ?_
    exact thr_S (ik := 38) (is := 77) (ic := 42) (k := 0) (text := "height out of range") (cls := "java/lang/IllegalArgumentException") X hX T hfl htab rfl (by decide +kernel) (hts _ (List.mem_of_getElem? (i := 1) rfl)) (hts _ (List.mem_of_getElem? (i := 2) rfl)) (List.mem_of_getElem? (i := 4) rfl) hg_42 (by decide +kernel) (by decide +kernel) hl.1 dX3_raise_14 dX3_raise_17 dX3_raise_18 dX3_raise_20 dX3_raise_23 (Nat.le_of_ble_eq_true rfl) (Nat.le_of_ble_eq_true rfl) (Nat.le_of_ble_eq_true rfl) (Nat.le_of_ble_eq_true rfl) (Nat.le_of_ble_eq_true rfl) (Nat.le_of_ble_eq_true rfl)

noncomputable def fX3_turnCount (S : SC) : Option ((Int32 ⊕ Nat) × SC) :=
  bndxS S (fX3_requireAllPlaced S) fun v2 =>
  bnd (fX0_listTurns S 0) fun S4 =>
  some (.inl (S4.1 8), S4)
set_option maxHeartbeats 4000000 in
set_option maxRecDepth 100000 in
theorem kX3_turnCount (l : Launch) (hfl : l.stackTraces = false) (t1 t2 : Nat) (D : va_G) (cy : Nat → ClassId) (ad : Nat → Nat) (Xr : va_W) (S : SC) (r : ((Int32 ⊕ Nat) × SC)) (hf : fX3_turnCount S = some r) : CT l t1 t2 D cy (wC cy ad Xr) yX3_turnCount wsX3_turnCount ({ frames := 7, cells := 1, slots := 6, locals := 130 } : Room) [.ref (ad 0)] S (resI r.1) r.2 := by
  refine CT.of (cc := cX3_turnCount) (maxL := 1) (ret := (some .int)) (by decide +kernel) rfl (Nat.le_of_ble_eq_true rfl) ?_
  intro p e s m below meth c A ls X hr T hl hX htab
  obtain ⟨hx, hb, hml, hown, hts, hlk, hK, hA, hwA⟩ := id X
  have hl : lv_has ls 1 [(0, .ref (ad 0))] := hl
  have hin_X2 : ∀ w ∈ u_ws RX2 TX2 2, w ∈ wsX3_turnCount := fun w h => (List.mem_cons_of_mem _ (List.mem_append_left _ (List.mem_append_left _ (List.mem_append_right _ h))))
  have hin_X3 : ∀ w ∈ u_ws RX3 TX3 3, w ∈ wsX3_turnCount := fun w h => (List.mem_cons_of_mem _ (List.mem_append_left _ (List.mem_append_left _ (List.mem_append_left _ (List.mem_append_right _ h)))))
  unfold fX3_turnCount at hf
  refine lv_aload_n hx hb dX3_turnCount_0 rfl (lv_at hl 0 rfl) ?_
  rcases (bndxS_inv hf).symm with ⟨e9, h1, hf⟩ | ⟨v2, h1, hf⟩
  · refine qIw hf ?_
    exact ct_Vx (k := e9) (q0 := 15) (ci := 3) (As := []) (rest := []) X hX T (kX3_requireAllPlaced l hfl t1 t2 D cy ad Xr S (.inr e9) h1) (cwV 0 hts gX3_turnCount_X3_requireAllPlaced rfl rfl rfl (by decide +kernel) ⟨Nat.le_of_ble_eq_true rfl, Nat.le_of_ble_eq_true rfl⟩) rfl rfl rfl hl.1 rfl (Nat.le_of_ble_eq_true rfl) dX3_turnCount_1 ⟨Nat.le_of_ble_eq_true rfl, Nat.le_of_ble_eq_true rfl⟩ htab (Nat.le_of_ble_eq_true rfl) (Nat.le_of_ble_eq_true rfl)
  refine ct_Vi (v := none) (q0 := 15) (ci := 3) (As := []) (rest := []) X hX T (kX3_requireAllPlaced l hfl t1 t2 D cy ad Xr S (.inl v2) h1) (cwV 0 hts gX3_turnCount_X3_requireAllPlaced rfl rfl rfl (by decide +kernel) ⟨Nat.le_of_ble_eq_true rfl, Nat.le_of_ble_eq_true rfl⟩) rfl rfl rfl hl.1 rfl (Nat.le_of_ble_eq_true rfl) dX3_turnCount_1 ⟨Nat.le_of_ble_eq_true rfl, Nat.le_of_ble_eq_true rfl⟩ (st2 := []) (pc2 := 4) (c2 := 1) (s2 := 6) rfl rfl rfl rfl (fun H locs T => ?_)
  refine lv_aload_n hx hb dX3_turnCount_4 rfl (lv_at hl 0 rfl) ?_
  refine va_get (D := D) (ci := 3) (v := .ref (ad 1)) (C := RX3) (T := TX3) (N := 3) hx hb hts hin_X3 hown hK.1 T.1 15 rfl rfl 0 (by decide) (hts _ (List.mem_of_getElem? (i := 1) rfl)) (fun _ h9 => h9) rfl dX3_turnCount_5 ?_
  refine lv_aload_n hx hb dX3_turnCount_8 rfl (lv_at hl 0 rfl) ?_
  refine va_get (D := D) (ci := 3) (v := .ref (ad 7)) (C := RX3) (T := TX3) (N := 3) hx hb hts hin_X3 hown hK.1 T.1 15 rfl rfl 1 (by decide) (hts _ (List.mem_of_getElem? (i := 2) rfl)) (fun _ h9 => h9) rfl dX3_turnCount_9 ?_
  obtain ⟨S4, h3, hf⟩ := bnd_inv hf
  refine cg_V (q0 := 14) (ci := 0) (As := [.ref (ad 7)]) (rest := []) X T (kX0_listTurns l D cy ad Xr S 0 S4 h3 (by decide)) (cwV 1 hts gX3_turnCount_X0_listTurns rfl rfl rfl (by decide +kernel) ⟨Nat.le_of_ble_eq_true rfl, Nat.le_of_ble_eq_true rfl⟩) rfl rfl rfl hl.1 rfl (Nat.le_of_ble_eq_true rfl) dX3_turnCount_12 ⟨Nat.le_of_ble_eq_true rfl, Nat.le_of_ble_eq_true rfl⟩ (st2 := []) (pc2 := 15) rfl rfl (fun H locs T => ?_)
  refine lv_aload_n hx hb dX3_turnCount_15 rfl (lv_at hl 0 rfl) ?_
  refine va_get (D := D) (ci := 3) (v := .ref (ad 7)) (C := RX3) (T := TX3) (N := 3) hx hb hts hin_X3 hown hK.1 T.1 15 rfl rfl 1 (by decide) (hts _ (List.mem_of_getElem? (i := 2) rfl)) (fun _ h9 => h9) rfl dX3_turnCount_16 ?_
  refine va_getN (D := D) (ci := 2) (v := .int (S4.1 8)) (C := RX2) (T := TX2) (N := 2) hx hb hts hin_X2 hown hK.1 T.1 8 rfl rfl 1 (by decide) (va_Nw.use rfl (hK.2 _ (List.mem_of_getElem? (i := 0) rfl))) (fun _ h9 => h9) rfl dX3_turnCount_19 ?_
  exact tf_iw hf X T hr dX3_turnCount_22 (Nat.le_of_ble_eq_true rfl) (Nat.le_of_ble_eq_true rfl)

noncomputable def fX3_turnAt (S : SC) (x1 : Int32) : Option ((Int32 ⊕ Nat) × SC) :=
  bndxS S (fX3_requireAllPlaced S) fun v2 =>
  bnd (fX0_listTurns S 0) fun S4 =>
  bnd (fX3_isOutside S4 x1 0 ((S4.1 8) - 1)) fun v6 =>
  if v6 = 0 then
    bnd (fX2_at S4 0 x1) fun v8 =>
    some (.inl v8, S4)
  else
    some (.inr 2, S4)
set_option maxHeartbeats 4000000 in
set_option maxRecDepth 100000 in
theorem kX3_turnAt (l : Launch) (hfl : l.stackTraces = false) (t1 t2 : Nat) (D : va_G) (cy : Nat → ClassId) (ad : Nat → Nat) (Xr : va_W) (S : SC) (x1 : Int32) (r : ((Int32 ⊕ Nat) × SC)) (hf : fX3_turnAt S x1 = some r) : CT l t1 t2 D cy (wC cy ad Xr) yX3_turnAt wsX3_turnAt ({ frames := 7, cells := 2, slots := 12, locals := 130 } : Room) [.ref (ad 0), .int x1] S (resI r.1) r.2 := by
  refine CT.of (cc := cX3_turnAt) (maxL := 2) (ret := (some .int)) (by decide +kernel) rfl (Nat.le_of_ble_eq_true rfl) ?_
  intro p e s m below meth c A ls X hr T hl hX htab
  obtain ⟨hx, hb, hml, hown, hts, hlk, hK, hA, hwA⟩ := id X
  have hl : lv_has ls 2 [(0, .ref (ad 0)), (1, .int x1)] := hl
  have hin_X2 : ∀ w ∈ u_ws RX2 TX2 2, w ∈ wsX3_turnAt := fun w h => (List.mem_cons_of_mem _ (List.mem_append_left _ (List.mem_append_left _ (List.mem_append_left _ (List.mem_append_right _ h)))))
  have hin_X3 : ∀ w ∈ u_ws RX3 TX3 3, w ∈ wsX3_turnAt := fun w h => (List.mem_cons_of_mem _ (List.mem_append_left _ (List.mem_append_left _ (List.mem_append_left _ (List.mem_append_left _ (List.mem_append_right _ h))))))
  have hg_112 : ∀ w ∈ (vx_atS RX3 112 "java/lang/IndexOutOfBoundsException" ["java/lang/RuntimeException", "java/lang/Exception"]).filter goodWord, w.before [.ref (ad 0), .int x1].toArray s = true := fun w h => hts w (List.mem_cons_of_mem _ (List.mem_append_left _ (List.mem_append_right _ h)))
  unfold fX3_turnAt at hf
  refine lv_aload_n hx hb dX3_turnAt_0 rfl (lv_at hl 0 rfl) ?_
  rcases (bndxS_inv hf).symm with ⟨e9, h1, hf⟩ | ⟨v2, h1, hf⟩
  · refine qIw hf ?_
    exact ct_Vx (k := e9) (q0 := 15) (ci := 3) (As := []) (rest := []) X hX T (kX3_requireAllPlaced l hfl t1 t2 D cy ad Xr S (.inr e9) h1) (cwV 0 hts gX3_turnAt_X3_requireAllPlaced rfl rfl rfl (by decide +kernel) ⟨Nat.le_of_ble_eq_true rfl, Nat.le_of_ble_eq_true rfl⟩) rfl rfl rfl hl.1 rfl (Nat.le_of_ble_eq_true rfl) dX3_turnAt_1 ⟨Nat.le_of_ble_eq_true rfl, Nat.le_of_ble_eq_true rfl⟩ htab (Nat.le_of_ble_eq_true rfl) (Nat.le_of_ble_eq_true rfl)
  refine ct_Vi (v := none) (q0 := 15) (ci := 3) (As := []) (rest := []) X hX T (kX3_requireAllPlaced l hfl t1 t2 D cy ad Xr S (.inl v2) h1) (cwV 0 hts gX3_turnAt_X3_requireAllPlaced rfl rfl rfl (by decide +kernel) ⟨Nat.le_of_ble_eq_true rfl, Nat.le_of_ble_eq_true rfl⟩) rfl rfl rfl hl.1 rfl (Nat.le_of_ble_eq_true rfl) dX3_turnAt_1 ⟨Nat.le_of_ble_eq_true rfl, Nat.le_of_ble_eq_true rfl⟩ (st2 := []) (pc2 := 4) (c2 := 1) (s2 := 6) rfl rfl rfl rfl (fun H locs T => ?_)
  refine lv_aload_n hx hb dX3_turnAt_4 rfl (lv_at hl 0 rfl) ?_
  refine va_get (D := D) (ci := 3) (v := .ref (ad 1)) (C := RX3) (T := TX3) (N := 3) hx hb hts hin_X3 hown hK.1 T.1 15 rfl rfl 0 (by decide) (hts _ (List.mem_of_getElem? (i := 3) rfl)) (fun _ h9 => h9) rfl dX3_turnAt_5 ?_
  refine lv_aload_n hx hb dX3_turnAt_8 rfl (lv_at hl 0 rfl) ?_
  refine va_get (D := D) (ci := 3) (v := .ref (ad 7)) (C := RX3) (T := TX3) (N := 3) hx hb hts hin_X3 hown hK.1 T.1 15 rfl rfl 1 (by decide) (hts _ (List.mem_of_getElem? (i := 4) rfl)) (fun _ h9 => h9) rfl dX3_turnAt_9 ?_
  obtain ⟨S4, h3, hf⟩ := bnd_inv hf
  refine cg_V (q0 := 14) (ci := 0) (As := [.ref (ad 7)]) (rest := []) X T (kX0_listTurns l D cy ad Xr S 0 S4 h3 (by decide)) (cwV 1 hts gX3_turnAt_X0_listTurns rfl rfl rfl (by decide +kernel) ⟨Nat.le_of_ble_eq_true rfl, Nat.le_of_ble_eq_true rfl⟩) rfl rfl rfl hl.1 rfl (Nat.le_of_ble_eq_true rfl) dX3_turnAt_12 ⟨Nat.le_of_ble_eq_true rfl, Nat.le_of_ble_eq_true rfl⟩ (st2 := []) (pc2 := 15) rfl rfl (fun H locs T => ?_)
  refine lv_iload_n hx hb dX3_turnAt_15 rfl (lv_at hl 1 rfl) ?_
  refine lv_iconst (v := 0) hx hb dX3_turnAt_16 (by decide) ?_
  refine lv_aload_n hx hb dX3_turnAt_17 rfl (lv_at hl 0 rfl) ?_
  refine va_get (D := D) (ci := 3) (v := .ref (ad 7)) (C := RX3) (T := TX3) (N := 3) hx hb hts hin_X3 hown hK.1 T.1 15 rfl rfl 1 (by decide) (hts _ (List.mem_of_getElem? (i := 4) rfl)) (fun _ h9 => h9) rfl dX3_turnAt_18 ?_
  refine va_getN (D := D) (ci := 2) (v := .int (S4.1 8)) (C := RX2) (T := TX2) (N := 2) hx hb hts hin_X2 hown hK.1 T.1 8 rfl rfl 1 (by decide) (va_Nw.use rfl (hK.2 _ (List.mem_of_getElem? (i := 0) rfl))) (fun _ h9 => h9) rfl dX3_turnAt_21 ?_
  refine lv_iconst (v := 1) hx hb dX3_turnAt_24 (by decide) ?_
  refine lv_isub hx hb dX3_turnAt_25 ?_
  obtain ⟨v6, h5, hf⟩ := bnd_inv hf
  refine cg_S (As := [.int x1, .int 0, .int ((S4.1 8) - 1)]) (rest := []) X T (kX3_isOutside l D cy ad Xr S4 x1 0 ((S4.1 8) - 1) v6 h5) (va_cwS 3 hts gX3_turnAt_X3_isOutside rfl rfl rfl (by decide +kernel) ⟨Nat.le_of_ble_eq_true rfl, Nat.le_of_ble_eq_true rfl⟩) rfl hl.1 rfl (Nat.le_of_ble_eq_true rfl) dX3_turnAt_26 ⟨Nat.le_of_ble_eq_true rfl, Nat.le_of_ble_eq_true rfl⟩ (st2 := [.int v6]) (pc2 := 29) rfl rfl (fun H locs T => ?_)
  refine lv_if_eq (tgt := 42) hx hb dX3_turnAt_29 (by decide) (fun hc => ?_) (fun hc => ?_)
  · replace hf := ifp hc hf
    refine lv_aload_n hx hb dX3_turnAt_42 rfl (lv_at hl 0 rfl) ?_
    refine va_get (D := D) (ci := 3) (v := .ref (ad 7)) (C := RX3) (T := TX3) (N := 3) hx hb hts hin_X3 hown hK.1 T.1 15 rfl rfl 1 (by decide) (hts _ (List.mem_of_getElem? (i := 4) rfl)) (fun _ h9 => h9) rfl dX3_turnAt_43 ?_
    refine lv_iload_n hx hb dX3_turnAt_46 rfl (lv_at hl 1 rfl) ?_
    obtain ⟨v8, h7, hf⟩ := bnd_inv hf
    refine cg_V (q0 := 8) (ci := 2) (As := [.int x1]) (rest := []) X T (kX2_at l D cy ad Xr S4 0 x1 v8 h7 (by decide)) (cwV 1 hts gX3_turnAt_X2_at rfl rfl rfl (by decide +kernel) ⟨Nat.le_of_ble_eq_true rfl, Nat.le_of_ble_eq_true rfl⟩) rfl rfl rfl hl.1 rfl (Nat.le_of_ble_eq_true rfl) dX3_turnAt_47 ⟨Nat.le_of_ble_eq_true rfl, Nat.le_of_ble_eq_true rfl⟩ (st2 := [.int v8]) (pc2 := 50) rfl rfl (fun H locs T => ?_)
    exact tf_iw hf X T hr dX3_turnAt_50 (Nat.le_of_ble_eq_true rfl) (Nat.le_of_ble_eq_true rfl)
  · replace hf := ifn hc hf
    refine qIw (Option.some.inj hf).symm ?_
    exact thr_S (ik := 108) (is := 110) (ic := 112) (k := 2) (text := "no such place") (cls := "java/lang/IndexOutOfBoundsException") X hX T hfl htab rfl (by decide +kernel) (hts _ (List.mem_of_getElem? (i := 1) rfl)) (hts _ (List.mem_of_getElem? (i := 2) rfl)) (List.mem_of_getElem? (i := 6) rfl) hg_112 (by decide +kernel) (by decide +kernel) hl.1 dX3_turnAt_32 dX3_turnAt_35 dX3_turnAt_36 dX3_turnAt_38 dX3_turnAt_41 (Nat.le_of_ble_eq_true rfl) (Nat.le_of_ble_eq_true rfl) (Nat.le_of_ble_eq_true rfl) (Nat.le_of_ble_eq_true rfl) (Nat.le_of_ble_eq_true rfl) (Nat.le_of_ble_eq_true rfl)

noncomputable def fX3_play (S : SC) (x1 : Int32) : Option ((Int32 ⊕ Nat) × SC) :=
  bndxS S (fX3_requireAllPlaced S) fun v2 =>
  bnd (fX0_listTurns S 0) fun S4 =>
  bnd (fX2_holds S4 0 x1) fun v6 =>
  if v6 = 0 then
    some (.inr 1, S4)
  else
    bnd (fX0_perform S4 x1) fun S8 =>
    some (.inl (S8.1 6), S8)
set_option maxHeartbeats 4000000 in
set_option maxRecDepth 100000 in
theorem kX3_play (l : Launch) (hfl : l.stackTraces = false) (t1 t2 : Nat) (D : va_G) (cy : Nat → ClassId) (ad : Nat → Nat) (Xr : va_W) (S : SC) (x1 : Int32) (r : ((Int32 ⊕ Nat) × SC)) (hf : fX3_play S x1 = some r) : CT l t1 t2 D cy (wC cy ad Xr) yX3_play wsX3_play ({ frames := 7, cells := 2, slots := 12, locals := 130 } : Room) [.ref (ad 0), .int x1] S (resI r.1) r.2 := by
  refine CT.of (cc := cX3_play) (maxL := 2) (ret := (some .int)) (by decide +kernel) rfl (Nat.le_of_ble_eq_true rfl) ?_
  intro p e s m below meth c A ls X hr T hl hX htab
  obtain ⟨hx, hb, hml, hown, hts, hlk, hK, hA, hwA⟩ := id X
  have hl : lv_has ls 2 [(0, .ref (ad 0)), (1, .int x1)] := hl
  have hin_X0 : ∀ w ∈ u_ws RX0 TX0 13, w ∈ wsX3_play := fun w h => (List.mem_cons_of_mem _ (List.mem_append_left _ (List.mem_append_left _ (List.mem_append_right _ h))))
  have hin_X3 : ∀ w ∈ u_ws RX3 TX3 3, w ∈ wsX3_play := fun w h => (List.mem_cons_of_mem _ (List.mem_append_left _ (List.mem_append_left _ (List.mem_append_left _ (List.mem_append_right _ h)))))
  have hg_69 : ∀ w ∈ (vx_atS RX3 69 "java/lang/IllegalStateException" ["java/lang/RuntimeException", "java/lang/Exception"]).filter goodWord, w.before [.ref (ad 0), .int x1].toArray s = true := fun w h => hts w (List.mem_cons_of_mem _ (List.mem_append_right _ h))
  unfold fX3_play at hf
  refine lv_aload_n hx hb dX3_play_0 rfl (lv_at hl 0 rfl) ?_
  rcases (bndxS_inv hf).symm with ⟨e9, h1, hf⟩ | ⟨v2, h1, hf⟩
  · refine qIw hf ?_
    exact ct_Vx (k := e9) (q0 := 15) (ci := 3) (As := []) (rest := []) X hX T (kX3_requireAllPlaced l hfl t1 t2 D cy ad Xr S (.inr e9) h1) (cwV 0 hts gX3_play_X3_requireAllPlaced rfl rfl rfl (by decide +kernel) ⟨Nat.le_of_ble_eq_true rfl, Nat.le_of_ble_eq_true rfl⟩) rfl rfl rfl hl.1 rfl (Nat.le_of_ble_eq_true rfl) dX3_play_1 ⟨Nat.le_of_ble_eq_true rfl, Nat.le_of_ble_eq_true rfl⟩ htab (Nat.le_of_ble_eq_true rfl) (Nat.le_of_ble_eq_true rfl)
  refine ct_Vi (v := none) (q0 := 15) (ci := 3) (As := []) (rest := []) X hX T (kX3_requireAllPlaced l hfl t1 t2 D cy ad Xr S (.inl v2) h1) (cwV 0 hts gX3_play_X3_requireAllPlaced rfl rfl rfl (by decide +kernel) ⟨Nat.le_of_ble_eq_true rfl, Nat.le_of_ble_eq_true rfl⟩) rfl rfl rfl hl.1 rfl (Nat.le_of_ble_eq_true rfl) dX3_play_1 ⟨Nat.le_of_ble_eq_true rfl, Nat.le_of_ble_eq_true rfl⟩ (st2 := []) (pc2 := 4) (c2 := 1) (s2 := 6) rfl rfl rfl rfl (fun H locs T => ?_)
  refine lv_aload_n hx hb dX3_play_4 rfl (lv_at hl 0 rfl) ?_
  refine va_get (D := D) (ci := 3) (v := .ref (ad 1)) (C := RX3) (T := TX3) (N := 3) hx hb hts hin_X3 hown hK.1 T.1 15 rfl rfl 0 (by decide) (hts _ (List.mem_of_getElem? (i := 3) rfl)) (fun _ h9 => h9) rfl dX3_play_5 ?_
  refine lv_aload_n hx hb dX3_play_8 rfl (lv_at hl 0 rfl) ?_
  refine va_get (D := D) (ci := 3) (v := .ref (ad 7)) (C := RX3) (T := TX3) (N := 3) hx hb hts hin_X3 hown hK.1 T.1 15 rfl rfl 1 (by decide) (hts _ (List.mem_of_getElem? (i := 4) rfl)) (fun _ h9 => h9) rfl dX3_play_9 ?_
  obtain ⟨S4, h3, hf⟩ := bnd_inv hf
  refine cg_V (q0 := 14) (ci := 0) (As := [.ref (ad 7)]) (rest := []) X T (kX0_listTurns l D cy ad Xr S 0 S4 h3 (by decide)) (cwV 1 hts gX3_play_X0_listTurns rfl rfl rfl (by decide +kernel) ⟨Nat.le_of_ble_eq_true rfl, Nat.le_of_ble_eq_true rfl⟩) rfl rfl rfl hl.1 rfl (Nat.le_of_ble_eq_true rfl) dX3_play_12 ⟨Nat.le_of_ble_eq_true rfl, Nat.le_of_ble_eq_true rfl⟩ (st2 := []) (pc2 := 15) rfl rfl (fun H locs T => ?_)
  refine lv_aload_n hx hb dX3_play_15 rfl (lv_at hl 0 rfl) ?_
  refine va_get (D := D) (ci := 3) (v := .ref (ad 7)) (C := RX3) (T := TX3) (N := 3) hx hb hts hin_X3 hown hK.1 T.1 15 rfl rfl 1 (by decide) (hts _ (List.mem_of_getElem? (i := 4) rfl)) (fun _ h9 => h9) rfl dX3_play_16 ?_
  refine lv_iload_n hx hb dX3_play_19 rfl (lv_at hl 1 rfl) ?_
  obtain ⟨v6, h5, hf⟩ := bnd_inv hf
  refine cg_V (q0 := 8) (ci := 2) (As := [.int x1]) (rest := []) X T (kX2_holds l D cy ad Xr S4 0 x1 v6 h5 (by decide)) (cwV 1 hts gX3_play_X2_holds rfl rfl rfl (by decide +kernel) ⟨Nat.le_of_ble_eq_true rfl, Nat.le_of_ble_eq_true rfl⟩) rfl rfl rfl hl.1 rfl (Nat.le_of_ble_eq_true rfl) dX3_play_20 ⟨Nat.le_of_ble_eq_true rfl, Nat.le_of_ble_eq_true rfl⟩ (st2 := [.int v6]) (pc2 := 23) rfl rfl (fun H locs T => ?_)
  refine lv_if_ne (tgt := 36) hx hb dX3_play_23 (by decide) (fun hc => ?_) (fun hc => ?_)
  · replace hf := ifn hc hf
    refine lv_aload_n hx hb dX3_play_36 rfl (lv_at hl 0 rfl) ?_
    refine va_get (D := D) (ci := 3) (v := .ref (ad 1)) (C := RX3) (T := TX3) (N := 3) hx hb hts hin_X3 hown hK.1 T.1 15 rfl rfl 0 (by decide) (hts _ (List.mem_of_getElem? (i := 3) rfl)) (fun _ h9 => h9) rfl dX3_play_37 ?_
    refine lv_iload_n hx hb dX3_play_40 rfl (lv_at hl 1 rfl) ?_
    obtain ⟨S8, h7, hf⟩ := bnd_inv hf
    refine cg_V (q0 := 14) (ci := 0) (As := [.int x1]) (rest := []) X T (kX0_perform l D cy ad Xr S4 x1 S8 h7) (cwV 1 hts gX3_play_X0_perform rfl rfl rfl (by decide +kernel) ⟨Nat.le_of_ble_eq_true rfl, Nat.le_of_ble_eq_true rfl⟩) rfl rfl rfl hl.1 rfl (Nat.le_of_ble_eq_true rfl) dX3_play_41 ⟨Nat.le_of_ble_eq_true rfl, Nat.le_of_ble_eq_true rfl⟩ (st2 := []) (pc2 := 44) rfl rfl (fun H locs T => ?_)
    refine lv_aload_n hx hb dX3_play_44 rfl (lv_at hl 0 rfl) ?_
    refine va_get (D := D) (ci := 3) (v := .ref (ad 1)) (C := RX3) (T := TX3) (N := 3) hx hb hts hin_X3 hown hK.1 T.1 15 rfl rfl 0 (by decide) (hts _ (List.mem_of_getElem? (i := 3) rfl)) (fun _ h9 => h9) rfl dX3_play_45 ?_
    refine va_getN (D := D) (ci := 0) (v := .int (S8.1 6)) (C := RX0) (T := TX0) (N := 13) hx hb hts hin_X0 hown hK.1 T.1 14 rfl rfl 11 (by decide) (va_Nw.use rfl (hK.2 _ (List.mem_of_getElem? (i := 2) rfl))) (fun _ h9 => h9) rfl dX3_play_48 ?_
    exact tf_iw hf X T hr dX3_play_51 (Nat.le_of_ble_eq_true rfl) (Nat.le_of_ble_eq_true rfl)
  · replace hf := ifp hc hf
    refine qIw (Option.some.inj hf).symm ?_
    exact thr_S (ik := 65) (is := 119) (ic := 69) (k := 1) (text := "no such turn now") (cls := "java/lang/IllegalStateException") X hX T hfl htab rfl (by decide +kernel) (hts _ (List.mem_of_getElem? (i := 1) rfl)) (hts _ (List.mem_of_getElem? (i := 2) rfl)) (List.mem_of_getElem? (i := 7) rfl) hg_69 (by decide +kernel) (by decide +kernel) hl.1 dX3_play_26 dX3_play_29 dX3_play_30 dX3_play_32 dX3_play_35 (Nat.le_of_ble_eq_true rfl) (Nat.le_of_ble_eq_true rfl) (Nat.le_of_ble_eq_true rfl) (Nat.le_of_ble_eq_true rfl) (Nat.le_of_ble_eq_true rfl) (Nat.le_of_ble_eq_true rfl)

noncomputable def fX3_takeBack (S : SC) : Option ((Int32 ⊕ Nat) × SC) :=
  if S.1 5 = 0 then
    some (.inr 1, S)
  else
    bnd (fX0_undo S) fun S2 =>
    some (.inl (S2.1 5), S2)
set_option maxHeartbeats 4000000 in
set_option maxRecDepth 100000 in
theorem kX3_takeBack (l : Launch) (hfl : l.stackTraces = false) (t1 t2 : Nat) (D : va_G) (cy : Nat → ClassId) (ad : Nat → Nat) (Xr : va_W) (S : SC) (r : ((Int32 ⊕ Nat) × SC)) (hf : fX3_takeBack S = some r) : CT l t1 t2 D cy (wC cy ad Xr) yX3_takeBack wsX3_takeBack ({ frames := 6, cells := 1, slots := 6, locals := 90 } : Room) [.ref (ad 0)] S (resI r.1) r.2 := by
  refine CT.of (cc := cX3_takeBack) (maxL := 1) (ret := (some .int)) (by decide +kernel) rfl (Nat.le_of_ble_eq_true rfl) ?_
  intro p e s m below meth c A ls X hr T hl hX htab
  obtain ⟨hx, hb, hml, hown, hts, hlk, hK, hA, hwA⟩ := id X
  have hl : lv_has ls 1 [(0, .ref (ad 0))] := hl
  have hin_X0 : ∀ w ∈ u_ws RX0 TX0 13, w ∈ wsX3_takeBack := fun w h => (List.mem_cons_of_mem _ (List.mem_append_left _ (List.mem_append_right _ h)))
  have hin_X3 : ∀ w ∈ u_ws RX3 TX3 3, w ∈ wsX3_takeBack := fun w h => (List.mem_cons_of_mem _ (List.mem_append_left _ (List.mem_append_left _ (List.mem_append_right _ h))))
  have hg_69 : ∀ w ∈ (vx_atS RX3 69 "java/lang/IllegalStateException" ["java/lang/RuntimeException", "java/lang/Exception"]).filter goodWord, w.before [.ref (ad 0)].toArray s = true := fun w h => hts w (List.mem_cons_of_mem _ (List.mem_append_right _ h))
  unfold fX3_takeBack at hf
  refine lv_aload_n hx hb dX3_takeBack_0 rfl (lv_at hl 0 rfl) ?_
  refine va_get (D := D) (ci := 3) (v := .ref (ad 1)) (C := RX3) (T := TX3) (N := 3) hx hb hts hin_X3 hown hK.1 T.1 15 rfl rfl 0 (by decide) (hts _ (List.mem_of_getElem? (i := 3) rfl)) (fun _ h9 => h9) rfl dX3_takeBack_1 ?_
  refine va_getN (D := D) (ci := 0) (v := .int (S.1 5)) (C := RX0) (T := TX0) (N := 13) hx hb hts hin_X0 hown hK.1 T.1 14 rfl rfl 10 (by decide) (va_Nw.use rfl (hK.2 _ (List.mem_of_getElem? (i := 3) rfl))) (fun _ h9 => h9) rfl dX3_takeBack_4 ?_
  refine lv_if_ne (tgt := 20) hx hb dX3_takeBack_7 (by decide) (fun hc => ?_) (fun hc => ?_)
  · replace hf := ifn hc hf
    refine lv_aload_n hx hb dX3_takeBack_20 rfl (lv_at hl 0 rfl) ?_
    refine va_get (D := D) (ci := 3) (v := .ref (ad 1)) (C := RX3) (T := TX3) (N := 3) hx hb hts hin_X3 hown hK.1 T.1 15 rfl rfl 0 (by decide) (hts _ (List.mem_of_getElem? (i := 3) rfl)) (fun _ h9 => h9) rfl dX3_takeBack_21 ?_
    obtain ⟨S2, h1, hf⟩ := bnd_inv hf
    refine cg_V (q0 := 14) (ci := 0) (As := []) (rest := []) X T (kX0_undo l D cy ad Xr S S2 h1) (cwV 0 hts gX3_takeBack_X0_undo rfl rfl rfl (by decide +kernel) ⟨Nat.le_of_ble_eq_true rfl, Nat.le_of_ble_eq_true rfl⟩) rfl rfl rfl hl.1 rfl (Nat.le_of_ble_eq_true rfl) dX3_takeBack_24 ⟨Nat.le_of_ble_eq_true rfl, Nat.le_of_ble_eq_true rfl⟩ (st2 := []) (pc2 := 27) rfl rfl (fun H locs T => ?_)
    refine lv_aload_n hx hb dX3_takeBack_27 rfl (lv_at hl 0 rfl) ?_
    refine va_get (D := D) (ci := 3) (v := .ref (ad 1)) (C := RX3) (T := TX3) (N := 3) hx hb hts hin_X3 hown hK.1 T.1 15 rfl rfl 0 (by decide) (hts _ (List.mem_of_getElem? (i := 3) rfl)) (fun _ h9 => h9) rfl dX3_takeBack_28 ?_
    refine va_getN (D := D) (ci := 0) (v := .int (S2.1 5)) (C := RX0) (T := TX0) (N := 13) hx hb hts hin_X0 hown hK.1 T.1 14 rfl rfl 10 (by decide) (va_Nw.use rfl (hK.2 _ (List.mem_of_getElem? (i := 3) rfl))) (fun _ h9 => h9) rfl dX3_takeBack_31 ?_
    exact tf_iw hf X T hr dX3_takeBack_34 (Nat.le_of_ble_eq_true rfl) (Nat.le_of_ble_eq_true rfl)
  · replace hf := ifp hc hf
    refine qIw (Option.some.inj hf).symm ?_
    exact thr_S (ik := 65) (is := 124) (ic := 69) (k := 1) (text := "no turn is left") (cls := "java/lang/IllegalStateException") X hX T hfl htab rfl (by decide +kernel) (hts _ (List.mem_of_getElem? (i := 1) rfl)) (hts _ (List.mem_of_getElem? (i := 2) rfl)) (List.mem_of_getElem? (i := 8) rfl) hg_69 (by decide +kernel) (by decide +kernel) hl.1 dX3_takeBack_10 dX3_takeBack_13 dX3_takeBack_14 dX3_takeBack_16 dX3_takeBack_19 (Nat.le_of_ble_eq_true rfl) (Nat.le_of_ble_eq_true rfl) (Nat.le_of_ble_eq_true rfl) (Nat.le_of_ble_eq_true rfl) (Nat.le_of_ble_eq_true rfl) (Nat.le_of_ble_eq_true rfl)

noncomputable def fX3_worth (S : SC) (x1 : Int32) : Option ((Int32 ⊕ Nat) × SC) :=
  bndxS S (fX3_requireAhead S x1 0) fun v2 =>
  bnd (fX1_lookN 4 S x1) fun v4 =>
  some (.inl v4.1, v4.2)
set_option maxHeartbeats 4000000 in
set_option maxRecDepth 100000 in
theorem kX3_worth (l : Launch) (hfl : l.stackTraces = false) (t1 t2 : Nat) (D : va_G) (cy : Nat → ClassId) (ad : Nat → Nat) (Xr : va_W) (S : SC) (x1 : Int32) (r : ((Int32 ⊕ Nat) × SC)) (hf : fX3_worth S x1 = some r) : CT l t1 t2 D cy (wC cy ad Xr) yX3_worth wsX3_worth ({ frames := 161, cells := 2, slots := 12, locals := 8026 } : Room) [.ref (ad 0), .int x1] S (resI r.1) r.2 := by
  refine CT.of (cc := cX3_worth) (maxL := 2) (ret := (some .int)) (by decide +kernel) rfl (Nat.le_of_ble_eq_true rfl) ?_
  intro p e s m below meth c A ls X hr T hl hX htab
  obtain ⟨hx, hb, hml, hown, hts, hlk, hK, hA, hwA⟩ := id X
  have hl : lv_has ls 2 [(0, .ref (ad 0)), (1, .int x1)] := hl
  have hin_X3 : ∀ w ∈ u_ws RX3 TX3 3, w ∈ wsX3_worth := fun w h => (List.mem_cons_of_mem _ (List.mem_append_left _ (List.mem_append_left _ (List.mem_append_left _ (List.mem_append_left _ (List.mem_append_left _ (List.mem_append_right _ h)))))))
  unfold fX3_worth at hf
  refine lv_aload_n hx hb dX3_worth_0 rfl (lv_at hl 0 rfl) ?_
  refine lv_iload_n hx hb dX3_worth_1 rfl (lv_at hl 1 rfl) ?_
  refine lv_iconst (v := 0) hx hb dX3_worth_2 (by decide) ?_
  rcases (bndxS_inv hf).symm with ⟨e9, h1, hf⟩ | ⟨v2, h1, hf⟩
  · refine qIw hf ?_
    exact ct_Vx (k := e9) (q0 := 15) (ci := 3) (As := [.int x1, .int 0]) (rest := []) X hX T (kX3_requireAhead l hfl t1 t2 D cy ad Xr S x1 0 (.inr e9) h1) (cwV 2 hts gX3_worth_X3_requireAhead rfl rfl rfl (by decide +kernel) ⟨Nat.le_of_ble_eq_true rfl, Nat.le_of_ble_eq_true rfl⟩) rfl rfl rfl hl.1 rfl (Nat.le_of_ble_eq_true rfl) dX3_worth_3 ⟨Nat.le_of_ble_eq_true rfl, Nat.le_of_ble_eq_true rfl⟩ htab (Nat.le_of_ble_eq_true rfl) (Nat.le_of_ble_eq_true rfl)
  refine ct_Vi (v := none) (q0 := 15) (ci := 3) (As := [.int x1, .int 0]) (rest := []) X hX T (kX3_requireAhead l hfl t1 t2 D cy ad Xr S x1 0 (.inl v2) h1) (cwV 2 hts gX3_worth_X3_requireAhead rfl rfl rfl (by decide +kernel) ⟨Nat.le_of_ble_eq_true rfl, Nat.le_of_ble_eq_true rfl⟩) rfl rfl rfl hl.1 rfl (Nat.le_of_ble_eq_true rfl) dX3_worth_3 ⟨Nat.le_of_ble_eq_true rfl, Nat.le_of_ble_eq_true rfl⟩ (st2 := []) (pc2 := 6) (c2 := 2) (s2 := 12) rfl rfl rfl rfl (fun H locs T => ?_)
  refine lv_aload_n hx hb dX3_worth_6 rfl (lv_at hl 0 rfl) ?_
  refine va_get (D := D) (ci := 3) (v := .ref (ad 15)) (C := RX3) (T := TX3) (N := 3) hx hb hts hin_X3 hown hK.1 T.1 15 rfl rfl 2 (by decide) (hts _ (List.mem_of_getElem? (i := 1) rfl)) (fun _ h9 => h9) rfl dX3_worth_7 ?_
  refine lv_aload_n hx hb dX3_worth_10 rfl (lv_at hl 0 rfl) ?_
  refine va_get (D := D) (ci := 3) (v := .ref (ad 1)) (C := RX3) (T := TX3) (N := 3) hx hb hts hin_X3 hown hK.1 T.1 15 rfl rfl 0 (by decide) (hts _ (List.mem_of_getElem? (i := 2) rfl)) (fun _ h9 => h9) rfl dX3_worth_11 ?_
  refine lv_iload_n hx hb dX3_worth_14 rfl (lv_at hl 1 rfl) ?_
  obtain ⟨v4, h3, hf⟩ := bnd_inv hf
  refine cg_VN (q0 := 6) (ci := 1) (As := [.ref (ad 1), .int x1]) (rest := []) X T (kX1_lookN l D cy ad Xr 4 S x1 v4 h3) (va_cnB 2 hts ggX3_worth_X1_look rfl rfl rfl (hK.2 _ (List.mem_of_getElem? (i := 7) rfl)) (hts _ (List.mem_of_getElem? (i := 27) rfl)) (by decide +kernel) ⟨Nat.le_of_ble_eq_true rfl, Nat.le_of_ble_eq_true rfl⟩) (hts _ (List.mem_of_getElem? (i := 26) rfl)) (hts _ (List.mem_of_getElem? (i := 28) rfl)) rfl rfl rfl hl.1 rfl (Nat.le_of_ble_eq_true rfl) dX3_worth_15 ⟨Nat.le_of_ble_eq_true rfl, Nat.le_of_ble_eq_true rfl⟩ (st2 := [.int v4.1]) (pc2 := 18) rfl rfl (fun H locs T => ?_)
  exact tf_iw hf X T hr dX3_worth_18 (Nat.le_of_ble_eq_true rfl) (Nat.le_of_ble_eq_true rfl)

noncomputable def fX3_best_b32 (y1 : Int32) (y2 : Int32) : (Int32 × SC) → Option ((Int32 × SC) ⊕ ((Int32 ⊕ Nat) × SC)) :=
  fun st => match st with
    | (y3, S_32) =>
      if S_32.1 8 ≤ y3 then
        ex <|
        some (.inl (-1), S_32)
      else
        bnd (fX2_at S_32 0 y3) fun v2 =>
        bnd (fX1_worthOf (fX1_lookN 4) S_32 v2 y1) fun v4 =>
        if v4.1 = y2 then
          ex <|
          some (.inl v2, v4.2)
        else
          nm (y3 + 1 : Int32) fun v5 =>
          some (.inl (v5, v4.2))
noncomputable def fX3_best (S : SC) (x1 : Int32) : Option ((Int32 ⊕ Nat) × SC) :=
  bndxS S (fX3_requireAhead S x1 1) fun v7 =>
  bnd (fX1_lookN 4 S x1) fun v9 =>
  bnd (fX0_listTurns v9.2 0) fun S11 =>
  loop (fX3_best_b32 x1 v9.1) FUEL (0, S11)
set_option maxHeartbeats 4000000 in
set_option maxRecDepth 100000 in
theorem kX3_best (l : Launch) (hfl : l.stackTraces = false) (t1 t2 : Nat) (D : va_G) (cy : Nat → ClassId) (ad : Nat → Nat) (Xr : va_W) (S : SC) (x1 : Int32) (r : ((Int32 ⊕ Nat) × SC)) (hf : fX3_best S x1 = some r) : CT l t1 t2 D cy (wC cy ad Xr) yX3_best wsX3_best ({ frames := 181, cells := 2, slots := 12, locals := 9024 } : Room) [.ref (ad 0), .int x1] S (resI r.1) r.2 := by
  refine CT.of (cc := cX3_best) (maxL := 5) (ret := (some .int)) (by decide +kernel) rfl (Nat.le_of_ble_eq_true rfl) ?_
  intro p e s m below meth c A ls X hr T hl hX htab
  obtain ⟨hx, hb, hml, hown, hts, hlk, hK, hA, hwA⟩ := id X
  have hl : lv_has ls 5 [(0, .ref (ad 0)), (1, .int x1)] := hl
  have hin_X2 : ∀ w ∈ u_ws RX2 TX2 2, w ∈ wsX3_best := fun w h => (List.mem_cons_of_mem _ (List.mem_append_left _ (List.mem_append_left _ (List.mem_append_left _ (List.mem_append_left _ (List.mem_append_right _ h))))))
  have hin_X3 : ∀ w ∈ u_ws RX3 TX3 3, w ∈ wsX3_best := fun w h => (List.mem_cons_of_mem _ (List.mem_append_left _ (List.mem_append_left _ (List.mem_append_left _ (List.mem_append_left _ (List.mem_append_left _ (List.mem_append_right _ h)))))))
  unfold fX3_best at hf
  have l_32 : ∀ (y1 : Int32) (y2 : Int32) (n : Nat) (y3 : Int32) (S_32 : SC) (H : Heap) (locs : List Loc) (ls : Array Slot), loop (fX3_best_b32 y1 y2) n (y3, S_32) = some r → ST D (wC cy ad Xr) A s S_32 H locs → lv_has ls 5 [(0, .ref (ad 0)), (1, .int y1), (2, .int y2), (3, .int y3)] → W p l e ({ frames := 181, cells := 2, slots := 12, locals := 9024 } : Room) s m [.ref (ad 0), .int x1].toArray below meth c H locs 2 12 (vx_MQ below (QN D (wC cy ad Xr) A (resI r.1) r.2) (XN D (wC cy ad Xr) A (resI r.1) r.2) [.ref (ad 0), .int x1].toArray s 2 12 A) (F0 m 32 ls []) := by
    intro y1 y2 n
    induction n with
    | zero => intro _ _ _ _ _ hf; cases hf
    | succ n ih_32 =>
      intro y3 S_32 H locs ls hf T hl
      obtain ⟨z_32, hf, hin_32, hex_32⟩ := loop_inv hf
      unfold fX3_best_b32 at hf
      dsimp only at hf
      refine lv_iload_n hx hb dX3_best_32 rfl (lv_at hl 3 rfl) ?_
      refine lv_aload_n hx hb dX3_best_33 rfl (lv_at hl 0 rfl) ?_
      refine va_get (D := D) (ci := 3) (v := .ref (ad 7)) (C := RX3) (T := TX3) (N := 3) hx hb hts hin_X3 hown hK.1 T.1 15 rfl rfl 1 (by decide) (hts _ (List.mem_of_getElem? (i := 3) rfl)) (fun _ h9 => h9) rfl dX3_best_34 ?_
      refine va_getN (D := D) (ci := 2) (v := .int (S_32.1 8)) (C := RX2) (T := TX2) (N := 2) hx hb hts hin_X2 hown hK.1 T.1 8 rfl rfl 1 (by decide) (va_Nw.use rfl (hK.2 _ (List.mem_of_getElem? (i := 0) rfl))) (fun _ h9 => h9) rfl dX3_best_37 ?_
      refine lv_icmp_ge (tgt := 80) hx hb dX3_best_40 (by decide) (fun hc => ?_) (fun hc => ?_)
      · replace hf := ifp hc hf
        obtain ⟨r0, hf, hz⟩ := ex_inv hf
        rw [hex_32 r0 hz] at hf
        refine lv_iconst (v := (-1)) hx hb dX3_best_80 (by decide) ?_
        exact tf_iw hf X T hr dX3_best_81 (Nat.le_of_ble_eq_true rfl) (Nat.le_of_ble_eq_true rfl)
      · replace hf := ifn hc hf
        refine lv_aload_n hx hb dX3_best_43 rfl (lv_at hl 0 rfl) ?_
        refine va_get (D := D) (ci := 3) (v := .ref (ad 7)) (C := RX3) (T := TX3) (N := 3) hx hb hts hin_X3 hown hK.1 T.1 15 rfl rfl 1 (by decide) (hts _ (List.mem_of_getElem? (i := 3) rfl)) (fun _ h9 => h9) rfl dX3_best_44 ?_
        refine lv_iload_n hx hb dX3_best_47 rfl (lv_at hl 3 rfl) ?_
        obtain ⟨v2, h1, hf⟩ := bnd_inv hf
        refine cg_V (q0 := 8) (ci := 2) (As := [.int y3]) (rest := []) X T (kX2_at l D cy ad Xr S_32 0 y3 v2 h1 (by decide)) (cwV 1 hts gX3_best_X2_at rfl rfl rfl (by decide +kernel) ⟨Nat.le_of_ble_eq_true rfl, Nat.le_of_ble_eq_true rfl⟩) rfl rfl rfl hl.1 rfl (Nat.le_of_ble_eq_true rfl) dX3_best_48 ⟨Nat.le_of_ble_eq_true rfl, Nat.le_of_ble_eq_true rfl⟩ (st2 := [.int v2]) (pc2 := 51) rfl rfl (fun H locs T => ?_)
        refine lv_istore (lv' := [(4, .int v2), (0, .ref (ad 0)), (1, .int y1), (2, .int y2), (3, .int y3)]) hx hb dX3_best_51 hl (by decide) rfl (fun ls hl => ?_)
        refine lv_aload_n hx hb dX3_best_53 rfl (lv_at hl 1 rfl) ?_
        refine va_get (D := D) (ci := 3) (v := .ref (ad 15)) (C := RX3) (T := TX3) (N := 3) hx hb hts hin_X3 hown hK.1 T.1 15 rfl rfl 2 (by decide) (hts _ (List.mem_of_getElem? (i := 1) rfl)) (fun _ h9 => h9) rfl dX3_best_54 ?_
        refine lv_aload_n hx hb dX3_best_57 rfl (lv_at hl 1 rfl) ?_
        refine va_get (D := D) (ci := 3) (v := .ref (ad 1)) (C := RX3) (T := TX3) (N := 3) hx hb hts hin_X3 hown hK.1 T.1 15 rfl rfl 0 (by decide) (hts _ (List.mem_of_getElem? (i := 2) rfl)) (fun _ h9 => h9) rfl dX3_best_58 ?_
        refine lv_iload hx hb dX3_best_61 (lv_at hl 0 rfl) ?_
        refine lv_iload_n hx hb dX3_best_63 rfl (lv_at hl 2 rfl) ?_
        obtain ⟨v4, h3, hf⟩ := bnd_inv hf
        refine cg_VN (q0 := 6) (ci := 1) (As := [.ref (ad 1), .int v2, .int y1]) (rest := []) X T (kX1_worthOf l D cy ad Xr (fX1_lookN 4) 160 8000 (kX1_lookN l D cy ad Xr 4) S_32 v2 y1 v4 h3) (va_cnB 3 hts ggX3_best_X1_worthOf rfl rfl rfl (hK.2 _ (List.mem_of_getElem? (i := 8) rfl)) (hts _ (List.mem_of_getElem? (i := 28) rfl)) (by decide +kernel) ⟨Nat.le_of_ble_eq_true rfl, Nat.le_of_ble_eq_true rfl⟩) (hts _ (List.mem_of_getElem? (i := 120) rfl)) (hts _ (List.mem_of_getElem? (i := 121) rfl)) rfl rfl rfl hl.1 rfl (Nat.le_of_ble_eq_true rfl) dX3_best_64 ⟨Nat.le_of_ble_eq_true rfl, Nat.le_of_ble_eq_true rfl⟩ (st2 := [.int v4.1]) (pc2 := 67) rfl rfl (fun H locs T => ?_)
        refine lv_iload_n hx hb dX3_best_67 rfl (lv_at hl 3 rfl) ?_
        refine lv_icmp_ne (tgt := 74) hx hb dX3_best_68 (by decide) (fun hc => ?_) (fun hc => ?_)
        · replace hf := ifn hc hf
          obtain ⟨v5, e_v5, hf⟩ := nm_inv hf
          refine lv_iinc (v := v5) (lv' := [(3, .int v5), (4, .int v2), (0, .ref (ad 0)), (1, .int y1), (2, .int y2)]) hx hb dX3_best_74 hl (k := 4) rfl (by rw [e_v5]; rfl) (by decide) rfl (fun ls hl => ?_)
          refine lv_goto (tgt := 32) hx hb dX3_best_77 (by decide) ?_
          exact ih_32 v5 v4.2 _ _ _ (hin_32 _ (Option.some.inj hf).symm) T (lv_sub hl [2, 3, 4, 0] rfl)
        · replace hf := ifp hc hf
          obtain ⟨r0, hf, hz⟩ := ex_inv hf
          rw [hex_32 r0 hz] at hf
          refine lv_iload hx hb dX3_best_71 (lv_at hl 0 rfl) ?_
          exact tf_iw hf X T hr dX3_best_73 (Nat.le_of_ble_eq_true rfl) (Nat.le_of_ble_eq_true rfl)
  refine lv_aload_n hx hb dX3_best_0 rfl (lv_at hl 0 rfl) ?_
  refine lv_iload_n hx hb dX3_best_1 rfl (lv_at hl 1 rfl) ?_
  refine lv_iconst (v := 1) hx hb dX3_best_2 (by decide) ?_
  rcases (bndxS_inv hf).symm with ⟨e9, h6, hf⟩ | ⟨v7, h6, hf⟩
  · refine qIw hf ?_
    exact ct_Vx (k := e9) (q0 := 15) (ci := 3) (As := [.int x1, .int 1]) (rest := []) X hX T (kX3_requireAhead l hfl t1 t2 D cy ad Xr S x1 1 (.inr e9) h6) (cwV 2 hts gX3_best_X3_requireAhead rfl rfl rfl (by decide +kernel) ⟨Nat.le_of_ble_eq_true rfl, Nat.le_of_ble_eq_true rfl⟩) rfl rfl rfl hl.1 rfl (Nat.le_of_ble_eq_true rfl) dX3_best_3 ⟨Nat.le_of_ble_eq_true rfl, Nat.le_of_ble_eq_true rfl⟩ htab (Nat.le_of_ble_eq_true rfl) (Nat.le_of_ble_eq_true rfl)
  refine ct_Vi (v := none) (q0 := 15) (ci := 3) (As := [.int x1, .int 1]) (rest := []) X hX T (kX3_requireAhead l hfl t1 t2 D cy ad Xr S x1 1 (.inl v7) h6) (cwV 2 hts gX3_best_X3_requireAhead rfl rfl rfl (by decide +kernel) ⟨Nat.le_of_ble_eq_true rfl, Nat.le_of_ble_eq_true rfl⟩) rfl rfl rfl hl.1 rfl (Nat.le_of_ble_eq_true rfl) dX3_best_3 ⟨Nat.le_of_ble_eq_true rfl, Nat.le_of_ble_eq_true rfl⟩ (st2 := []) (pc2 := 6) (c2 := 2) (s2 := 12) rfl rfl rfl rfl (fun H locs T => ?_)
  refine lv_aload_n hx hb dX3_best_6 rfl (lv_at hl 0 rfl) ?_
  refine va_get (D := D) (ci := 3) (v := .ref (ad 15)) (C := RX3) (T := TX3) (N := 3) hx hb hts hin_X3 hown hK.1 T.1 15 rfl rfl 2 (by decide) (hts _ (List.mem_of_getElem? (i := 1) rfl)) (fun _ h9 => h9) rfl dX3_best_7 ?_
  refine lv_aload_n hx hb dX3_best_10 rfl (lv_at hl 0 rfl) ?_
  refine va_get (D := D) (ci := 3) (v := .ref (ad 1)) (C := RX3) (T := TX3) (N := 3) hx hb hts hin_X3 hown hK.1 T.1 15 rfl rfl 0 (by decide) (hts _ (List.mem_of_getElem? (i := 2) rfl)) (fun _ h9 => h9) rfl dX3_best_11 ?_
  refine lv_iload_n hx hb dX3_best_14 rfl (lv_at hl 1 rfl) ?_
  obtain ⟨v9, h8, hf⟩ := bnd_inv hf
  refine cg_VN (q0 := 6) (ci := 1) (As := [.ref (ad 1), .int x1]) (rest := []) X T (kX1_lookN l D cy ad Xr 4 S x1 v9 h8) (va_cnB 2 hts ggX3_best_X1_look rfl rfl rfl (hK.2 _ (List.mem_of_getElem? (i := 7) rfl)) (hts _ (List.mem_of_getElem? (i := 28) rfl)) (by decide +kernel) ⟨Nat.le_of_ble_eq_true rfl, Nat.le_of_ble_eq_true rfl⟩) (hts _ (List.mem_of_getElem? (i := 27) rfl)) (hts _ (List.mem_of_getElem? (i := 29) rfl)) rfl rfl rfl hl.1 rfl (Nat.le_of_ble_eq_true rfl) dX3_best_15 ⟨Nat.le_of_ble_eq_true rfl, Nat.le_of_ble_eq_true rfl⟩ (st2 := [.int v9.1]) (pc2 := 18) rfl rfl (fun H locs T => ?_)
  refine lv_istore_n (lv' := [(2, .int v9.1), (0, .ref (ad 0)), (1, .int x1)]) hx hb dX3_best_18 rfl hl (by decide) rfl (fun ls hl => ?_)
  refine lv_aload_n hx hb dX3_best_19 rfl (lv_at hl 1 rfl) ?_
  refine va_get (D := D) (ci := 3) (v := .ref (ad 1)) (C := RX3) (T := TX3) (N := 3) hx hb hts hin_X3 hown hK.1 T.1 15 rfl rfl 0 (by decide) (hts _ (List.mem_of_getElem? (i := 2) rfl)) (fun _ h9 => h9) rfl dX3_best_20 ?_
  refine lv_aload_n hx hb dX3_best_23 rfl (lv_at hl 1 rfl) ?_
  refine va_get (D := D) (ci := 3) (v := .ref (ad 7)) (C := RX3) (T := TX3) (N := 3) hx hb hts hin_X3 hown hK.1 T.1 15 rfl rfl 1 (by decide) (hts _ (List.mem_of_getElem? (i := 3) rfl)) (fun _ h9 => h9) rfl dX3_best_24 ?_
  obtain ⟨S11, h10, hf⟩ := bnd_inv hf
  refine cg_V (q0 := 14) (ci := 0) (As := [.ref (ad 7)]) (rest := []) X T (kX0_listTurns l D cy ad Xr v9.2 0 S11 h10 (by decide)) (cwV 1 hts gX3_best_X0_listTurns rfl rfl rfl (by decide +kernel) ⟨Nat.le_of_ble_eq_true rfl, Nat.le_of_ble_eq_true rfl⟩) rfl rfl rfl hl.1 rfl (Nat.le_of_ble_eq_true rfl) dX3_best_27 ⟨Nat.le_of_ble_eq_true rfl, Nat.le_of_ble_eq_true rfl⟩ (st2 := []) (pc2 := 30) rfl rfl (fun H locs T => ?_)
  refine lv_iconst (v := 0) hx hb dX3_best_30 (by decide) ?_
  refine lv_istore_n (lv' := [(3, .int 0), (2, .int v9.1), (0, .ref (ad 0)), (1, .int x1)]) hx hb dX3_best_31 rfl hl (by decide) rfl (fun ls hl => ?_)
  exact l_32 x1 v9.1 FUEL 0 S11 _ _ _ hf T (lv_sub hl [2, 3, 1, 0] rfl)
