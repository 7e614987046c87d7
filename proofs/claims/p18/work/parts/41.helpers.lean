noncomputable def fL_low (S : SC) (x0 : Int32) (x1 : Int32) : Option Int32 :=
  cp (¬ x1 = 0) <|
  some ((x0 &&& 2147483647) - (x0 &&& 2147483647) / x1 * x1)
set_option maxHeartbeats 4000000 in
set_option maxRecDepth 100000 in
theorem kL_low (l : Launch) (D : va_G) (cy : Nat → ClassId) (ad : Nat → Nat) (Xr : va_W) (S : SC) (x0 : Int32) (x1 : Int32) (r : Int32) (hf : fL_low S x0 x1 = some r) : CG l D cy (wC cy ad Xr) yL_low wsL_low ({ frames := 0, cells := 0, slots := 0, locals := 0 } : Room) [.int x0, .int x1] S (some (.int r)) S := by
  refine CG.of (cc := cL_low) (maxL := 2) (ret := (some .int)) (by decide +kernel) rfl (Nat.le_of_ble_eq_true rfl) ?_
  intro p e s m below meth c A ls X hr T hl
  obtain ⟨hx, hb, hml, hown, hts, hlk, hK, hA, hwA⟩ := id X
  have hl : lv_has ls 2 [(0, .int x0), (1, .int x1)] := hl
  unfold fL_low at hf
  refine lv_iload_n hx hb dL_low_0 rfl (lv_at hl 0 rfl) ?_
  refine lv_ldc (v := 2147483647) hx hb hown (hts _ (List.mem_of_getElem? (i := 1) rfl)) dL_low_1 ?_
  refine lv_iand hx hb dL_low_3 ?_
  refine lv_iload_n hx hb dL_low_4 rfl (lv_at hl 1 rfl) ?_
  obtain ⟨hne, hf⟩ := cp_inv hf
  refine lv_irem hx hb dL_low_5 hne ?_
  exact rf_i hf X T hr dL_low_6

theorem tb_out5 {x : Int32} (c0 : ¬ x = 0) (c1 : ¬ x = 1) (c2 : ¬ x = 2) (c3 : ¬ x = 3) (c4 : ¬ x = 4) (c5 : ¬ x = 5) : x.toInt < 0 ∨ (5 : Int) < x.toInt := by
  have h : ∀ k : Int32, ¬ x = k → x.toInt ≠ k.toInt := fun k h e => h (Int32.toInt_inj.mp e)
  have h0 : x.toInt ≠ 0 := h 0 c0
  have h1 : x.toInt ≠ 1 := h 1 c1
  have h2 : x.toInt ≠ 2 := h 2 c2
  have h3 : x.toInt ≠ 3 := h 3 c3
  have h4 : x.toInt ≠ 4 := h 4 c4
  have h5 : x.toInt ≠ 5 := h 5 c5
  omega

noncomputable def fL_act_j199 (y1 : Int32) (z1 : Int32) (z2 : Int32) (z3 : Int32) (z4 : Int32) (z5 : Int32) (S_199 : SC) : Option (Int32 × SC) :=
  bnd (fL_low S_199 (y1 >>> ((15 : Int32) &&& 31)) 7) fun v2 =>
  bnd (fL_begin S_199 z1 z2 z3 (z4 - z5) v2) fun v4 =>
  some (v4.1, v4.2)
noncomputable def fL_act_j187 (y1 : Int32) (y2 : Int32) (z1 : Int32) (z2 : Int32) (z3 : Int32) (z4 : Int32) (z5 : Int32) (S_187 : SC) : Option (Int32 × SC) :=
  bnd (fL_low S_187 z4 z5) fun v6 =>
  if y2 = 0 then
    fL_act_j199 y1 z1 z2 z3 v6 0 S_187
  else
    fL_act_j199 y1 z1 z2 z3 v6 1 S_187
noncomputable def fL_act_j172 (y1 : Int32) (y2 : Int32) (z1 : Int32) (z2 : Int32) (z3 : Int32) (S_172 : SC) : Option (Int32 × SC) :=
  if y2 = 0 then
    fL_act_j187 y1 y2 z1 z2 z3 (y1 >>> ((12 : Int32) &&& 31)) 7 S_172
  else
    fL_act_j187 y1 y2 z1 z2 z3 (y1 >>> ((12 : Int32) &&& 31)) 9 S_172
noncomputable def fL_act_j147 (y1 : Int32) (y2 : Int32) (z1 : Int32) (z2 : Int32) (S_147 : SC) : Option (Int32 × SC) :=
  if y2 = 0 then
    bnd (fL_low S_147 (y1 >>> ((10 : Int32) &&& 31)) 2) fun v8 =>
    fL_act_j172 y1 y2 z1 z2 ((1 : Int32) + v8) S_147
  else
    bnd (fL_low S_147 (y1 >>> ((10 : Int32) &&& 31)) 4) fun v10 =>
    fL_act_j172 y1 y2 z1 z2 v10 S_147
noncomputable def fL_act_j121 (y1 : Int32) (y2 : Int32) (z1 : Int32) (S_121 : SC) : Option (Int32 × SC) :=
  if y2 = 0 then
    bnd (fL_low S_121 (y1 >>> ((7 : Int32) &&& 31)) 2) fun v12 =>
    fL_act_j147 y1 y2 z1 ((3 : Int32) + v12) S_121
  else
    bnd (fL_low S_121 (y1 >>> ((7 : Int32) &&& 31)) 7) fun v14 =>
    fL_act_j147 y1 y2 z1 v14 S_121
noncomputable def fL_act_j247 (z1 : Int32) (z2 : Int32) (S_247 : SC) : Option (Int32 × SC) :=
  bnd (fL_raise S_247 z1 z2) fun v16 =>
  some (v16.1, v16.2)
noncomputable def fL_act_j299 (z1 : Int32) (S_299 : SC) : Option (Int32 × SC) :=
  bnd (fL_play S_299 z1) fun v18 =>
  some (v18.1, v18.2)
noncomputable def fL_act_j273 (y1 : Int32) (S_273 : SC) : Option (Int32 × SC) :=
  bnd (fL_low S_273 (y1 >>> ((4 : Int32) &&& 31)) 20000) fun v20 =>
  fL_act_j299 (v20 - 100) S_273
noncomputable def fL_act_j48 (y1 : Int32) (y2 : Int32) (y3 : Int32) (z0 : Int32) (S_48 : SC) : Option (Int32 × SC) :=
  bnd (fL_low S_48 y1 24) fun v22 =>
  nm (v22 : Int32) fun v23 =>
  if v23 = 0 then
    if y2 = 0 then
      bnd (fL_low S_48 (y1 >>> ((4 : Int32) &&& 31)) 3) fun v25 =>
      fL_act_j121 y1 y2 ((2 : Int32) + v25) S_48
    else
      bnd (fL_low S_48 (y1 >>> ((4 : Int32) &&& 31)) 7) fun v27 =>
      fL_act_j121 y1 y2 v27 S_48
  else
    if v23 = 1 then
      bnd (fL_takeBack S_48) fun v29 =>
      some (v29.1, v29.2)
    else
      if v23 = 2 then
        if y2 = 0 then
          bnd (fL_low S_48 (y1 >>> ((9 : Int32) &&& 31)) 4) fun v31 =>
          fL_act_j247 z0 v31 S_48
        else
          bnd (fL_low S_48 (y1 >>> ((9 : Int32) &&& 31)) 7) fun v33 =>
          fL_act_j247 z0 (v33 - 1) S_48
      else
        if v23 = 3 then
          if y2 = 0 then
            bnd (fL_low S_48 (y1 >>> ((9 : Int32) &&& 31)) 4) fun v35 =>
            fL_act_j247 z0 v35 S_48
          else
            bnd (fL_low S_48 (y1 >>> ((9 : Int32) &&& 31)) 7) fun v37 =>
            fL_act_j247 z0 (v37 - 1) S_48
        else
          if v23 = 4 then
            if y2 = 0 then
              bnd (fL_low S_48 (y1 >>> ((9 : Int32) &&& 31)) 4) fun v39 =>
              fL_act_j247 z0 v39 S_48
            else
              bnd (fL_low S_48 (y1 >>> ((9 : Int32) &&& 31)) 7) fun v41 =>
              fL_act_j247 z0 (v41 - 1) S_48
          else
            if v23 = 5 then
              if y2 = 0 then
                bnd (fL_low S_48 (y1 >>> ((9 : Int32) &&& 31)) 4) fun v43 =>
                fL_act_j247 z0 v43 S_48
              else
                bnd (fL_low S_48 (y1 >>> ((9 : Int32) &&& 31)) 7) fun v45 =>
                fL_act_j247 z0 (v45 - 1) S_48
            else
              if (0 : Int32) ≤ y3 then
                if y2 = 0 then
                  if y3 = 0 then
                    fL_act_j273 y1 S_48
                  else
                    bnd (fL_low S_48 (y1 >>> ((4 : Int32) &&& 31)) y3) fun v47 =>
                    bnd (fL_turnAt S_48 v47) fun v49 =>
                    fL_act_j299 v49.1 v49.2
                else
                  fL_act_j273 y1 S_48
              else
                bnd (fL_place S_48 z0) fun v51 =>
                some (v51.1, v51.2)
noncomputable def fL_act_j17 (y1 : Int32) (z0 : Int32) (S_17 : SC) : Option (Int32 × SC) :=
  bnd (fL_turnCount S_17) fun v53 =>
  if z0 = 0 then
    bnd (fL_low v53.2 (y1 >>> ((4 : Int32) &&& 31)) 9) fun v55 =>
    fL_act_j48 y1 z0 v53.1 v55 v53.2
  else
    bnd (fL_low v53.2 (y1 >>> ((4 : Int32) &&& 31)) 27) fun v57 =>
    fL_act_j48 y1 z0 v53.1 (v57 - 1) v53.2
noncomputable def fL_act (S : SC) (x1 : Int32) : Option (Int32 × SC) :=
  bnd (fL_low S (x1 >>> ((24 : Int32) &&& 31)) 9) fun v59 =>
  if v59 = 0 then
    fL_act_j17 x1 1 S
  else
    fL_act_j17 x1 0 S
set_option maxHeartbeats 4000000 in
set_option maxRecDepth 100000 in
theorem kL_act (l : Launch) (hfl : l.stackTraces = false) (t1 t2 : Nat) (D : va_G) (cy : Nat → ClassId) (ad : Nat → Nat) (Xr : va_W) (S : SC) (x1 : Int32) (r : (Int32 × SC)) (hf : fL_act S x1 = some r) : CL l t1 t2 D cy (wC cy ad Xr) yL_act wsL_act ({ frames := 9, cells := 5, slots := 30, locals := 173 } : Room) [.ref (ad 0), .int x1] S (some (.int r.1)) r.2 := by
  refine CL.of (cc := cL_act) (maxL := 5) (ret := (some .int)) (by decide +kernel) rfl (Nat.le_of_ble_eq_true rfl) ?_
  intro p e s m below meth c A ls X hr T hl hX hN
  obtain ⟨hx, hb, hml, hown, hts, hlk, hK, hA, hwA⟩ := id X
  have hl : lv_has ls 5 [(0, .ref (ad 0)), (1, .int x1)] := hl
  unfold fL_act at hf
  have j_199 : ∀ (y1 : Int32) (z1 : Int32) (z2 : Int32) (z3 : Int32) (z4 : Int32) (z5 : Int32) (S_199 : SC) (H : Heap) (locs : List Loc) (ls : Array Slot), fL_act_j199 y1 z1 z2 z3 z4 z5 S_199 = some r → ST D (wC cy ad Xr) A s S_199 H locs → lv_has ls 5 [(1, .int y1)] → W p l e ({ frames := 9, cells := 5, slots := 30, locals := 173 } : Room) s m [.ref (ad 0), .int x1].toArray below meth c H locs 1 6 (MQ below (QG D (wC cy ad Xr) A (some (.int r.1)) r.2) [.ref (ad 0), .int x1].toArray s 5 30 A) (F0 m 199 ls [.int z5, .int z4, .int z3, .int z2, .int z1, .ref (ad 0)]) := by
    intro y1 z1 z2 z3 z4 z5 S_199 H locs ls hf T hl
    unfold fL_act_j199 at hf
    refine lv_isub hx hb dL_act_199 ?_
    refine lv_iload_n hx hb dL_act_200 rfl (lv_at hl 0 rfl) ?_
    refine lv_bipush (v := 15) hx hb dL_act_201 (by decide) ?_
    refine lv_ishr hx hb dL_act_203 ?_
    refine lv_bipush (v := 7) hx hb dL_act_204 (by decide) ?_
    obtain ⟨v2, h1, hf⟩ := bnd_inv hf
    refine cg_S (As := [.int (y1 >>> ((15 : Int32) &&& 31)), .int 7]) (rest := [.int (z4 - z5), .int z3, .int z2, .int z1, .ref (ad 0)]) X T (kL_low l D cy ad Xr S_199 (y1 >>> ((15 : Int32) &&& 31)) 7 v2 h1) (va_cwS 2 hts gL_act_L_low rfl rfl rfl (by decide +kernel) ⟨Nat.le_of_ble_eq_true rfl, Nat.le_of_ble_eq_true rfl⟩) rfl hl.1 rfl (Nat.le_of_ble_eq_true rfl) dL_act_206 ⟨(Nat.le_of_ble_eq_true rfl), (Nat.le_of_ble_eq_true rfl)⟩ (st2 := [.int v2, .int (z4 - z5), .int z3, .int z2, .int z1, .ref (ad 0)]) (pc2 := 209) rfl rfl (fun H locs T => ?_)
    obtain ⟨v4, h3, hf⟩ := bnd_inv hf
    refine cl_SW (As := [.ref (ad 0), .int z1, .int z2, .int z3, .int (z4 - z5), .int v2]) (rest := []) X hX hN T (kL_begin l hfl t1 t2 D cy ad Xr S_199 z1 z2 z3 (z4 - z5) v2 v4 h3) (vx_cwSW 6 hts gL_act_L_begin rfl rfl rfl (by decide +kernel) ⟨(Nat.le_of_ble_eq_true rfl), (Nat.le_of_ble_eq_true rfl)⟩) rfl hl.1 rfl (Nat.le_of_ble_eq_true rfl) dL_act_209 ⟨(Nat.le_of_ble_eq_true rfl), (Nat.le_of_ble_eq_true rfl)⟩ (st2 := [.int v4.1]) (pc2 := 212) (c2 := 2) (s2 := 12) rfl rfl rfl rfl (fun H locs T => ?_)
    exact rl_iw hf X T hr dL_act_212 (Nat.le_of_ble_eq_true rfl) (Nat.le_of_ble_eq_true rfl)
  have j_187 : ∀ (y1 : Int32) (y2 : Int32) (z1 : Int32) (z2 : Int32) (z3 : Int32) (z4 : Int32) (z5 : Int32) (S_187 : SC) (H : Heap) (locs : List Loc) (ls : Array Slot), fL_act_j187 y1 y2 z1 z2 z3 z4 z5 S_187 = some r → ST D (wC cy ad Xr) A s S_187 H locs → lv_has ls 5 [(1, .int y1), (2, .int y2)] → W p l e ({ frames := 9, cells := 5, slots := 30, locals := 173 } : Room) s m [.ref (ad 0), .int x1].toArray below meth c H locs 1 6 (MQ below (QG D (wC cy ad Xr) A (some (.int r.1)) r.2) [.ref (ad 0), .int x1].toArray s 5 30 A) (F0 m 187 ls [.int z5, .int z4, .int z3, .int z2, .int z1, .ref (ad 0)]) := by
    intro y1 y2 z1 z2 z3 z4 z5 S_187 H locs ls hf T hl
    unfold fL_act_j187 at hf
    obtain ⟨v6, h5, hf⟩ := bnd_inv hf
    refine cg_S (As := [.int z4, .int z5]) (rest := [.int z3, .int z2, .int z1, .ref (ad 0)]) X T (kL_low l D cy ad Xr S_187 z4 z5 v6 h5) (va_cwS 2 hts gL_act_L_low rfl rfl rfl (by decide +kernel) ⟨Nat.le_of_ble_eq_true rfl, Nat.le_of_ble_eq_true rfl⟩) rfl hl.1 rfl (Nat.le_of_ble_eq_true rfl) dL_act_187 ⟨(Nat.le_of_ble_eq_true rfl), (Nat.le_of_ble_eq_true rfl)⟩ (st2 := [.int v6, .int z3, .int z2, .int z1, .ref (ad 0)]) (pc2 := 190) rfl rfl (fun H locs T => ?_)
    refine lv_iload_n hx hb dL_act_190 rfl (lv_at hl 1 rfl) ?_
    refine lv_if_eq (tgt := 198) hx hb dL_act_191 (by decide) (fun hc => ?_) (fun hc => ?_)
    · replace hf := ifp hc hf
      refine lv_iconst (v := 0) hx hb dL_act_198 (by decide) ?_
      refine W.widen (k := 1) (n := 6) (Nat.le_of_ble_eq_true rfl) (Nat.le_of_ble_eq_true rfl) ?_
      exact j_199 y1 z1 z2 z3 v6 0 S_187 _ _ _ hf T (lv_sub hl [0] rfl)
    · replace hf := ifn hc hf
      refine lv_iconst (v := 1) hx hb dL_act_194 (by decide) ?_
      refine lv_goto (tgt := 199) hx hb dL_act_195 (by decide) ?_
      refine W.widen (k := 1) (n := 6) (Nat.le_of_ble_eq_true rfl) (Nat.le_of_ble_eq_true rfl) ?_
      exact j_199 y1 z1 z2 z3 v6 1 S_187 _ _ _ hf T (lv_sub hl [0] rfl)
  have j_172 : ∀ (y1 : Int32) (y2 : Int32) (z1 : Int32) (z2 : Int32) (z3 : Int32) (S_172 : SC) (H : Heap) (locs : List Loc) (ls : Array Slot), fL_act_j172 y1 y2 z1 z2 z3 S_172 = some r → ST D (wC cy ad Xr) A s S_172 H locs → lv_has ls 5 [(1, .int y1), (2, .int y2)] → W p l e ({ frames := 9, cells := 5, slots := 30, locals := 173 } : Room) s m [.ref (ad 0), .int x1].toArray below meth c H locs 1 6 (MQ below (QG D (wC cy ad Xr) A (some (.int r.1)) r.2) [.ref (ad 0), .int x1].toArray s 5 30 A) (F0 m 172 ls [.int z3, .int z2, .int z1, .ref (ad 0)]) := by
    intro y1 y2 z1 z2 z3 S_172 H locs ls hf T hl
    unfold fL_act_j172 at hf
    refine lv_iload_n hx hb dL_act_172 rfl (lv_at hl 0 rfl) ?_
    refine lv_bipush (v := 12) hx hb dL_act_173 (by decide) ?_
    refine lv_ishr hx hb dL_act_175 ?_
    refine lv_iload_n hx hb dL_act_176 rfl (lv_at hl 1 rfl) ?_
    refine lv_if_eq (tgt := 185) hx hb dL_act_177 (by decide) (fun hc => ?_) (fun hc => ?_)
    · replace hf := ifp hc hf
      refine lv_bipush (v := 7) hx hb dL_act_185 (by decide) ?_
      refine W.widen (k := 1) (n := 6) (Nat.le_of_ble_eq_true rfl) (Nat.le_of_ble_eq_true rfl) ?_
      exact j_187 y1 y2 z1 z2 z3 (y1 >>> ((12 : Int32) &&& 31)) 7 S_172 _ _ _ hf T (lv_sub hl [0, 1] rfl)
    · replace hf := ifn hc hf
      refine lv_bipush (v := 9) hx hb dL_act_180 (by decide) ?_
      refine lv_goto (tgt := 187) hx hb dL_act_182 (by decide) ?_
      refine W.widen (k := 1) (n := 6) (Nat.le_of_ble_eq_true rfl) (Nat.le_of_ble_eq_true rfl) ?_
      exact j_187 y1 y2 z1 z2 z3 (y1 >>> ((12 : Int32) &&& 31)) 9 S_172 _ _ _ hf T (lv_sub hl [0, 1] rfl)
  have j_147 : ∀ (y1 : Int32) (y2 : Int32) (z1 : Int32) (z2 : Int32) (S_147 : SC) (H : Heap) (locs : List Loc) (ls : Array Slot), fL_act_j147 y1 y2 z1 z2 S_147 = some r → ST D (wC cy ad Xr) A s S_147 H locs → lv_has ls 5 [(1, .int y1), (2, .int y2)] → W p l e ({ frames := 9, cells := 5, slots := 30, locals := 173 } : Room) s m [.ref (ad 0), .int x1].toArray below meth c H locs 1 6 (MQ below (QG D (wC cy ad Xr) A (some (.int r.1)) r.2) [.ref (ad 0), .int x1].toArray s 5 30 A) (F0 m 147 ls [.int z2, .int z1, .ref (ad 0)]) := by
    intro y1 y2 z1 z2 S_147 H locs ls hf T hl
    unfold fL_act_j147 at hf
    refine lv_iload_n hx hb dL_act_147 rfl (lv_at hl 1 rfl) ?_
    refine lv_if_eq (tgt := 162) hx hb dL_act_148 (by decide) (fun hc => ?_) (fun hc => ?_)
    · replace hf := ifp hc hf
      refine lv_iconst (v := 1) hx hb dL_act_162 (by decide) ?_
      refine lv_iload_n hx hb dL_act_163 rfl (lv_at hl 0 rfl) ?_
      refine lv_bipush (v := 10) hx hb dL_act_164 (by decide) ?_
      refine lv_ishr hx hb dL_act_166 ?_
      refine lv_iconst (v := 2) hx hb dL_act_167 (by decide) ?_
      obtain ⟨v8, h7, hf⟩ := bnd_inv hf
      refine cg_S (As := [.int (y1 >>> ((10 : Int32) &&& 31)), .int 2]) (rest := [.int 1, .int z2, .int z1, .ref (ad 0)]) X T (kL_low l D cy ad Xr S_147 (y1 >>> ((10 : Int32) &&& 31)) 2 v8 h7) (va_cwS 2 hts gL_act_L_low rfl rfl rfl (by decide +kernel) ⟨Nat.le_of_ble_eq_true rfl, Nat.le_of_ble_eq_true rfl⟩) rfl hl.1 rfl (Nat.le_of_ble_eq_true rfl) dL_act_168 ⟨(Nat.le_of_ble_eq_true rfl), (Nat.le_of_ble_eq_true rfl)⟩ (st2 := [.int v8, .int 1, .int z2, .int z1, .ref (ad 0)]) (pc2 := 171) rfl rfl (fun H locs T => ?_)
      refine lv_iadd hx hb dL_act_171 ?_
      refine W.widen (k := 1) (n := 6) (Nat.le_of_ble_eq_true rfl) (Nat.le_of_ble_eq_true rfl) ?_
      exact j_172 y1 y2 z1 z2 ((1 : Int32) + v8) S_147 _ _ _ hf T (lv_sub hl [0, 1] rfl)
    · replace hf := ifn hc hf
      refine lv_iload_n hx hb dL_act_151 rfl (lv_at hl 0 rfl) ?_
      refine lv_bipush (v := 10) hx hb dL_act_152 (by decide) ?_
      refine lv_ishr hx hb dL_act_154 ?_
      refine lv_iconst (v := 4) hx hb dL_act_155 (by decide) ?_
      obtain ⟨v10, h9, hf⟩ := bnd_inv hf
      refine cg_S (As := [.int (y1 >>> ((10 : Int32) &&& 31)), .int 4]) (rest := [.int z2, .int z1, .ref (ad 0)]) X T (kL_low l D cy ad Xr S_147 (y1 >>> ((10 : Int32) &&& 31)) 4 v10 h9) (va_cwS 2 hts gL_act_L_low rfl rfl rfl (by decide +kernel) ⟨Nat.le_of_ble_eq_true rfl, Nat.le_of_ble_eq_true rfl⟩) rfl hl.1 rfl (Nat.le_of_ble_eq_true rfl) dL_act_156 ⟨(Nat.le_of_ble_eq_true rfl), (Nat.le_of_ble_eq_true rfl)⟩ (st2 := [.int v10, .int z2, .int z1, .ref (ad 0)]) (pc2 := 159) rfl rfl (fun H locs T => ?_)
      refine lv_goto (tgt := 172) hx hb dL_act_159 (by decide) ?_
      refine W.widen (k := 1) (n := 6) (Nat.le_of_ble_eq_true rfl) (Nat.le_of_ble_eq_true rfl) ?_
      exact j_172 y1 y2 z1 z2 v10 S_147 _ _ _ hf T (lv_sub hl [0, 1] rfl)
  have j_121 : ∀ (y1 : Int32) (y2 : Int32) (z1 : Int32) (S_121 : SC) (H : Heap) (locs : List Loc) (ls : Array Slot), fL_act_j121 y1 y2 z1 S_121 = some r → ST D (wC cy ad Xr) A s S_121 H locs → lv_has ls 5 [(1, .int y1), (2, .int y2)] → W p l e ({ frames := 9, cells := 5, slots := 30, locals := 173 } : Room) s m [.ref (ad 0), .int x1].toArray below meth c H locs 1 6 (MQ below (QG D (wC cy ad Xr) A (some (.int r.1)) r.2) [.ref (ad 0), .int x1].toArray s 5 30 A) (F0 m 121 ls [.int z1, .ref (ad 0)]) := by
    intro y1 y2 z1 S_121 H locs ls hf T hl
    unfold fL_act_j121 at hf
    refine lv_iload_n hx hb dL_act_121 rfl (lv_at hl 1 rfl) ?_
    refine lv_if_eq (tgt := 137) hx hb dL_act_122 (by decide) (fun hc => ?_) (fun hc => ?_)
    · replace hf := ifp hc hf
      refine lv_iconst (v := 3) hx hb dL_act_137 (by decide) ?_
      refine lv_iload_n hx hb dL_act_138 rfl (lv_at hl 0 rfl) ?_
      refine lv_bipush (v := 7) hx hb dL_act_139 (by decide) ?_
      refine lv_ishr hx hb dL_act_141 ?_
      refine lv_iconst (v := 2) hx hb dL_act_142 (by decide) ?_
      obtain ⟨v12, h11, hf⟩ := bnd_inv hf
      refine cg_S (As := [.int (y1 >>> ((7 : Int32) &&& 31)), .int 2]) (rest := [.int 3, .int z1, .ref (ad 0)]) X T (kL_low l D cy ad Xr S_121 (y1 >>> ((7 : Int32) &&& 31)) 2 v12 h11) (va_cwS 2 hts gL_act_L_low rfl rfl rfl (by decide +kernel) ⟨Nat.le_of_ble_eq_true rfl, Nat.le_of_ble_eq_true rfl⟩) rfl hl.1 rfl (Nat.le_of_ble_eq_true rfl) dL_act_143 ⟨(Nat.le_of_ble_eq_true rfl), (Nat.le_of_ble_eq_true rfl)⟩ (st2 := [.int v12, .int 3, .int z1, .ref (ad 0)]) (pc2 := 146) rfl rfl (fun H locs T => ?_)
      refine lv_iadd hx hb dL_act_146 ?_
      refine W.widen (k := 1) (n := 6) (Nat.le_of_ble_eq_true rfl) (Nat.le_of_ble_eq_true rfl) ?_
      exact j_147 y1 y2 z1 ((3 : Int32) + v12) S_121 _ _ _ hf T (lv_sub hl [0, 1] rfl)
    · replace hf := ifn hc hf
      refine lv_iload_n hx hb dL_act_125 rfl (lv_at hl 0 rfl) ?_
      refine lv_bipush (v := 7) hx hb dL_act_126 (by decide) ?_
      refine lv_ishr hx hb dL_act_128 ?_
      refine lv_bipush (v := 7) hx hb dL_act_129 (by decide) ?_
      obtain ⟨v14, h13, hf⟩ := bnd_inv hf
      refine cg_S (As := [.int (y1 >>> ((7 : Int32) &&& 31)), .int 7]) (rest := [.int z1, .ref (ad 0)]) X T (kL_low l D cy ad Xr S_121 (y1 >>> ((7 : Int32) &&& 31)) 7 v14 h13) (va_cwS 2 hts gL_act_L_low rfl rfl rfl (by decide +kernel) ⟨Nat.le_of_ble_eq_true rfl, Nat.le_of_ble_eq_true rfl⟩) rfl hl.1 rfl (Nat.le_of_ble_eq_true rfl) dL_act_131 ⟨(Nat.le_of_ble_eq_true rfl), (Nat.le_of_ble_eq_true rfl)⟩ (st2 := [.int v14, .int z1, .ref (ad 0)]) (pc2 := 134) rfl rfl (fun H locs T => ?_)
      refine lv_goto (tgt := 147) hx hb dL_act_134 (by decide) ?_
      refine W.widen (k := 1) (n := 6) (Nat.le_of_ble_eq_true rfl) (Nat.le_of_ble_eq_true rfl) ?_
      exact j_147 y1 y2 z1 v14 S_121 _ _ _ hf T (lv_sub hl [0, 1] rfl)
  have j_247 : ∀ (z1 : Int32) (z2 : Int32) (S_247 : SC) (H : Heap) (locs : List Loc) (ls : Array Slot), fL_act_j247 z1 z2 S_247 = some r → ST D (wC cy ad Xr) A s S_247 H locs → lv_has ls 5 [] → W p l e ({ frames := 9, cells := 5, slots := 30, locals := 173 } : Room) s m [.ref (ad 0), .int x1].toArray below meth c H locs 1 6 (MQ below (QG D (wC cy ad Xr) A (some (.int r.1)) r.2) [.ref (ad 0), .int x1].toArray s 5 30 A) (F0 m 247 ls [.int z2, .int z1, .ref (ad 0)]) := by
    intro z1 z2 S_247 H locs ls hf T hl
    unfold fL_act_j247 at hf
    obtain ⟨v16, h15, hf⟩ := bnd_inv hf
    refine cl_SW (As := [.ref (ad 0), .int z1, .int z2]) (rest := []) X hX hN T (kL_raise l hfl t1 t2 D cy ad Xr S_247 z1 z2 v16 h15) (vx_cwSW 3 hts gL_act_L_raise rfl rfl rfl (by decide +kernel) ⟨(Nat.le_of_ble_eq_true rfl), (Nat.le_of_ble_eq_true rfl)⟩) rfl hl.1 rfl (Nat.le_of_ble_eq_true rfl) dL_act_247 ⟨(Nat.le_of_ble_eq_true rfl), (Nat.le_of_ble_eq_true rfl)⟩ (st2 := [.int v16.1]) (pc2 := 250) (c2 := 3) (s2 := 18) rfl rfl rfl rfl (fun H locs T => ?_)
    exact rl_iw hf X T hr dL_act_250 (Nat.le_of_ble_eq_true rfl) (Nat.le_of_ble_eq_true rfl)
  have j_299 : ∀ (z1 : Int32) (S_299 : SC) (H : Heap) (locs : List Loc) (ls : Array Slot), fL_act_j299 z1 S_299 = some r → ST D (wC cy ad Xr) A s S_299 H locs → lv_has ls 5 [] → W p l e ({ frames := 9, cells := 5, slots := 30, locals := 173 } : Room) s m [.ref (ad 0), .int x1].toArray below meth c H locs 3 18 (MQ below (QG D (wC cy ad Xr) A (some (.int r.1)) r.2) [.ref (ad 0), .int x1].toArray s 5 30 A) (F0 m 299 ls [.int z1, .ref (ad 0)]) := by
    intro z1 S_299 H locs ls hf T hl
    unfold fL_act_j299 at hf
    obtain ⟨v18, h17, hf⟩ := bnd_inv hf
    refine cl_SW (As := [.ref (ad 0), .int z1]) (rest := []) X hX hN T (kL_play l hfl t1 t2 D cy ad Xr S_299 z1 v18 h17) (vx_cwSW 2 hts gL_act_L_play rfl rfl rfl (by decide +kernel) ⟨(Nat.le_of_ble_eq_true rfl), (Nat.le_of_ble_eq_true rfl)⟩) rfl hl.1 rfl (Nat.le_of_ble_eq_true rfl) dL_act_299 ⟨(Nat.le_of_ble_eq_true rfl), (Nat.le_of_ble_eq_true rfl)⟩ (st2 := [.int v18.1]) (pc2 := 302) (c2 := 5) (s2 := 30) rfl rfl rfl rfl (fun H locs T => ?_)
    exact rl_iw hf X T hr dL_act_302 (Nat.le_of_ble_eq_true rfl) (Nat.le_of_ble_eq_true rfl)
  have j_273 : ∀ (y1 : Int32) (S_273 : SC) (H : Heap) (locs : List Loc) (ls : Array Slot), fL_act_j273 y1 S_273 = some r → ST D (wC cy ad Xr) A s S_273 H locs → lv_has ls 5 [(1, .int y1)] → W p l e ({ frames := 9, cells := 5, slots := 30, locals := 173 } : Room) s m [.ref (ad 0), .int x1].toArray below meth c H locs 1 6 (MQ below (QG D (wC cy ad Xr) A (some (.int r.1)) r.2) [.ref (ad 0), .int x1].toArray s 5 30 A) (F0 m 273 ls [.ref (ad 0)]) := by
    intro y1 S_273 H locs ls hf T hl
    unfold fL_act_j273 at hf
    refine lv_iload_n hx hb dL_act_273 rfl (lv_at hl 0 rfl) ?_
    refine lv_iconst (v := 4) hx hb dL_act_274 (by decide) ?_
    refine lv_ishr hx hb dL_act_275 ?_
    refine lv_sipush (v := 20000) hx hb dL_act_276 (by decide) ?_
    obtain ⟨v20, h19, hf⟩ := bnd_inv hf
    refine cg_S (As := [.int (y1 >>> ((4 : Int32) &&& 31)), .int 20000]) (rest := [.ref (ad 0)]) X T (kL_low l D cy ad Xr S_273 (y1 >>> ((4 : Int32) &&& 31)) 20000 v20 h19) (va_cwS 2 hts gL_act_L_low rfl rfl rfl (by decide +kernel) ⟨Nat.le_of_ble_eq_true rfl, Nat.le_of_ble_eq_true rfl⟩) rfl hl.1 rfl (Nat.le_of_ble_eq_true rfl) dL_act_279 ⟨(Nat.le_of_ble_eq_true rfl), (Nat.le_of_ble_eq_true rfl)⟩ (st2 := [.int v20, .ref (ad 0)]) (pc2 := 282) rfl rfl (fun H locs T => ?_)
    refine lv_bipush (v := 100) hx hb dL_act_282 (by decide) ?_
    refine lv_isub hx hb dL_act_284 ?_
    refine lv_goto (tgt := 299) hx hb dL_act_285 (by decide) ?_
    refine W.widen (k := 3) (n := 18) (Nat.le_of_ble_eq_true rfl) (Nat.le_of_ble_eq_true rfl) ?_
    exact j_299 (v20 - 100) S_273 _ _ _ hf T (lv_sub hl [] rfl)
  have j_48 : ∀ (y1 : Int32) (y2 : Int32) (y3 : Int32) (z0 : Int32) (S_48 : SC) (H : Heap) (locs : List Loc) (ls : Array Slot), fL_act_j48 y1 y2 y3 z0 S_48 = some r → ST D (wC cy ad Xr) A s S_48 H locs → lv_has ls 5 [(0, .ref (ad 0)), (1, .int y1), (2, .int y2), (3, .int y3)] → W p l e ({ frames := 9, cells := 5, slots := 30, locals := 173 } : Room) s m [.ref (ad 0), .int x1].toArray below meth c H locs 1 6 (MQ below (QG D (wC cy ad Xr) A (some (.int r.1)) r.2) [.ref (ad 0), .int x1].toArray s 5 30 A) (F0 m 48 ls [.int z0]) := by
    intro y1 y2 y3 z0 S_48 H locs ls hf T hl
    unfold fL_act_j48 at hf
    refine lv_istore (lv' := [(4, .int z0), (0, .ref (ad 0)), (1, .int y1), (2, .int y2), (3, .int y3)]) hx hb dL_act_48 hl (by decide) rfl (fun ls hl => ?_)
    refine lv_iload_n hx hb dL_act_50 rfl (lv_at hl 2 rfl) ?_
    refine lv_bipush (v := 24) hx hb dL_act_51 (by decide) ?_
    obtain ⟨v22, h21, hf⟩ := bnd_inv hf
    refine cg_S (As := [.int y1, .int 24]) (rest := []) X T (kL_low l D cy ad Xr S_48 y1 24 v22 h21) (va_cwS 2 hts gL_act_L_low rfl rfl rfl (by decide +kernel) ⟨Nat.le_of_ble_eq_true rfl, Nat.le_of_ble_eq_true rfl⟩) rfl hl.1 rfl (Nat.le_of_ble_eq_true rfl) dL_act_53 ⟨(Nat.le_of_ble_eq_true rfl), (Nat.le_of_ble_eq_true rfl)⟩ (st2 := [.int v22]) (pc2 := 56) rfl rfl (fun H locs T => ?_)
    refine lv_topi (fun v23 e_v23 => ?_)
    replace hf := nm_use hf e_v23
    by_cases c0 : v23 = 0
    · replace hf := ifp c0 hf
      rw [c0]
      refine lv_tableIn (off := 40) (tgt := 96) hx hb dL_act_56 (by decide) (by decide) (by decide) (by decide) ?_
      refine lv_aload_n hx hb dL_act_96 rfl (lv_at hl 1 rfl) ?_
      refine lv_iload_n hx hb dL_act_97 rfl (lv_at hl 3 rfl) ?_
      refine lv_if_eq (tgt := 112) hx hb dL_act_98 (by decide) (fun hc => ?_) (fun hc => ?_)
      · replace hf := ifp hc hf
        refine lv_iconst (v := 2) hx hb dL_act_112 (by decide) ?_
        refine lv_iload_n hx hb dL_act_113 rfl (lv_at hl 2 rfl) ?_
        refine lv_iconst (v := 4) hx hb dL_act_114 (by decide) ?_
        refine lv_ishr hx hb dL_act_115 ?_
        refine lv_iconst (v := 3) hx hb dL_act_116 (by decide) ?_
        obtain ⟨v25, h24, hf⟩ := bnd_inv hf
        refine cg_S (As := [.int (y1 >>> ((4 : Int32) &&& 31)), .int 3]) (rest := [.int 2, .ref (ad 0)]) X T (kL_low l D cy ad Xr S_48 (y1 >>> ((4 : Int32) &&& 31)) 3 v25 h24) (va_cwS 2 hts gL_act_L_low rfl rfl rfl (by decide +kernel) ⟨Nat.le_of_ble_eq_true rfl, Nat.le_of_ble_eq_true rfl⟩) rfl hl.1 rfl (Nat.le_of_ble_eq_true rfl) dL_act_117 ⟨(Nat.le_of_ble_eq_true rfl), (Nat.le_of_ble_eq_true rfl)⟩ (st2 := [.int v25, .int 2, .ref (ad 0)]) (pc2 := 120) rfl rfl (fun H locs T => ?_)
        refine lv_iadd hx hb dL_act_120 ?_
        refine W.widen (k := 1) (n := 6) (Nat.le_of_ble_eq_true rfl) (Nat.le_of_ble_eq_true rfl) ?_
        exact j_121 y1 y2 ((2 : Int32) + v25) S_48 _ _ _ hf T (lv_sub hl [2, 3] rfl)
      · replace hf := ifn hc hf
        refine lv_iload_n hx hb dL_act_101 rfl (lv_at hl 2 rfl) ?_
        refine lv_iconst (v := 4) hx hb dL_act_102 (by decide) ?_
        refine lv_ishr hx hb dL_act_103 ?_
        refine lv_bipush (v := 7) hx hb dL_act_104 (by decide) ?_
        obtain ⟨v27, h26, hf⟩ := bnd_inv hf
        refine cg_S (As := [.int (y1 >>> ((4 : Int32) &&& 31)), .int 7]) (rest := [.ref (ad 0)]) X T (kL_low l D cy ad Xr S_48 (y1 >>> ((4 : Int32) &&& 31)) 7 v27 h26) (va_cwS 2 hts gL_act_L_low rfl rfl rfl (by decide +kernel) ⟨Nat.le_of_ble_eq_true rfl, Nat.le_of_ble_eq_true rfl⟩) rfl hl.1 rfl (Nat.le_of_ble_eq_true rfl) dL_act_106 ⟨(Nat.le_of_ble_eq_true rfl), (Nat.le_of_ble_eq_true rfl)⟩ (st2 := [.int v27, .ref (ad 0)]) (pc2 := 109) rfl rfl (fun H locs T => ?_)
        refine lv_goto (tgt := 121) hx hb dL_act_109 (by decide) ?_
        refine W.widen (k := 1) (n := 6) (Nat.le_of_ble_eq_true rfl) (Nat.le_of_ble_eq_true rfl) ?_
        exact j_121 y1 y2 v27 S_48 _ _ _ hf T (lv_sub hl [2, 3] rfl)
    · replace hf := ifn c0 hf
      by_cases c1 : v23 = 1
      · replace hf := ifp c1 hf
        rw [c1]
        refine lv_tableIn (off := 157) (tgt := 213) hx hb dL_act_56 (by decide) (by decide) (by decide) (by decide) ?_
        refine lv_aload_n hx hb dL_act_213 rfl (lv_at hl 1 rfl) ?_
        obtain ⟨v29, h28, hf⟩ := bnd_inv hf
        refine cl_SW (As := [.ref (ad 0)]) (rest := []) X hX hN T (kL_takeBack l hfl t1 t2 D cy ad Xr S_48 v29 h28) (vx_cwSW 1 hts gL_act_L_takeBack rfl rfl rfl (by decide +kernel) ⟨(Nat.le_of_ble_eq_true rfl), (Nat.le_of_ble_eq_true rfl)⟩) rfl hl.1 rfl (Nat.le_of_ble_eq_true rfl) dL_act_214 ⟨(Nat.le_of_ble_eq_true rfl), (Nat.le_of_ble_eq_true rfl)⟩ (st2 := [.int v29.1]) (pc2 := 217) (c2 := 2) (s2 := 12) rfl rfl rfl rfl (fun H locs T => ?_)
        exact rl_iw hf X T hr dL_act_217 (Nat.le_of_ble_eq_true rfl) (Nat.le_of_ble_eq_true rfl)
      · replace hf := ifn c1 hf
        by_cases c2 : v23 = 2
        · replace hf := ifp c2 hf
          rw [c2]
          refine lv_tableIn (off := 162) (tgt := 218) hx hb dL_act_56 (by decide) (by decide) (by decide) (by decide) ?_
          refine lv_aload_n hx hb dL_act_218 rfl (lv_at hl 1 rfl) ?_
          refine lv_iload hx hb dL_act_219 (lv_at hl 0 rfl) ?_
          refine lv_iload_n hx hb dL_act_221 rfl (lv_at hl 3 rfl) ?_
          refine lv_if_eq (tgt := 239) hx hb dL_act_222 (by decide) (fun hc => ?_) (fun hc => ?_)
          · replace hf := ifp hc hf
            refine lv_iload_n hx hb dL_act_239 rfl (lv_at hl 2 rfl) ?_
            refine lv_bipush (v := 9) hx hb dL_act_240 (by decide) ?_
            refine lv_ishr hx hb dL_act_242 ?_
            refine lv_iconst (v := 4) hx hb dL_act_243 (by decide) ?_
            obtain ⟨v31, h30, hf⟩ := bnd_inv hf
            refine cg_S (As := [.int (y1 >>> ((9 : Int32) &&& 31)), .int 4]) (rest := [.int z0, .ref (ad 0)]) X T (kL_low l D cy ad Xr S_48 (y1 >>> ((9 : Int32) &&& 31)) 4 v31 h30) (va_cwS 2 hts gL_act_L_low rfl rfl rfl (by decide +kernel) ⟨Nat.le_of_ble_eq_true rfl, Nat.le_of_ble_eq_true rfl⟩) rfl hl.1 rfl (Nat.le_of_ble_eq_true rfl) dL_act_244 ⟨(Nat.le_of_ble_eq_true rfl), (Nat.le_of_ble_eq_true rfl)⟩ (st2 := [.int v31, .int z0, .ref (ad 0)]) (pc2 := 247) rfl rfl (fun H locs T => ?_)
            refine W.widen (k := 1) (n := 6) (Nat.le_of_ble_eq_true rfl) (Nat.le_of_ble_eq_true rfl) ?_
            exact j_247 z0 v31 S_48 _ _ _ hf T (lv_sub hl [] rfl)
          · replace hf := ifn hc hf
            refine lv_iload_n hx hb dL_act_225 rfl (lv_at hl 2 rfl) ?_
            refine lv_bipush (v := 9) hx hb dL_act_226 (by decide) ?_
            refine lv_ishr hx hb dL_act_228 ?_
            refine lv_bipush (v := 7) hx hb dL_act_229 (by decide) ?_
            obtain ⟨v33, h32, hf⟩ := bnd_inv hf
            refine cg_S (As := [.int (y1 >>> ((9 : Int32) &&& 31)), .int 7]) (rest := [.int z0, .ref (ad 0)]) X T (kL_low l D cy ad Xr S_48 (y1 >>> ((9 : Int32) &&& 31)) 7 v33 h32) (va_cwS 2 hts gL_act_L_low rfl rfl rfl (by decide +kernel) ⟨Nat.le_of_ble_eq_true rfl, Nat.le_of_ble_eq_true rfl⟩) rfl hl.1 rfl (Nat.le_of_ble_eq_true rfl) dL_act_231 ⟨(Nat.le_of_ble_eq_true rfl), (Nat.le_of_ble_eq_true rfl)⟩ (st2 := [.int v33, .int z0, .ref (ad 0)]) (pc2 := 234) rfl rfl (fun H locs T => ?_)
            refine lv_iconst (v := 1) hx hb dL_act_234 (by decide) ?_
            refine lv_isub hx hb dL_act_235 ?_
            refine lv_goto (tgt := 247) hx hb dL_act_236 (by decide) ?_
            refine W.widen (k := 1) (n := 6) (Nat.le_of_ble_eq_true rfl) (Nat.le_of_ble_eq_true rfl) ?_
            exact j_247 z0 (v33 - 1) S_48 _ _ _ hf T (lv_sub hl [] rfl)
        · replace hf := ifn c2 hf
          by_cases c3 : v23 = 3
          · replace hf := ifp c3 hf
            rw [c3]
            refine lv_tableIn (off := 162) (tgt := 218) hx hb dL_act_56 (by decide) (by decide) (by decide) (by decide) ?_
            refine lv_aload_n hx hb dL_act_218 rfl (lv_at hl 1 rfl) ?_
            refine lv_iload hx hb dL_act_219 (lv_at hl 0 rfl) ?_
            refine lv_iload_n hx hb dL_act_221 rfl (lv_at hl 3 rfl) ?_
            refine lv_if_eq (tgt := 239) hx hb dL_act_222 (by decide) (fun hc => ?_) (fun hc => ?_)
            · replace hf := ifp hc hf
              refine lv_iload_n hx hb dL_act_239 rfl (lv_at hl 2 rfl) ?_
              refine lv_bipush (v := 9) hx hb dL_act_240 (by decide) ?_
              refine lv_ishr hx hb dL_act_242 ?_
              refine lv_iconst (v := 4) hx hb dL_act_243 (by decide) ?_
              obtain ⟨v35, h34, hf⟩ := bnd_inv hf
              refine cg_S (As := [.int (y1 >>> ((9 : Int32) &&& 31)), .int 4]) (rest := [.int z0, .ref (ad 0)]) X T (kL_low l D cy ad Xr S_48 (y1 >>> ((9 : Int32) &&& 31)) 4 v35 h34) (va_cwS 2 hts gL_act_L_low rfl rfl rfl (by decide +kernel) ⟨Nat.le_of_ble_eq_true rfl, Nat.le_of_ble_eq_true rfl⟩) rfl hl.1 rfl (Nat.le_of_ble_eq_true rfl) dL_act_244 ⟨(Nat.le_of_ble_eq_true rfl), (Nat.le_of_ble_eq_true rfl)⟩ (st2 := [.int v35, .int z0, .ref (ad 0)]) (pc2 := 247) rfl rfl (fun H locs T => ?_)
              refine W.widen (k := 1) (n := 6) (Nat.le_of_ble_eq_true rfl) (Nat.le_of_ble_eq_true rfl) ?_
              exact j_247 z0 v35 S_48 _ _ _ hf T (lv_sub hl [] rfl)
            · replace hf := ifn hc hf
              refine lv_iload_n hx hb dL_act_225 rfl (lv_at hl 2 rfl) ?_
              refine lv_bipush (v := 9) hx hb dL_act_226 (by decide) ?_
              refine lv_ishr hx hb dL_act_228 ?_
              refine lv_bipush (v := 7) hx hb dL_act_229 (by decide) ?_
              obtain ⟨v37, h36, hf⟩ := bnd_inv hf
              refine cg_S (As := [.int (y1 >>> ((9 : Int32) &&& 31)), .int 7]) (rest := [.int z0, .ref (ad 0)]) X T (kL_low l D cy ad Xr S_48 (y1 >>> ((9 : Int32) &&& 31)) 7 v37 h36) (va_cwS 2 hts gL_act_L_low rfl rfl rfl (by decide +kernel) ⟨Nat.le_of_ble_eq_true rfl, Nat.le_of_ble_eq_true rfl⟩) rfl hl.1 rfl (Nat.le_of_ble_eq_true rfl) dL_act_231 ⟨(Nat.le_of_ble_eq_true rfl), (Nat.le_of_ble_eq_true rfl)⟩ (st2 := [.int v37, .int z0, .ref (ad 0)]) (pc2 := 234) rfl rfl (fun H locs T => ?_)
              refine lv_iconst (v := 1) hx hb dL_act_234 (by decide) ?_
              refine lv_isub hx hb dL_act_235 ?_
              refine lv_goto (tgt := 247) hx hb dL_act_236 (by decide) ?_
              refine W.widen (k := 1) (n := 6) (Nat.le_of_ble_eq_true rfl) (Nat.le_of_ble_eq_true rfl) ?_
              exact j_247 z0 (v37 - 1) S_48 _ _ _ hf T (lv_sub hl [] rfl)
          · replace hf := ifn c3 hf
            by_cases c4 : v23 = 4
            · replace hf := ifp c4 hf
              rw [c4]
              refine lv_tableIn (off := 162) (tgt := 218) hx hb dL_act_56 (by decide) (by decide) (by decide) (by decide) ?_
              refine lv_aload_n hx hb dL_act_218 rfl (lv_at hl 1 rfl) ?_
              refine lv_iload hx hb dL_act_219 (lv_at hl 0 rfl) ?_
              refine lv_iload_n hx hb dL_act_221 rfl (lv_at hl 3 rfl) ?_
              refine lv_if_eq (tgt := 239) hx hb dL_act_222 (by decide) (fun hc => ?_) (fun hc => ?_)
              · replace hf := ifp hc hf
                refine lv_iload_n hx hb dL_act_239 rfl (lv_at hl 2 rfl) ?_
                refine lv_bipush (v := 9) hx hb dL_act_240 (by decide) ?_
                refine lv_ishr hx hb dL_act_242 ?_
                refine lv_iconst (v := 4) hx hb dL_act_243 (by decide) ?_
                obtain ⟨v39, h38, hf⟩ := bnd_inv hf
                refine cg_S (As := [.int (y1 >>> ((9 : Int32) &&& 31)), .int 4]) (rest := [.int z0, .ref (ad 0)]) X T (kL_low l D cy ad Xr S_48 (y1 >>> ((9 : Int32) &&& 31)) 4 v39 h38) (va_cwS 2 hts gL_act_L_low rfl rfl rfl (by decide +kernel) ⟨Nat.le_of_ble_eq_true rfl, Nat.le_of_ble_eq_true rfl⟩) rfl hl.1 rfl (Nat.le_of_ble_eq_true rfl) dL_act_244 ⟨(Nat.le_of_ble_eq_true rfl), (Nat.le_of_ble_eq_true rfl)⟩ (st2 := [.int v39, .int z0, .ref (ad 0)]) (pc2 := 247) rfl rfl (fun H locs T => ?_)
                refine W.widen (k := 1) (n := 6) (Nat.le_of_ble_eq_true rfl) (Nat.le_of_ble_eq_true rfl) ?_
                exact j_247 z0 v39 S_48 _ _ _ hf T (lv_sub hl [] rfl)
              · replace hf := ifn hc hf
                refine lv_iload_n hx hb dL_act_225 rfl (lv_at hl 2 rfl) ?_
                refine lv_bipush (v := 9) hx hb dL_act_226 (by decide) ?_
                refine lv_ishr hx hb dL_act_228 ?_
                refine lv_bipush (v := 7) hx hb dL_act_229 (by decide) ?_
                obtain ⟨v41, h40, hf⟩ := bnd_inv hf
                refine cg_S (As := [.int (y1 >>> ((9 : Int32) &&& 31)), .int 7]) (rest := [.int z0, .ref (ad 0)]) X T (kL_low l D cy ad Xr S_48 (y1 >>> ((9 : Int32) &&& 31)) 7 v41 h40) (va_cwS 2 hts gL_act_L_low rfl rfl rfl (by decide +kernel) ⟨Nat.le_of_ble_eq_true rfl, Nat.le_of_ble_eq_true rfl⟩) rfl hl.1 rfl (Nat.le_of_ble_eq_true rfl) dL_act_231 ⟨(Nat.le_of_ble_eq_true rfl), (Nat.le_of_ble_eq_true rfl)⟩ (st2 := [.int v41, .int z0, .ref (ad 0)]) (pc2 := 234) rfl rfl (fun H locs T => ?_)
                refine lv_iconst (v := 1) hx hb dL_act_234 (by decide) ?_
                refine lv_isub hx hb dL_act_235 ?_
                refine lv_goto (tgt := 247) hx hb dL_act_236 (by decide) ?_
                refine W.widen (k := 1) (n := 6) (Nat.le_of_ble_eq_true rfl) (Nat.le_of_ble_eq_true rfl) ?_
                exact j_247 z0 (v41 - 1) S_48 _ _ _ hf T (lv_sub hl [] rfl)
            · replace hf := ifn c4 hf
              by_cases c5 : v23 = 5
              · replace hf := ifp c5 hf
                rw [c5]
                refine lv_tableIn (off := 162) (tgt := 218) hx hb dL_act_56 (by decide) (by decide) (by decide) (by decide) ?_
                refine lv_aload_n hx hb dL_act_218 rfl (lv_at hl 1 rfl) ?_
                refine lv_iload hx hb dL_act_219 (lv_at hl 0 rfl) ?_
                refine lv_iload_n hx hb dL_act_221 rfl (lv_at hl 3 rfl) ?_
                refine lv_if_eq (tgt := 239) hx hb dL_act_222 (by decide) (fun hc => ?_) (fun hc => ?_)
                · replace hf := ifp hc hf
                  refine lv_iload_n hx hb dL_act_239 rfl (lv_at hl 2 rfl) ?_
                  refine lv_bipush (v := 9) hx hb dL_act_240 (by decide) ?_
                  refine lv_ishr hx hb dL_act_242 ?_
                  refine lv_iconst (v := 4) hx hb dL_act_243 (by decide) ?_
                  obtain ⟨v43, h42, hf⟩ := bnd_inv hf
                  refine cg_S (As := [.int (y1 >>> ((9 : Int32) &&& 31)), .int 4]) (rest := [.int z0, .ref (ad 0)]) X T (kL_low l D cy ad Xr S_48 (y1 >>> ((9 : Int32) &&& 31)) 4 v43 h42) (va_cwS 2 hts gL_act_L_low rfl rfl rfl (by decide +kernel) ⟨Nat.le_of_ble_eq_true rfl, Nat.le_of_ble_eq_true rfl⟩) rfl hl.1 rfl (Nat.le_of_ble_eq_true rfl) dL_act_244 ⟨(Nat.le_of_ble_eq_true rfl), (Nat.le_of_ble_eq_true rfl)⟩ (st2 := [.int v43, .int z0, .ref (ad 0)]) (pc2 := 247) rfl rfl (fun H locs T => ?_)
                  refine W.widen (k := 1) (n := 6) (Nat.le_of_ble_eq_true rfl) (Nat.le_of_ble_eq_true rfl) ?_
                  exact j_247 z0 v43 S_48 _ _ _ hf T (lv_sub hl [] rfl)
                · replace hf := ifn hc hf
                  refine lv_iload_n hx hb dL_act_225 rfl (lv_at hl 2 rfl) ?_
                  refine lv_bipush (v := 9) hx hb dL_act_226 (by decide) ?_
                  refine lv_ishr hx hb dL_act_228 ?_
                  refine lv_bipush (v := 7) hx hb dL_act_229 (by decide) ?_
                  obtain ⟨v45, h44, hf⟩ := bnd_inv hf
                  refine cg_S (As := [.int (y1 >>> ((9 : Int32) &&& 31)), .int 7]) (rest := [.int z0, .ref (ad 0)]) X T (kL_low l D cy ad Xr S_48 (y1 >>> ((9 : Int32) &&& 31)) 7 v45 h44) (va_cwS 2 hts gL_act_L_low rfl rfl rfl (by decide +kernel) ⟨Nat.le_of_ble_eq_true rfl, Nat.le_of_ble_eq_true rfl⟩) rfl hl.1 rfl (Nat.le_of_ble_eq_true rfl) dL_act_231 ⟨(Nat.le_of_ble_eq_true rfl), (Nat.le_of_ble_eq_true rfl)⟩ (st2 := [.int v45, .int z0, .ref (ad 0)]) (pc2 := 234) rfl rfl (fun H locs T => ?_)
                  refine lv_iconst (v := 1) hx hb dL_act_234 (by decide) ?_
                  refine lv_isub hx hb dL_act_235 ?_
                  refine lv_goto (tgt := 247) hx hb dL_act_236 (by decide) ?_
                  refine W.widen (k := 1) (n := 6) (Nat.le_of_ble_eq_true rfl) (Nat.le_of_ble_eq_true rfl) ?_
                  exact j_247 z0 (v45 - 1) S_48 _ _ _ hf T (lv_sub hl [] rfl)
              · replace hf := ifn c5 hf
                refine lv_tableOut (tgt := 251) hx hb dL_act_56 (tb_out5 c0 c1 c2 c3 c4 c5) (by decide) ?_
                refine lv_iload_n hx hb dL_act_251 rfl (lv_at hl 4 rfl) ?_
                refine lv_if_ge (tgt := 264) hx hb dL_act_252 (by decide) (fun hc => ?_) (fun hc => ?_)
                · replace hf := ifp hc hf
                  refine lv_aload_n hx hb dL_act_264 rfl (lv_at hl 1 rfl) ?_
                  refine lv_iload_n hx hb dL_act_265 rfl (lv_at hl 3 rfl) ?_
                  refine lv_if_ne (tgt := 273) hx hb dL_act_266 (by decide) (fun hc => ?_) (fun hc => ?_)
                  · replace hf := ifn hc hf
                    refine W.widen (k := 1) (n := 6) (Nat.le_of_ble_eq_true rfl) (Nat.le_of_ble_eq_true rfl) ?_
                    exact j_273 y1 S_48 _ _ _ hf T (lv_sub hl [2] rfl)
                  · replace hf := ifp hc hf
                    refine lv_iload_n hx hb dL_act_269 rfl (lv_at hl 4 rfl) ?_
                    refine lv_if_ne (tgt := 288) hx hb dL_act_270 (by decide) (fun hc => ?_) (fun hc => ?_)
                    · replace hf := ifn hc hf
                      refine lv_aload_n hx hb dL_act_288 rfl (lv_at hl 1 rfl) ?_
                      refine lv_iload_n hx hb dL_act_289 rfl (lv_at hl 2 rfl) ?_
                      refine lv_iconst (v := 4) hx hb dL_act_290 (by decide) ?_
                      refine lv_ishr hx hb dL_act_291 ?_
                      refine lv_iload_n hx hb dL_act_292 rfl (lv_at hl 4 rfl) ?_
                      obtain ⟨v47, h46, hf⟩ := bnd_inv hf
                      refine cg_S (As := [.int (y1 >>> ((4 : Int32) &&& 31)), .int y3]) (rest := [.ref (ad 0), .ref (ad 0)]) X T (kL_low l D cy ad Xr S_48 (y1 >>> ((4 : Int32) &&& 31)) y3 v47 h46) (va_cwS 2 hts gL_act_L_low rfl rfl rfl (by decide +kernel) ⟨Nat.le_of_ble_eq_true rfl, Nat.le_of_ble_eq_true rfl⟩) rfl hl.1 rfl (Nat.le_of_ble_eq_true rfl) dL_act_293 ⟨(Nat.le_of_ble_eq_true rfl), (Nat.le_of_ble_eq_true rfl)⟩ (st2 := [.int v47, .ref (ad 0), .ref (ad 0)]) (pc2 := 296) rfl rfl (fun H locs T => ?_)
                      obtain ⟨v49, h48, hf⟩ := bnd_inv hf
                      refine cl_SW (As := [.ref (ad 0), .int v47]) (rest := [.ref (ad 0)]) X hX hN T (kL_turnAt l hfl t1 t2 D cy ad Xr S_48 v47 v49 h48) (vx_cwSW 2 hts gL_act_L_turnAt rfl rfl rfl (by decide +kernel) ⟨(Nat.le_of_ble_eq_true rfl), (Nat.le_of_ble_eq_true rfl)⟩) rfl hl.1 rfl (Nat.le_of_ble_eq_true rfl) dL_act_296 ⟨(Nat.le_of_ble_eq_true rfl), (Nat.le_of_ble_eq_true rfl)⟩ (st2 := [.int v49.1, .ref (ad 0)]) (pc2 := 299) (c2 := 3) (s2 := 18) rfl rfl rfl rfl (fun H locs T => ?_)
                      refine W.widen (k := 3) (n := 18) (Nat.le_of_ble_eq_true rfl) (Nat.le_of_ble_eq_true rfl) ?_
                      exact j_299 v49.1 v49.2 _ _ _ hf T (lv_sub hl [] rfl)
                    · replace hf := ifp hc hf
                      refine W.widen (k := 1) (n := 6) (Nat.le_of_ble_eq_true rfl) (Nat.le_of_ble_eq_true rfl) ?_
                      exact j_273 y1 S_48 _ _ _ hf T (lv_sub hl [2] rfl)
                · replace hf := ifn hc hf
                  refine lv_aload_n hx hb dL_act_255 rfl (lv_at hl 1 rfl) ?_
                  refine lv_iload hx hb dL_act_256 (lv_at hl 0 rfl) ?_
                  obtain ⟨v51, h50, hf⟩ := bnd_inv hf
                  refine cl_SW (As := [.ref (ad 0), .int z0]) (rest := []) X hX hN T (kL_place l hfl t1 t2 D cy ad Xr S_48 z0 v51 h50) (vx_cwSW 2 hts gL_act_L_place rfl rfl rfl (by decide +kernel) ⟨(Nat.le_of_ble_eq_true rfl), (Nat.le_of_ble_eq_true rfl)⟩) rfl hl.1 rfl (Nat.le_of_ble_eq_true rfl) dL_act_258 ⟨(Nat.le_of_ble_eq_true rfl), (Nat.le_of_ble_eq_true rfl)⟩ (st2 := [.int v51.1]) (pc2 := 261) (c2 := 3) (s2 := 18) rfl rfl rfl rfl (fun H locs T => ?_)
                  refine lv_goto (tgt := 302) hx hb dL_act_261 (by decide) ?_
                  exact rl_iw hf X T hr dL_act_302 (Nat.le_of_ble_eq_true rfl) (Nat.le_of_ble_eq_true rfl)
  have j_17 : ∀ (y1 : Int32) (z0 : Int32) (S_17 : SC) (H : Heap) (locs : List Loc) (ls : Array Slot), fL_act_j17 y1 z0 S_17 = some r → ST D (wC cy ad Xr) A s S_17 H locs → lv_has ls 5 [(0, .ref (ad 0)), (1, .int y1)] → W p l e ({ frames := 9, cells := 5, slots := 30, locals := 173 } : Room) s m [.ref (ad 0), .int x1].toArray below meth c H locs 0 0 (MQ below (QG D (wC cy ad Xr) A (some (.int r.1)) r.2) [.ref (ad 0), .int x1].toArray s 5 30 A) (F0 m 17 ls [.int z0]) := by
    intro y1 z0 S_17 H locs ls hf T hl
    unfold fL_act_j17 at hf
    refine lv_istore_n (lv' := [(2, .int z0), (0, .ref (ad 0)), (1, .int y1)]) hx hb dL_act_17 rfl hl (by decide) rfl (fun ls hl => ?_)
    refine lv_aload_n hx hb dL_act_18 rfl (lv_at hl 1 rfl) ?_
    obtain ⟨v53, h52, hf⟩ := bnd_inv hf
    refine cl_SW (As := [.ref (ad 0)]) (rest := []) X hX hN T (kL_turnCount l hfl t1 t2 D cy ad Xr S_17 v53 h52) (vx_cwSW 1 hts gL_act_L_turnCount rfl rfl rfl (by decide +kernel) ⟨(Nat.le_of_ble_eq_true rfl), (Nat.le_of_ble_eq_true rfl)⟩) rfl hl.1 rfl (Nat.le_of_ble_eq_true rfl) dL_act_19 ⟨(Nat.le_of_ble_eq_true rfl), (Nat.le_of_ble_eq_true rfl)⟩ (st2 := [.int v53.1]) (pc2 := 22) (c2 := 1) (s2 := 6) rfl rfl rfl rfl (fun H locs T => ?_)
    refine lv_istore_n (lv' := [(3, .int v53.1), (2, .int z0), (0, .ref (ad 0)), (1, .int y1)]) hx hb dL_act_22 rfl hl (by decide) rfl (fun ls hl => ?_)
    refine lv_iload_n hx hb dL_act_23 rfl (lv_at hl 1 rfl) ?_
    refine lv_if_eq (tgt := 40) hx hb dL_act_24 (by decide) (fun hc => ?_) (fun hc => ?_)
    · replace hf := ifp hc hf
      refine lv_iload_n hx hb dL_act_40 rfl (lv_at hl 3 rfl) ?_
      refine lv_iconst (v := 4) hx hb dL_act_41 (by decide) ?_
      refine lv_ishr hx hb dL_act_42 ?_
      refine lv_bipush (v := 9) hx hb dL_act_43 (by decide) ?_
      obtain ⟨v55, h54, hf⟩ := bnd_inv hf
      refine cg_S (As := [.int (y1 >>> ((4 : Int32) &&& 31)), .int 9]) (rest := []) X T (kL_low l D cy ad Xr v53.2 (y1 >>> ((4 : Int32) &&& 31)) 9 v55 h54) (va_cwS 2 hts gL_act_L_low rfl rfl rfl (by decide +kernel) ⟨Nat.le_of_ble_eq_true rfl, Nat.le_of_ble_eq_true rfl⟩) rfl hl.1 rfl (Nat.le_of_ble_eq_true rfl) dL_act_45 ⟨(Nat.le_of_ble_eq_true rfl), (Nat.le_of_ble_eq_true rfl)⟩ (st2 := [.int v55]) (pc2 := 48) rfl rfl (fun H locs T => ?_)
      refine W.widen (k := 1) (n := 6) (Nat.le_of_ble_eq_true rfl) (Nat.le_of_ble_eq_true rfl) ?_
      exact j_48 y1 z0 v53.1 v55 v53.2 _ _ _ hf T (lv_sub hl [2, 3, 1, 0] rfl)
    · replace hf := ifn hc hf
      refine lv_iload_n hx hb dL_act_27 rfl (lv_at hl 3 rfl) ?_
      refine lv_iconst (v := 4) hx hb dL_act_28 (by decide) ?_
      refine lv_ishr hx hb dL_act_29 ?_
      refine lv_bipush (v := 27) hx hb dL_act_30 (by decide) ?_
      obtain ⟨v57, h56, hf⟩ := bnd_inv hf
      refine cg_S (As := [.int (y1 >>> ((4 : Int32) &&& 31)), .int 27]) (rest := []) X T (kL_low l D cy ad Xr v53.2 (y1 >>> ((4 : Int32) &&& 31)) 27 v57 h56) (va_cwS 2 hts gL_act_L_low rfl rfl rfl (by decide +kernel) ⟨Nat.le_of_ble_eq_true rfl, Nat.le_of_ble_eq_true rfl⟩) rfl hl.1 rfl (Nat.le_of_ble_eq_true rfl) dL_act_32 ⟨(Nat.le_of_ble_eq_true rfl), (Nat.le_of_ble_eq_true rfl)⟩ (st2 := [.int v57]) (pc2 := 35) rfl rfl (fun H locs T => ?_)
      refine lv_iconst (v := 1) hx hb dL_act_35 (by decide) ?_
      refine lv_isub hx hb dL_act_36 ?_
      refine lv_goto (tgt := 48) hx hb dL_act_37 (by decide) ?_
      refine W.widen (k := 1) (n := 6) (Nat.le_of_ble_eq_true rfl) (Nat.le_of_ble_eq_true rfl) ?_
      exact j_48 y1 z0 v53.1 (v57 - 1) v53.2 _ _ _ hf T (lv_sub hl [2, 3, 1, 0] rfl)
  refine lv_iload_n hx hb dL_act_0 rfl (lv_at hl 1 rfl) ?_
  refine lv_bipush (v := 24) hx hb dL_act_1 (by decide) ?_
  refine lv_ishr hx hb dL_act_3 ?_
  refine lv_bipush (v := 9) hx hb dL_act_4 (by decide) ?_
  obtain ⟨v59, h58, hf⟩ := bnd_inv hf
  refine cg_S (As := [.int (x1 >>> ((24 : Int32) &&& 31)), .int 9]) (rest := []) X T (kL_low l D cy ad Xr S (x1 >>> ((24 : Int32) &&& 31)) 9 v59 h58) (va_cwS 2 hts gL_act_L_low rfl rfl rfl (by decide +kernel) ⟨Nat.le_of_ble_eq_true rfl, Nat.le_of_ble_eq_true rfl⟩) rfl hl.1 rfl (Nat.le_of_ble_eq_true rfl) dL_act_6 ⟨(Nat.le_of_ble_eq_true rfl), (Nat.le_of_ble_eq_true rfl)⟩ (st2 := [.int v59]) (pc2 := 9) rfl rfl (fun H locs T => ?_)
  refine lv_if_ne (tgt := 16) hx hb dL_act_9 (by decide) (fun hc => ?_) (fun hc => ?_)
  · replace hf := ifn hc hf
    refine lv_iconst (v := 0) hx hb dL_act_16 (by decide) ?_
    exact j_17 x1 0 S _ _ _ hf T (lv_sub hl [0, 1] rfl)
  · replace hf := ifp hc hf
    refine lv_iconst (v := 1) hx hb dL_act_12 (by decide) ?_
    refine lv_goto (tgt := 17) hx hb dL_act_13 (by decide) ?_
    exact j_17 x1 1 S _ _ _ hf T (lv_sub hl [0, 1] rfl)

noncomputable def fL_isBoardSo_j210 (y4 : Int32) (y5 : Int32) (S_210 : SC) : Option (Int32 × SC) :=
  if y5 = 0 then
    some (1, S_210)
  else
    if y4 = 0 then
      some (1, S_210)
    else
      some (0, S_210)
noncomputable def fL_isBoardSo_j193 (y4 : Int32) (y5 : Int32) (z0 : Int32) (S_193 : SC) : Option (Int32 × SC) :=
  if z0 = 0 then
    some (0, S_193)
  else
    if y4 = 0 then
      if y5 = 0 then
        some (0, S_193)
      else
        fL_isBoardSo_j210 y4 y5 S_193
    else
      fL_isBoardSo_j210 y4 y5 S_193
noncomputable def fL_isBoardSo_j192 (y4 : Int32) (y5 : Int32) (S_192 : SC) : Option (Int32 × SC) :=
  fL_isBoardSo_j193 y4 y5 0 S_192
noncomputable def fL_isBoardSo_j188 (y4 : Int32) (y5 : Int32) (S_188 : SC) : Option (Int32 × SC) :=
  fL_isBoardSo_j193 y4 y5 1 S_188
noncomputable def fL_isBoardSo_j166 (y4 : Int32) (y5 : Int32) (z0 : Int32) (S_166 : SC) : Option (Int32 × SC) :=
  if z0 = y5 then
    if (0 : Int32) ≤ y4 then
      fL_isBoardSo_j188 y4 y5 S_166
    else
      if y5 = 0 then
        bnd (fX3_played S_166) fun v2 =>
        if v2 = 0 then
          fL_isBoardSo_j188 y4 y5 S_166
        else
          fL_isBoardSo_j192 y4 y5 S_166
      else
        fL_isBoardSo_j192 y4 y5 S_166
  else
    fL_isBoardSo_j192 y4 y5 S_166
noncomputable def fL_isBoardSo_j133 (y2 : Int32) (y3 : Int32) (y4 : Int32) (z0 : Int32) (S_133 : SC) : Option (Int32 × SC) :=
  bndn (fX3_reached S_133 0) fun v4 =>
  if v4 = y2 then
    bndn (fX3_reached S_133 1) fun v6 =>
    if v6 = y3 then
      bnd (fX3_onTurn S_133) fun v8 =>
      if v8 = (-1) then
        fL_isBoardSo_j166 y4 z0 1 S_133
      else
        fL_isBoardSo_j166 y4 z0 0 S_133
    else
      fL_isBoardSo_j192 y4 z0 S_133
  else
    fL_isBoardSo_j192 y4 z0 S_133
noncomputable def fL_isBoardSo_j107 (y1 : Int32) (y2 : Int32) (y4 : Int32) (z0 : Int32) (z1 : Int32) (S_107 : SC) : Option ((Int32 × Int32 × Int32 × SC) ⊕ (Int32 × SC)) :=
  nm (z0 + z1 : Int32) fun v9 =>
  nm (y4 + 1 : Int32) fun v10 =>
  some (.inl (y2, v9, v10, S_107))
noncomputable def fL_isBoardSo_j91 (y1 : Int32) (y3 : Int32) (y4 : Int32) (y5 : Int32) (y6 : Int32) (z0 : Int32) (z1 : Int32) (S_91 : SC) : Option ((Int32 × Int32 × Int32 × SC) ⊕ (Int32 × SC)) :=
  nm (z0 + z1 : Int32) fun v11 =>
  if y5 < 10 then
    fL_isBoardSo_j107 y1 v11 y4 y3 0 S_91
  else
    fL_isBoardSo_j107 y1 v11 y4 y3 y6 S_91
noncomputable def fL_isBoardSo_j90 (y1 : Int32) (y3 : Int32) (y4 : Int32) (y5 : Int32) (y6 : Int32) (z0 : Int32) (S_90 : SC) : Option ((Int32 × Int32 × Int32 × SC) ⊕ (Int32 × SC)) :=
  fL_isBoardSo_j91 y1 y3 y4 y5 y6 z0 0 S_90
noncomputable def fL_isBoardSo_j73 (y1 : Int32) (y2 : Int32) (y3 : Int32) (y4 : Int32) (y5 : Int32) (y6 : Int32) (S_73 : SC) : Option ((Int32 × Int32 × Int32 × SC) ⊕ (Int32 × SC)) :=
  if y5 < 0 then
    fL_isBoardSo_j90 y1 y3 y4 y5 y6 y2 S_73
  else
    if (2 : Int32) ≤ y5 then
      fL_isBoardSo_j90 y1 y3 y4 y5 y6 y2 S_73
    else
      fL_isBoardSo_j91 y1 y3 y4 y5 y6 y2 y6 S_73
noncomputable def fL_isBoardSo_j51 (y1 : Int32) (y2 : Int32) (y3 : Int32) (y4 : Int32) (y5 : Int32) (y6 : Int32) (S_51 : SC) : Option ((Int32 × Int32 × Int32 × SC) ⊕ (Int32 × SC)) :=
  if (11 : Int32) < y5 then
    ex <|
    some (0, S_51)
  else
    if y5 ≤ 1 then
      fL_isBoardSo_j73 y1 y2 y3 y4 y5 y6 S_51
    else
      if (10 : Int32) ≤ y5 then
        fL_isBoardSo_j73 y1 y2 y3 y4 y5 y6 S_51
      else
        ex <|
        some (0, S_51)
noncomputable def fL_isBoardSo_b7 (y1 : Int32) : (Int32 × Int32 × Int32 × SC) → Option ((Int32 × Int32 × Int32 × SC) ⊕ (Int32 × SC)) :=
  fun st => match st with
    | (y2, y3, y4, S_7) =>
      if y1 ≤ y4 then
        ex <|
        bnd (fL_turnCount S_7) fun v13 =>
        bnd (fX3_winner v13.2) fun v15 =>
        if v15 < 0 then
          fL_isBoardSo_j133 y2 y3 v13.1 0 v13.2
        else
          fL_isBoardSo_j133 y2 y3 v13.1 1 v13.2
      else
        bndn (fX3_builderAt S_7 y4) fun v17 =>
        bndn (fX3_height S_7 y4) fun v19 =>
        if v19 < 0 then
          ex <|
          some (0, S_7)
        else
          if (4 : Int32) < v19 then
            ex <|
            some (0, S_7)
          else
            if v17 < 0 then
              fL_isBoardSo_j51 y1 y2 y3 y4 v17 v19 S_7
            else
              if v19 = 4 then
                ex <|
                some (0, S_7)
              else
                fL_isBoardSo_j51 y1 y2 y3 y4 v17 v19 S_7
noncomputable def fL_isBoardSo (S : SC) (x1 : Int32) : Option (Int32 × SC) :=
  loop (fL_isBoardSo_b7 x1) FUEL (0, 0, 0, S)
set_option maxHeartbeats 4000000 in
set_option maxRecDepth 100000 in
theorem kL_isBoardSo (l : Launch) (hfl : l.stackTraces = false) (t1 t2 : Nat) (D : va_G) (cy : Nat → ClassId) (ad : Nat → Nat) (Xr : va_W) (S : SC) (x1 : Int32) (r : (Int32 × SC)) (hf : fL_isBoardSo S x1 = some r) : CL l t1 t2 D cy (wC cy ad Xr) yL_isBoardSo wsL_isBoardSo ({ frames := 9, cells := 1, slots := 6, locals := 171 } : Room) [.ref (ad 0), .int x1] S (some (.int r.1)) r.2 := by
  refine CL.of (cc := cL_isBoardSo) (maxL := 7) (ret := (some .boolean)) (by decide +kernel) rfl (Nat.le_of_ble_eq_true rfl) ?_
  intro p e s m below meth c A ls X hr T hl hX hN
  obtain ⟨hx, hb, hml, hown, hts, hlk, hK, hA, hwA⟩ := id X
  have hl : lv_has ls 7 [(0, .ref (ad 0)), (1, .int x1)] := hl
  unfold fL_isBoardSo at hf
  have j_210 : ∀ (y4 : Int32) (y5 : Int32) (S_210 : SC) (H : Heap) (locs : List Loc) (ls : Array Slot), fL_isBoardSo_j210 y4 y5 S_210 = some r → ST D (wC cy ad Xr) A s S_210 H locs → lv_has ls 7 [(4, .int y4), (5, .int y5)] → W p l e ({ frames := 9, cells := 1, slots := 6, locals := 171 } : Room) s m [.ref (ad 0), .int x1].toArray below meth c H locs 1 6 (MQ below (QG D (wC cy ad Xr) A (some (.int r.1)) r.2) [.ref (ad 0), .int x1].toArray s 1 6 A) (F0 m 210 ls []) := by
    intro y4 y5 S_210 H locs ls hf T hl
    unfold fL_isBoardSo_j210 at hf
    refine lv_iload hx hb dL_isBoardSo_210 (lv_at hl 1 rfl) ?_
    refine lv_if_eq (tgt := 220) hx hb dL_isBoardSo_212 (by decide) (fun hc => ?_) (fun hc => ?_)
    · replace hf := ifp hc hf
      refine lv_iconst (v := 1) hx hb dL_isBoardSo_220 (by decide) ?_
      refine lv_goto (tgt := 225) hx hb dL_isBoardSo_221 (by decide) ?_
      exact rl_zw hf X T hr (Or.inr rfl) dL_isBoardSo_225 (Nat.le_of_ble_eq_true rfl) (Nat.le_of_ble_eq_true rfl)
    · replace hf := ifn hc hf
      refine lv_iload hx hb dL_isBoardSo_215 (lv_at hl 0 rfl) ?_
      refine lv_if_ne (tgt := 224) hx hb dL_isBoardSo_217 (by decide) (fun hc => ?_) (fun hc => ?_)
      · replace hf := ifn hc hf
        refine lv_iconst (v := 0) hx hb dL_isBoardSo_224 (by decide) ?_
        exact rl_zw hf X T hr (Or.inl rfl) dL_isBoardSo_225 (Nat.le_of_ble_eq_true rfl) (Nat.le_of_ble_eq_true rfl)
      · replace hf := ifp hc hf
        refine lv_iconst (v := 1) hx hb dL_isBoardSo_220 (by decide) ?_
        refine lv_goto (tgt := 225) hx hb dL_isBoardSo_221 (by decide) ?_
        exact rl_zw hf X T hr (Or.inr rfl) dL_isBoardSo_225 (Nat.le_of_ble_eq_true rfl) (Nat.le_of_ble_eq_true rfl)
  have j_193 : ∀ (y4 : Int32) (y5 : Int32) (z0 : Int32) (S_193 : SC) (H : Heap) (locs : List Loc) (ls : Array Slot), fL_isBoardSo_j193 y4 y5 z0 S_193 = some r → ST D (wC cy ad Xr) A s S_193 H locs → lv_has ls 7 [(4, .int y4), (5, .int y5)] → W p l e ({ frames := 9, cells := 1, slots := 6, locals := 171 } : Room) s m [.ref (ad 0), .int x1].toArray below meth c H locs 1 6 (MQ below (QG D (wC cy ad Xr) A (some (.int r.1)) r.2) [.ref (ad 0), .int x1].toArray s 1 6 A) (F0 m 193 ls [.int z0]) := by
    intro y4 y5 z0 S_193 H locs ls hf T hl
    unfold fL_isBoardSo_j193 at hf
    refine lv_istore (lv' := [(6, .int z0), (4, .int y4), (5, .int y5)]) hx hb dL_isBoardSo_193 hl (by decide) rfl (fun ls hl => ?_)
    refine lv_iload hx hb dL_isBoardSo_195 (lv_at hl 0 rfl) ?_
    refine lv_if_eq (tgt := 224) hx hb dL_isBoardSo_197 (by decide) (fun hc => ?_) (fun hc => ?_)
    · replace hf := ifp hc hf
      refine lv_iconst (v := 0) hx hb dL_isBoardSo_224 (by decide) ?_
      exact rl_zw hf X T hr (Or.inl rfl) dL_isBoardSo_225 (Nat.le_of_ble_eq_true rfl) (Nat.le_of_ble_eq_true rfl)
    · replace hf := ifn hc hf
      refine lv_iload hx hb dL_isBoardSo_200 (lv_at hl 1 rfl) ?_
      refine lv_if_ne (tgt := 210) hx hb dL_isBoardSo_202 (by decide) (fun hc => ?_) (fun hc => ?_)
      · replace hf := ifn hc hf
        refine W.widen (k := 1) (n := 6) (Nat.le_of_ble_eq_true rfl) (Nat.le_of_ble_eq_true rfl) ?_
        exact j_210 y4 y5 S_193 _ _ _ hf T (lv_sub hl [1, 2] rfl)
      · replace hf := ifp hc hf
        refine lv_iload hx hb dL_isBoardSo_205 (lv_at hl 2 rfl) ?_
        refine lv_if_eq (tgt := 224) hx hb dL_isBoardSo_207 (by decide) (fun hc => ?_) (fun hc => ?_)
        · replace hf := ifp hc hf
          refine lv_iconst (v := 0) hx hb dL_isBoardSo_224 (by decide) ?_
          exact rl_zw hf X T hr (Or.inl rfl) dL_isBoardSo_225 (Nat.le_of_ble_eq_true rfl) (Nat.le_of_ble_eq_true rfl)
        · replace hf := ifn hc hf
          refine W.widen (k := 1) (n := 6) (Nat.le_of_ble_eq_true rfl) (Nat.le_of_ble_eq_true rfl) ?_
          exact j_210 y4 y5 S_193 _ _ _ hf T (lv_sub hl [1, 2] rfl)
  have j_192 : ∀ (y4 : Int32) (y5 : Int32) (S_192 : SC) (H : Heap) (locs : List Loc) (ls : Array Slot), fL_isBoardSo_j192 y4 y5 S_192 = some r → ST D (wC cy ad Xr) A s S_192 H locs → lv_has ls 7 [(4, .int y4), (5, .int y5)] → W p l e ({ frames := 9, cells := 1, slots := 6, locals := 171 } : Room) s m [.ref (ad 0), .int x1].toArray below meth c H locs 1 6 (MQ below (QG D (wC cy ad Xr) A (some (.int r.1)) r.2) [.ref (ad 0), .int x1].toArray s 1 6 A) (F0 m 192 ls []) := by
    intro y4 y5 S_192 H locs ls hf T hl
    unfold fL_isBoardSo_j192 at hf
    refine lv_iconst (v := 0) hx hb dL_isBoardSo_192 (by decide) ?_
    refine W.widen (k := 1) (n := 6) (Nat.le_of_ble_eq_true rfl) (Nat.le_of_ble_eq_true rfl) ?_
    exact j_193 y4 y5 0 S_192 _ _ _ hf T (lv_sub hl [0, 1] rfl)
  have j_188 : ∀ (y4 : Int32) (y5 : Int32) (S_188 : SC) (H : Heap) (locs : List Loc) (ls : Array Slot), fL_isBoardSo_j188 y4 y5 S_188 = some r → ST D (wC cy ad Xr) A s S_188 H locs → lv_has ls 7 [(4, .int y4), (5, .int y5)] → W p l e ({ frames := 9, cells := 1, slots := 6, locals := 171 } : Room) s m [.ref (ad 0), .int x1].toArray below meth c H locs 1 6 (MQ below (QG D (wC cy ad Xr) A (some (.int r.1)) r.2) [.ref (ad 0), .int x1].toArray s 1 6 A) (F0 m 188 ls []) := by
    intro y4 y5 S_188 H locs ls hf T hl
    unfold fL_isBoardSo_j188 at hf
    refine lv_iconst (v := 1) hx hb dL_isBoardSo_188 (by decide) ?_
    refine lv_goto (tgt := 193) hx hb dL_isBoardSo_189 (by decide) ?_
    refine W.widen (k := 1) (n := 6) (Nat.le_of_ble_eq_true rfl) (Nat.le_of_ble_eq_true rfl) ?_
    exact j_193 y4 y5 1 S_188 _ _ _ hf T (lv_sub hl [0, 1] rfl)
  have j_166 : ∀ (y4 : Int32) (y5 : Int32) (z0 : Int32) (S_166 : SC) (H : Heap) (locs : List Loc) (ls : Array Slot), fL_isBoardSo_j166 y4 y5 z0 S_166 = some r → ST D (wC cy ad Xr) A s S_166 H locs → lv_has ls 7 [(0, .ref (ad 0)), (4, .int y4), (5, .int y5)] → W p l e ({ frames := 9, cells := 1, slots := 6, locals := 171 } : Room) s m [.ref (ad 0), .int x1].toArray below meth c H locs 1 6 (MQ below (QG D (wC cy ad Xr) A (some (.int r.1)) r.2) [.ref (ad 0), .int x1].toArray s 1 6 A) (F0 m 166 ls [.int z0]) := by
    intro y4 y5 z0 S_166 H locs ls hf T hl
    unfold fL_isBoardSo_j166 at hf
    refine lv_iload hx hb dL_isBoardSo_166 (lv_at hl 2 rfl) ?_
    refine lv_icmp_ne (tgt := 192) hx hb dL_isBoardSo_168 (by decide) (fun hc => ?_) (fun hc => ?_)
    · replace hf := ifn hc hf
      refine W.widen (k := 1) (n := 6) (Nat.le_of_ble_eq_true rfl) (Nat.le_of_ble_eq_true rfl) ?_
      exact j_192 y4 y5 S_166 _ _ _ hf T (lv_sub hl [1, 2] rfl)
    · replace hf := ifp hc hf
      refine lv_iload hx hb dL_isBoardSo_171 (lv_at hl 1 rfl) ?_
      refine lv_if_ge (tgt := 188) hx hb dL_isBoardSo_173 (by decide) (fun hc => ?_) (fun hc => ?_)
      · replace hf := ifp hc hf
        refine W.widen (k := 1) (n := 6) (Nat.le_of_ble_eq_true rfl) (Nat.le_of_ble_eq_true rfl) ?_
        exact j_188 y4 y5 S_166 _ _ _ hf T (lv_sub hl [1, 2] rfl)
      · replace hf := ifn hc hf
        refine lv_iload hx hb dL_isBoardSo_176 (lv_at hl 2 rfl) ?_
        refine lv_if_ne (tgt := 192) hx hb dL_isBoardSo_178 (by decide) (fun hc => ?_) (fun hc => ?_)
        · replace hf := ifn hc hf
          refine W.widen (k := 1) (n := 6) (Nat.le_of_ble_eq_true rfl) (Nat.le_of_ble_eq_true rfl) ?_
          exact j_192 y4 y5 S_166 _ _ _ hf T (lv_sub hl [1, 2] rfl)
        · replace hf := ifp hc hf
          refine lv_aload_n hx hb dL_isBoardSo_181 rfl (lv_at hl 0 rfl) ?_
          obtain ⟨v2, h1, hf⟩ := bnd_inv hf
          refine cg_V (q0 := 15) (ci := 3) (As := []) (rest := []) X T (kX3_played l D cy ad Xr S_166 v2 h1) (cwV 0 hts gL_isBoardSo_X3_played rfl rfl rfl (by decide +kernel) ⟨(Nat.le_of_ble_eq_true rfl), (Nat.le_of_ble_eq_true rfl)⟩) rfl rfl rfl hl.1 rfl (Nat.le_of_ble_eq_true rfl) dL_isBoardSo_182 ⟨(Nat.le_of_ble_eq_true rfl), (Nat.le_of_ble_eq_true rfl)⟩ (st2 := [.int v2]) (pc2 := 185) rfl rfl (fun H locs T => ?_)
          refine lv_if_ne (tgt := 192) hx hb dL_isBoardSo_185 (by decide) (fun hc => ?_) (fun hc => ?_)
          · replace hf := ifn hc hf
            refine W.widen (k := 1) (n := 6) (Nat.le_of_ble_eq_true rfl) (Nat.le_of_ble_eq_true rfl) ?_
            exact j_192 y4 y5 S_166 _ _ _ hf T (lv_sub hl [1, 2] rfl)
          · replace hf := ifp hc hf
            refine W.widen (k := 1) (n := 6) (Nat.le_of_ble_eq_true rfl) (Nat.le_of_ble_eq_true rfl) ?_
            exact j_188 y4 y5 S_166 _ _ _ hf T (lv_sub hl [1, 2] rfl)
  have j_133 : ∀ (y2 : Int32) (y3 : Int32) (y4 : Int32) (z0 : Int32) (S_133 : SC) (H : Heap) (locs : List Loc) (ls : Array Slot), fL_isBoardSo_j133 y2 y3 y4 z0 S_133 = some r → ST D (wC cy ad Xr) A s S_133 H locs → lv_has ls 7 [(0, .ref (ad 0)), (2, .int y2), (3, .int y3), (4, .int y4)] → W p l e ({ frames := 9, cells := 1, slots := 6, locals := 171 } : Room) s m [.ref (ad 0), .int x1].toArray below meth c H locs 1 6 (MQ below (QG D (wC cy ad Xr) A (some (.int r.1)) r.2) [.ref (ad 0), .int x1].toArray s 1 6 A) (F0 m 133 ls [.int z0]) := by
    intro y2 y3 y4 z0 S_133 H locs ls hf T hl
    unfold fL_isBoardSo_j133 at hf
    refine lv_istore (lv' := [(5, .int z0), (0, .ref (ad 0)), (2, .int y2), (3, .int y3), (4, .int y4)]) hx hb dL_isBoardSo_133 hl (by decide) rfl (fun ls hl => ?_)
    refine lv_aload_n hx hb dL_isBoardSo_135 rfl (lv_at hl 1 rfl) ?_
    refine lv_iconst (v := 0) hx hb dL_isBoardSo_136 (by decide) ?_
    obtain ⟨v4, h3, hf⟩ := bndn_inv hf
    refine cgs_V (q0 := 15) (ci := 3) (As := [.int 0]) (rest := []) X hX T (kN_X3_reached l t1 t2 D cy ad Xr S_133 0 _ h3 rfl) (cwV 1 hts gL_isBoardSo_X3_reached rfl rfl rfl (by decide +kernel) ⟨(Nat.le_of_ble_eq_true rfl), (Nat.le_of_ble_eq_true rfl)⟩) rfl rfl rfl hl.1 rfl (Nat.le_of_ble_eq_true rfl) dL_isBoardSo_137 ⟨(Nat.le_of_ble_eq_true rfl), (Nat.le_of_ble_eq_true rfl)⟩ (st2 := [.int v4]) (pc2 := 140) rfl rfl (fun H locs T => ?_)
    refine lv_iload_n hx hb dL_isBoardSo_140 rfl (lv_at hl 2 rfl) ?_
    refine lv_icmp_ne (tgt := 192) hx hb dL_isBoardSo_141 (by decide) (fun hc => ?_) (fun hc => ?_)
    · replace hf := ifn hc hf
      refine W.widen (k := 1) (n := 6) (Nat.le_of_ble_eq_true rfl) (Nat.le_of_ble_eq_true rfl) ?_
      exact j_192 y4 z0 S_133 _ _ _ hf T (lv_sub hl [4, 0] rfl)
    · replace hf := ifp hc hf
      refine lv_aload_n hx hb dL_isBoardSo_144 rfl (lv_at hl 1 rfl) ?_
      refine lv_iconst (v := 1) hx hb dL_isBoardSo_145 (by decide) ?_
      obtain ⟨v6, h5, hf⟩ := bndn_inv hf
      refine cgs_V (q0 := 15) (ci := 3) (As := [.int 1]) (rest := []) X hX T (kN_X3_reached l t1 t2 D cy ad Xr S_133 1 _ h5 rfl) (cwV 1 hts gL_isBoardSo_X3_reached rfl rfl rfl (by decide +kernel) ⟨(Nat.le_of_ble_eq_true rfl), (Nat.le_of_ble_eq_true rfl)⟩) rfl rfl rfl hl.1 rfl (Nat.le_of_ble_eq_true rfl) dL_isBoardSo_146 ⟨(Nat.le_of_ble_eq_true rfl), (Nat.le_of_ble_eq_true rfl)⟩ (st2 := [.int v6]) (pc2 := 149) rfl rfl (fun H locs T => ?_)
      refine lv_iload_n hx hb dL_isBoardSo_149 rfl (lv_at hl 3 rfl) ?_
      refine lv_icmp_ne (tgt := 192) hx hb dL_isBoardSo_150 (by decide) (fun hc => ?_) (fun hc => ?_)
      · replace hf := ifn hc hf
        refine W.widen (k := 1) (n := 6) (Nat.le_of_ble_eq_true rfl) (Nat.le_of_ble_eq_true rfl) ?_
        exact j_192 y4 z0 S_133 _ _ _ hf T (lv_sub hl [4, 0] rfl)
      · replace hf := ifp hc hf
        refine lv_aload_n hx hb dL_isBoardSo_153 rfl (lv_at hl 1 rfl) ?_
        obtain ⟨v8, h7, hf⟩ := bnd_inv hf
        refine cg_V (q0 := 15) (ci := 3) (As := []) (rest := []) X T (kX3_onTurn l D cy ad Xr S_133 v8 h7) (cwV 0 hts gL_isBoardSo_X3_onTurn rfl rfl rfl (by decide +kernel) ⟨(Nat.le_of_ble_eq_true rfl), (Nat.le_of_ble_eq_true rfl)⟩) rfl rfl rfl hl.1 rfl (Nat.le_of_ble_eq_true rfl) dL_isBoardSo_154 ⟨(Nat.le_of_ble_eq_true rfl), (Nat.le_of_ble_eq_true rfl)⟩ (st2 := [.int v8]) (pc2 := 157) rfl rfl (fun H locs T => ?_)
        refine lv_iconst (v := (-1)) hx hb dL_isBoardSo_157 (by decide) ?_
        refine lv_icmp_ne (tgt := 165) hx hb dL_isBoardSo_158 (by decide) (fun hc => ?_) (fun hc => ?_)
        · replace hf := ifn hc hf
          refine lv_iconst (v := 0) hx hb dL_isBoardSo_165 (by decide) ?_
          refine W.widen (k := 1) (n := 6) (Nat.le_of_ble_eq_true rfl) (Nat.le_of_ble_eq_true rfl) ?_
          exact j_166 y4 z0 0 S_133 _ _ _ hf T (lv_sub hl [1, 4, 0] rfl)
        · replace hf := ifp hc hf
          refine lv_iconst (v := 1) hx hb dL_isBoardSo_161 (by decide) ?_
          refine lv_goto (tgt := 166) hx hb dL_isBoardSo_162 (by decide) ?_
          refine W.widen (k := 1) (n := 6) (Nat.le_of_ble_eq_true rfl) (Nat.le_of_ble_eq_true rfl) ?_
          exact j_166 y4 z0 1 S_133 _ _ _ hf T (lv_sub hl [1, 4, 0] rfl)
  have l_7 : ∀ (y1 : Int32) (n : Nat) (y2 : Int32) (y3 : Int32) (y4 : Int32) (S_7 : SC) (H : Heap) (locs : List Loc) (ls : Array Slot), loop (fL_isBoardSo_b7 y1) n (y2, y3, y4, S_7) = some r → ST D (wC cy ad Xr) A s S_7 H locs → lv_has ls 7 [(0, .ref (ad 0)), (1, .int y1), (2, .int y2), (3, .int y3), (4, .int y4)] → W p l e ({ frames := 9, cells := 1, slots := 6, locals := 171 } : Room) s m [.ref (ad 0), .int x1].toArray below meth c H locs 0 0 (MQ below (QG D (wC cy ad Xr) A (some (.int r.1)) r.2) [.ref (ad 0), .int x1].toArray s 1 6 A) (F0 m 7 ls []) := by
    intro y1 n
    induction n with
    | zero => intro _ _ _ _ _ _ _ hf; cases hf
    | succ n ih_7 =>
      intro y2 y3 y4 S_7 H locs ls hf T hl
      obtain ⟨z_7, hf, hin_7, hex_7⟩ := loop_inv hf
      unfold fL_isBoardSo_b7 at hf
      dsimp only at hf
      have j_107 : ∀ (y2 : Int32) (y4 : Int32) (z0 : Int32) (z1 : Int32) (S_107 : SC) (H : Heap) (locs : List Loc) (ls : Array Slot), fL_isBoardSo_j107 y1 y2 y4 z0 z1 S_107 = some z_7 → ST D (wC cy ad Xr) A s S_107 H locs → lv_has ls 7 [(0, .ref (ad 0)), (1, .int y1), (2, .int y2), (4, .int y4)] → W p l e ({ frames := 9, cells := 1, slots := 6, locals := 171 } : Room) s m [.ref (ad 0), .int x1].toArray below meth c H locs 0 0 (MQ below (QG D (wC cy ad Xr) A (some (.int r.1)) r.2) [.ref (ad 0), .int x1].toArray s 1 6 A) (F0 m 107 ls [.int z1, .int z0]) := by
        intro y2 y4 z0 z1 S_107 H locs ls hf T hl
        unfold fL_isBoardSo_j107 at hf
        refine lv_iadd hx hb dL_isBoardSo_107 ?_
        refine lv_topi (fun v9 e_v9 => ?_)
        replace hf := nm_use hf e_v9
        refine lv_istore_n (lv' := [(3, .int v9), (0, .ref (ad 0)), (1, .int y1), (2, .int y2), (4, .int y4)]) hx hb dL_isBoardSo_108 rfl hl (by decide) rfl (fun ls hl => ?_)
        obtain ⟨v10, e_v10, hf⟩ := nm_inv hf
        refine lv_iinc (v := v10) (lv' := [(4, .int v10), (3, .int v9), (0, .ref (ad 0)), (1, .int y1), (2, .int y2)]) hx hb dL_isBoardSo_109 hl (k := 4) rfl (by rw [e_v10]; rfl) (by decide) rfl (fun ls hl => ?_)
        refine lv_goto (tgt := 7) hx hb dL_isBoardSo_112 (by decide) ?_
        exact ih_7 y2 v9 v10 S_107 _ _ _ (hin_7 _ (Option.some.inj hf).symm) T (lv_sub hl [2, 3, 4, 1, 0] rfl)
      have j_91 : ∀ (y3 : Int32) (y4 : Int32) (y5 : Int32) (y6 : Int32) (z0 : Int32) (z1 : Int32) (S_91 : SC) (H : Heap) (locs : List Loc) (ls : Array Slot), fL_isBoardSo_j91 y1 y3 y4 y5 y6 z0 z1 S_91 = some z_7 → ST D (wC cy ad Xr) A s S_91 H locs → lv_has ls 7 [(0, .ref (ad 0)), (1, .int y1), (3, .int y3), (4, .int y4), (5, .int y5), (6, .int y6)] → W p l e ({ frames := 9, cells := 1, slots := 6, locals := 171 } : Room) s m [.ref (ad 0), .int x1].toArray below meth c H locs 0 0 (MQ below (QG D (wC cy ad Xr) A (some (.int r.1)) r.2) [.ref (ad 0), .int x1].toArray s 1 6 A) (F0 m 91 ls [.int z1, .int z0]) := by
        intro y3 y4 y5 y6 z0 z1 S_91 H locs ls hf T hl
        unfold fL_isBoardSo_j91 at hf
        refine lv_iadd hx hb dL_isBoardSo_91 ?_
        refine lv_topi (fun v11 e_v11 => ?_)
        replace hf := nm_use hf e_v11
        refine lv_istore_n (lv' := [(2, .int v11), (0, .ref (ad 0)), (1, .int y1), (3, .int y3), (4, .int y4), (5, .int y5), (6, .int y6)]) hx hb dL_isBoardSo_92 rfl hl (by decide) rfl (fun ls hl => ?_)
        refine lv_iload_n hx hb dL_isBoardSo_93 rfl (lv_at hl 3 rfl) ?_
        refine lv_iload hx hb dL_isBoardSo_94 (lv_at hl 5 rfl) ?_
        refine lv_bipush (v := 10) hx hb dL_isBoardSo_96 (by decide) ?_
        refine lv_icmp_lt (tgt := 106) hx hb dL_isBoardSo_98 (by decide) (fun hc => ?_) (fun hc => ?_)
        · replace hf := ifp hc hf
          refine lv_iconst (v := 0) hx hb dL_isBoardSo_106 (by decide) ?_
          exact j_107 v11 y4 y3 0 S_91 _ _ _ hf T (lv_sub hl [1, 2, 0, 4] rfl)
        · replace hf := ifn hc hf
          refine lv_iload hx hb dL_isBoardSo_101 (lv_at hl 6 rfl) ?_
          refine lv_goto (tgt := 107) hx hb dL_isBoardSo_103 (by decide) ?_
          exact j_107 v11 y4 y3 y6 S_91 _ _ _ hf T (lv_sub hl [1, 2, 0, 4] rfl)
      have j_90 : ∀ (y3 : Int32) (y4 : Int32) (y5 : Int32) (y6 : Int32) (z0 : Int32) (S_90 : SC) (H : Heap) (locs : List Loc) (ls : Array Slot), fL_isBoardSo_j90 y1 y3 y4 y5 y6 z0 S_90 = some z_7 → ST D (wC cy ad Xr) A s S_90 H locs → lv_has ls 7 [(0, .ref (ad 0)), (1, .int y1), (3, .int y3), (4, .int y4), (5, .int y5), (6, .int y6)] → W p l e ({ frames := 9, cells := 1, slots := 6, locals := 171 } : Room) s m [.ref (ad 0), .int x1].toArray below meth c H locs 0 0 (MQ below (QG D (wC cy ad Xr) A (some (.int r.1)) r.2) [.ref (ad 0), .int x1].toArray s 1 6 A) (F0 m 90 ls [.int z0]) := by
        intro y3 y4 y5 y6 z0 S_90 H locs ls hf T hl
        unfold fL_isBoardSo_j90 at hf
        refine lv_iconst (v := 0) hx hb dL_isBoardSo_90 (by decide) ?_
        exact j_91 y3 y4 y5 y6 z0 0 S_90 _ _ _ hf T (lv_sub hl [0, 1, 2, 3, 4, 5] rfl)
      have j_73 : ∀ (y2 : Int32) (y3 : Int32) (y4 : Int32) (y5 : Int32) (y6 : Int32) (S_73 : SC) (H : Heap) (locs : List Loc) (ls : Array Slot), fL_isBoardSo_j73 y1 y2 y3 y4 y5 y6 S_73 = some z_7 → ST D (wC cy ad Xr) A s S_73 H locs → lv_has ls 7 [(0, .ref (ad 0)), (1, .int y1), (2, .int y2), (3, .int y3), (4, .int y4), (5, .int y5), (6, .int y6)] → W p l e ({ frames := 9, cells := 1, slots := 6, locals := 171 } : Room) s m [.ref (ad 0), .int x1].toArray below meth c H locs 0 0 (MQ below (QG D (wC cy ad Xr) A (some (.int r.1)) r.2) [.ref (ad 0), .int x1].toArray s 1 6 A) (F0 m 73 ls []) := by
        intro y2 y3 y4 y5 y6 S_73 H locs ls hf T hl
        unfold fL_isBoardSo_j73 at hf
        refine lv_iload_n hx hb dL_isBoardSo_73 rfl (lv_at hl 2 rfl) ?_
        refine lv_iload hx hb dL_isBoardSo_74 (lv_at hl 5 rfl) ?_
        refine lv_if_lt (tgt := 90) hx hb dL_isBoardSo_76 (by decide) (fun hc => ?_) (fun hc => ?_)
        · replace hf := ifp hc hf
          exact j_90 y3 y4 y5 y6 y2 S_73 _ _ _ hf T (lv_sub hl [0, 1, 3, 4, 5, 6] rfl)
        · replace hf := ifn hc hf
          refine lv_iload hx hb dL_isBoardSo_79 (lv_at hl 5 rfl) ?_
          refine lv_iconst (v := 2) hx hb dL_isBoardSo_81 (by decide) ?_
          refine lv_icmp_ge (tgt := 90) hx hb dL_isBoardSo_82 (by decide) (fun hc => ?_) (fun hc => ?_)
          · replace hf := ifp hc hf
            exact j_90 y3 y4 y5 y6 y2 S_73 _ _ _ hf T (lv_sub hl [0, 1, 3, 4, 5, 6] rfl)
          · replace hf := ifn hc hf
            refine lv_iload hx hb dL_isBoardSo_85 (lv_at hl 6 rfl) ?_
            refine lv_goto (tgt := 91) hx hb dL_isBoardSo_87 (by decide) ?_
            exact j_91 y3 y4 y5 y6 y2 y6 S_73 _ _ _ hf T (lv_sub hl [0, 1, 3, 4, 5, 6] rfl)
      have j_51 : ∀ (y2 : Int32) (y3 : Int32) (y4 : Int32) (y5 : Int32) (y6 : Int32) (S_51 : SC) (H : Heap) (locs : List Loc) (ls : Array Slot), fL_isBoardSo_j51 y1 y2 y3 y4 y5 y6 S_51 = some z_7 → ST D (wC cy ad Xr) A s S_51 H locs → lv_has ls 7 [(0, .ref (ad 0)), (1, .int y1), (2, .int y2), (3, .int y3), (4, .int y4), (5, .int y5), (6, .int y6)] → W p l e ({ frames := 9, cells := 1, slots := 6, locals := 171 } : Room) s m [.ref (ad 0), .int x1].toArray below meth c H locs 0 0 (MQ below (QG D (wC cy ad Xr) A (some (.int r.1)) r.2) [.ref (ad 0), .int x1].toArray s 1 6 A) (F0 m 51 ls []) := by
        intro y2 y3 y4 y5 y6 S_51 H locs ls hf T hl
        unfold fL_isBoardSo_j51 at hf
        refine lv_iload hx hb dL_isBoardSo_51 (lv_at hl 5 rfl) ?_
        refine lv_bipush (v := 11) hx hb dL_isBoardSo_53 (by decide) ?_
        refine lv_icmp_gt (tgt := 71) hx hb dL_isBoardSo_55 (by decide) (fun hc => ?_) (fun hc => ?_)
        · replace hf := ifp hc hf
          obtain ⟨r0, hf, hz⟩ := ex_inv hf
          rw [hex_7 r0 hz] at hf
          refine lv_iconst (v := 0) hx hb dL_isBoardSo_71 (by decide) ?_
          exact rl_zw hf X T hr (Or.inl rfl) dL_isBoardSo_72 (Nat.le_of_ble_eq_true rfl) (Nat.le_of_ble_eq_true rfl)
        · replace hf := ifn hc hf
          refine lv_iload hx hb dL_isBoardSo_58 (lv_at hl 5 rfl) ?_
          refine lv_iconst (v := 1) hx hb dL_isBoardSo_60 (by decide) ?_
          refine lv_icmp_le (tgt := 73) hx hb dL_isBoardSo_61 (by decide) (fun hc => ?_) (fun hc => ?_)
          · replace hf := ifp hc hf
            exact j_73 y2 y3 y4 y5 y6 S_51 _ _ _ hf T (lv_sub hl [0, 1, 2, 3, 4, 5, 6] rfl)
          · replace hf := ifn hc hf
            refine lv_iload hx hb dL_isBoardSo_64 (lv_at hl 5 rfl) ?_
            refine lv_bipush (v := 10) hx hb dL_isBoardSo_66 (by decide) ?_
            refine lv_icmp_ge (tgt := 73) hx hb dL_isBoardSo_68 (by decide) (fun hc => ?_) (fun hc => ?_)
            · replace hf := ifp hc hf
              exact j_73 y2 y3 y4 y5 y6 S_51 _ _ _ hf T (lv_sub hl [0, 1, 2, 3, 4, 5, 6] rfl)
            · replace hf := ifn hc hf
              obtain ⟨r0, hf, hz⟩ := ex_inv hf
              rw [hex_7 r0 hz] at hf
              refine lv_iconst (v := 0) hx hb dL_isBoardSo_71 (by decide) ?_
              exact rl_zw hf X T hr (Or.inl rfl) dL_isBoardSo_72 (Nat.le_of_ble_eq_true rfl) (Nat.le_of_ble_eq_true rfl)
      refine lv_iload hx hb dL_isBoardSo_7 (lv_at hl 4 rfl) ?_
      refine lv_iload_n hx hb dL_isBoardSo_9 rfl (lv_at hl 1 rfl) ?_
      refine lv_icmp_ge (tgt := 115) hx hb dL_isBoardSo_10 (by decide) (fun hc => ?_) (fun hc => ?_)
      · replace hf := ifp hc hf
        obtain ⟨r0, hf, hz⟩ := ex_inv hf
        rw [hex_7 r0 hz] at hf
        refine lv_aload_n hx hb dL_isBoardSo_115 rfl (lv_at hl 0 rfl) ?_
        obtain ⟨v13, h12, hf⟩ := bnd_inv hf
        refine cl_SW (As := [.ref (ad 0)]) (rest := []) X hX hN T (kL_turnCount l hfl t1 t2 D cy ad Xr S_7 v13 h12) (vx_cwSW 1 hts gL_isBoardSo_L_turnCount rfl rfl rfl (by decide +kernel) ⟨(Nat.le_of_ble_eq_true rfl), (Nat.le_of_ble_eq_true rfl)⟩) rfl hl.1 rfl (Nat.le_of_ble_eq_true rfl) dL_isBoardSo_116 ⟨(Nat.le_of_ble_eq_true rfl), (Nat.le_of_ble_eq_true rfl)⟩ (st2 := [.int v13.1]) (pc2 := 119) (c2 := 1) (s2 := 6) rfl rfl rfl rfl (fun H locs T => ?_)
        refine lv_istore (lv' := [(4, .int v13.1), (0, .ref (ad 0)), (1, .int y1), (2, .int y2), (3, .int y3)]) hx hb dL_isBoardSo_119 hl (by decide) rfl (fun ls hl => ?_)
        refine lv_aload_n hx hb dL_isBoardSo_121 rfl (lv_at hl 1 rfl) ?_
        obtain ⟨v15, h14, hf⟩ := bnd_inv hf
        refine cg_V (q0 := 15) (ci := 3) (As := []) (rest := []) X T (kX3_winner l D cy ad Xr v13.2 v15 h14) (cwV 0 hts gL_isBoardSo_X3_winner rfl rfl rfl (by decide +kernel) ⟨(Nat.le_of_ble_eq_true rfl), (Nat.le_of_ble_eq_true rfl)⟩) rfl rfl rfl hl.1 rfl (Nat.le_of_ble_eq_true rfl) dL_isBoardSo_122 ⟨(Nat.le_of_ble_eq_true rfl), (Nat.le_of_ble_eq_true rfl)⟩ (st2 := [.int v15]) (pc2 := 125) rfl rfl (fun H locs T => ?_)
        refine lv_if_lt (tgt := 132) hx hb dL_isBoardSo_125 (by decide) (fun hc => ?_) (fun hc => ?_)
        · replace hf := ifp hc hf
          refine lv_iconst (v := 0) hx hb dL_isBoardSo_132 (by decide) ?_
          refine W.widen (k := 1) (n := 6) (Nat.le_of_ble_eq_true rfl) (Nat.le_of_ble_eq_true rfl) ?_
          exact j_133 y2 y3 v13.1 0 v13.2 _ _ _ hf T (lv_sub hl [1, 3, 4, 0] rfl)
        · replace hf := ifn hc hf
          refine lv_iconst (v := 1) hx hb dL_isBoardSo_128 (by decide) ?_
          refine lv_goto (tgt := 133) hx hb dL_isBoardSo_129 (by decide) ?_
          refine W.widen (k := 1) (n := 6) (Nat.le_of_ble_eq_true rfl) (Nat.le_of_ble_eq_true rfl) ?_
          exact j_133 y2 y3 v13.1 1 v13.2 _ _ _ hf T (lv_sub hl [1, 3, 4, 0] rfl)
      · replace hf := ifn hc hf
        refine lv_aload_n hx hb dL_isBoardSo_13 rfl (lv_at hl 0 rfl) ?_
        refine lv_iload hx hb dL_isBoardSo_14 (lv_at hl 4 rfl) ?_
        obtain ⟨v17, h16, hf⟩ := bndn_inv hf
        refine cgs_V (q0 := 15) (ci := 3) (As := [.int y4]) (rest := []) X hX T (kN_X3_builderAt l t1 t2 D cy ad Xr S_7 y4 _ h16 rfl) (cwV 1 hts gL_isBoardSo_X3_builderAt rfl rfl rfl (by decide +kernel) ⟨(Nat.le_of_ble_eq_true rfl), (Nat.le_of_ble_eq_true rfl)⟩) rfl rfl rfl hl.1 rfl (Nat.le_of_ble_eq_true rfl) dL_isBoardSo_16 ⟨(Nat.le_of_ble_eq_true rfl), (Nat.le_of_ble_eq_true rfl)⟩ (st2 := [.int v17]) (pc2 := 19) rfl rfl (fun H locs T => ?_)
        refine lv_istore (lv' := [(5, .int v17), (0, .ref (ad 0)), (1, .int y1), (2, .int y2), (3, .int y3), (4, .int y4)]) hx hb dL_isBoardSo_19 hl (by decide) rfl (fun ls hl => ?_)
        refine lv_aload_n hx hb dL_isBoardSo_21 rfl (lv_at hl 1 rfl) ?_
        refine lv_iload hx hb dL_isBoardSo_22 (lv_at hl 5 rfl) ?_
        obtain ⟨v19, h18, hf⟩ := bndn_inv hf
        refine cgs_V (q0 := 15) (ci := 3) (As := [.int y4]) (rest := []) X hX T (kN_X3_height l t1 t2 D cy ad Xr S_7 y4 _ h18 rfl) (cwV 1 hts gL_isBoardSo_X3_height rfl rfl rfl (by decide +kernel) ⟨(Nat.le_of_ble_eq_true rfl), (Nat.le_of_ble_eq_true rfl)⟩) rfl rfl rfl hl.1 rfl (Nat.le_of_ble_eq_true rfl) dL_isBoardSo_24 ⟨(Nat.le_of_ble_eq_true rfl), (Nat.le_of_ble_eq_true rfl)⟩ (st2 := [.int v19]) (pc2 := 27) rfl rfl (fun H locs T => ?_)
        refine lv_istore (lv' := [(6, .int v19), (5, .int v17), (0, .ref (ad 0)), (1, .int y1), (2, .int y2), (3, .int y3), (4, .int y4)]) hx hb dL_isBoardSo_27 hl (by decide) rfl (fun ls hl => ?_)
        refine lv_iload hx hb dL_isBoardSo_29 (lv_at hl 0 rfl) ?_
        refine lv_if_lt (tgt := 71) hx hb dL_isBoardSo_31 (by decide) (fun hc => ?_) (fun hc => ?_)
        · replace hf := ifp hc hf
          obtain ⟨r0, hf, hz⟩ := ex_inv hf
          rw [hex_7 r0 hz] at hf
          refine lv_iconst (v := 0) hx hb dL_isBoardSo_71 (by decide) ?_
          exact rl_zw hf X T hr (Or.inl rfl) dL_isBoardSo_72 (Nat.le_of_ble_eq_true rfl) (Nat.le_of_ble_eq_true rfl)
        · replace hf := ifn hc hf
          refine lv_iload hx hb dL_isBoardSo_34 (lv_at hl 0 rfl) ?_
          refine lv_iconst (v := 4) hx hb dL_isBoardSo_36 (by decide) ?_
          refine lv_icmp_gt (tgt := 71) hx hb dL_isBoardSo_37 (by decide) (fun hc => ?_) (fun hc => ?_)
          · replace hf := ifp hc hf
            obtain ⟨r0, hf, hz⟩ := ex_inv hf
            rw [hex_7 r0 hz] at hf
            refine lv_iconst (v := 0) hx hb dL_isBoardSo_71 (by decide) ?_
            exact rl_zw hf X T hr (Or.inl rfl) dL_isBoardSo_72 (Nat.le_of_ble_eq_true rfl) (Nat.le_of_ble_eq_true rfl)
          · replace hf := ifn hc hf
            refine lv_iload hx hb dL_isBoardSo_40 (lv_at hl 1 rfl) ?_
            refine lv_if_lt (tgt := 51) hx hb dL_isBoardSo_42 (by decide) (fun hc => ?_) (fun hc => ?_)
            · replace hf := ifp hc hf
              exact j_51 y2 y3 y4 v17 v19 S_7 _ _ _ hf T (lv_sub hl [2, 3, 4, 5, 6, 1, 0] rfl)
            · replace hf := ifn hc hf
              refine lv_iload hx hb dL_isBoardSo_45 (lv_at hl 0 rfl) ?_
              refine lv_iconst (v := 4) hx hb dL_isBoardSo_47 (by decide) ?_
              refine lv_icmp_eq (tgt := 71) hx hb dL_isBoardSo_48 (by decide) (fun hc => ?_) (fun hc => ?_)
              · replace hf := ifp hc hf
                obtain ⟨r0, hf, hz⟩ := ex_inv hf
                rw [hex_7 r0 hz] at hf
                refine lv_iconst (v := 0) hx hb dL_isBoardSo_71 (by decide) ?_
                exact rl_zw hf X T hr (Or.inl rfl) dL_isBoardSo_72 (Nat.le_of_ble_eq_true rfl) (Nat.le_of_ble_eq_true rfl)
              · replace hf := ifn hc hf
                exact j_51 y2 y3 y4 v17 v19 S_7 _ _ _ hf T (lv_sub hl [2, 3, 4, 5, 6, 1, 0] rfl)
  refine lv_iconst (v := 0) hx hb dL_isBoardSo_0 (by decide) ?_
  refine lv_istore_n (lv' := [(2, .int 0), (0, .ref (ad 0)), (1, .int x1)]) hx hb dL_isBoardSo_1 rfl hl (by decide) rfl (fun ls hl => ?_)
  refine lv_iconst (v := 0) hx hb dL_isBoardSo_2 (by decide) ?_
  refine lv_istore_n (lv' := [(3, .int 0), (2, .int 0), (0, .ref (ad 0)), (1, .int x1)]) hx hb dL_isBoardSo_3 rfl hl (by decide) rfl (fun ls hl => ?_)
  refine lv_iconst (v := 0) hx hb dL_isBoardSo_4 (by decide) ?_
  refine lv_istore (lv' := [(4, .int 0), (3, .int 0), (2, .int 0), (0, .ref (ad 0)), (1, .int x1)]) hx hb dL_isBoardSo_5 hl (by decide) rfl (fun ls hl => ?_)
  exact l_7 x1 FUEL 0 0 0 S _ _ _ hf T (lv_sub hl [3, 4, 2, 1, 0] rfl)

noncomputable def fL_areTurnsSo_j75 (y3 : Int32) (S_75 : SC) : Option (Int32 × SC) :=
  if (1 : Int32) ≤ y3 then
    some (0, S_75)
  else
    some (1, S_75)
noncomputable def fL_areTurnsSo_j222 (y3 : Int32) (y7 : Int32) (y8 : Int32) (z0 : Int32) (S_222 : SC) : Option (Int32 × SC) :=
  if z0 = 0 then
    some (0, S_222)
  else
    bndnS (fX3_takeBack S_222) fun v2 S3 =>
    if v2 = y8 then
      bnd (fX3_onTurn S3) fun v5 =>
      if v5 = y7 then
        bnd (fL_turnCount S3) fun v7 =>
        if v7.1 = y3 then
          bnd (fX3_winner v7.2) fun v9 =>
          if v9 = (-1) then
            some (1, v7.2)
          else
            some (0, v7.2)
        else
          some (0, v7.2)
      else
        some (0, S3)
    else
      some (0, S3)
noncomputable def fL_areTurnsSo_j221 (y3 : Int32) (y7 : Int32) (y8 : Int32) (S_221 : SC) : Option (Int32 × SC) :=
  fL_areTurnsSo_j222 y3 y7 y8 0 S_221
noncomputable def fL_areTurnsSo_j217 (y3 : Int32) (y7 : Int32) (y8 : Int32) (S_217 : SC) : Option (Int32 × SC) :=
  fL_areTurnsSo_j222 y3 y7 y8 1 S_217
noncomputable def fL_areTurnsSo_j201 (y3 : Int32) (y7 : Int32) (y8 : Int32) (y9 : Int32) (S_201 : SC) : Option (Int32 × SC) :=
  if (0 : Int32) ≤ y9 then
    fL_areTurnsSo_j217 y3 y7 y8 S_201
  else
    bnd (fX3_onTurn S_201) fun v11 =>
    if v11 = (1 : Int32) - y7 then
      fL_areTurnsSo_j217 y3 y7 y8 S_201
    else
      fL_areTurnsSo_j221 y3 y7 y8 S_201
noncomputable def fL_areTurnsSo_j67 (y2 : Int32) (y3 : Int32) (z0 : Int32) (z1 : Int32) (S_67 : SC) : Option (Int32 × SC) :=
  if z0 = z1 then
    if (1 : Int32) ≤ y3 then
      bnd (fL_low S_67 y2 y3) fun v13 =>
      bndnS (fX3_turnAt S_67 v13) fun v15 S16 =>
      nm ((v15 / 100) - (v15 / 100) / 100 * 100 : Int32) fun v17 =>
      bnd (fX3_onTurn S16) fun v19 =>
      bnd (fX3_played S16) fun v21 =>
      bndnS (fX3_play S16 v15) fun v23 S24 =>
      bndn (fX3_builderAt S24 v17) fun v26 =>
      if v26 = ((10 : Int32) * v19) + (v15 / 10000) then
        bnd (fX3_winner S24) fun v28 =>
        if v28 = v23 then
          bnd (fX3_played S24) fun v30 =>
          if v30 = v21 + 1 then
            if v15 - v15 / 100 * 100 = 99 then
              if v23 = v19 then
                fL_areTurnsSo_j201 y3 v19 v21 v23 S24
              else
                fL_areTurnsSo_j221 y3 v19 v21 S24
            else
              if v23 = (-1) then
                fL_areTurnsSo_j201 y3 v19 v21 v23 S24
              else
                if v23 = v19 then
                  fL_areTurnsSo_j201 y3 v19 v21 v23 S24
                else
                  fL_areTurnsSo_j221 y3 v19 v21 S24
          else
            fL_areTurnsSo_j221 y3 v19 v21 S24
        else
          fL_areTurnsSo_j221 y3 v19 v21 S24
      else
        fL_areTurnsSo_j221 y3 v19 v21 S24
    else
      fL_areTurnsSo_j75 y3 S_67
  else
    fL_areTurnsSo_j75 y3 S_67
noncomputable def fL_areTurnsSo_j54 (y2 : Int32) (y3 : Int32) (z1 : Int32) (S_54 : SC) : Option (Int32 × SC) :=
  bnd (fL_turnAt S_54 z1) fun v32 =>
  if (0 : Int32) ≤ y3 then
    fL_areTurnsSo_j67 y2 y3 v32.1 (-1) v32.2
  else
    fL_areTurnsSo_j67 y2 y3 v32.1 (-2) v32.2
noncomputable def fL_areTurnsSo_b11 (y2 : Int32) (y3 : Int32) : (Int32 × Int32 × SC) → Option ((Int32 × Int32 × SC) ⊕ (Int32 × SC)) :=
  fun st => match st with
    | (y4, y5, S_11) =>
      if y3 ≤ y5 then
        ex <|
        if (0 : Int32) ≤ y3 then
          fL_areTurnsSo_j54 y2 y3 y3 S_11
        else
          fL_areTurnsSo_j54 y2 y3 0 S_11
      else
        bndnS (fX3_turnAt S_11 y5) fun v34 S35 =>
        if y4 < v34 then
          nm (y5 + 1 : Int32) fun v36 =>
          some (.inl (v34, v36, S35))
        else
          ex <|
          some (0, S35)
noncomputable def fL_areTurnsSo (S : SC) (x1 : Int32) (x2 : Int32) : Option (Int32 × SC) :=
  bnd (fL_turnCount S) fun v38 =>
  loop (fL_areTurnsSo_b11 x2 v38.1) FUEL ((-1), 0, v38.2)
set_option maxHeartbeats 4000000 in
set_option maxRecDepth 100000 in
theorem kL_areTurnsSo (l : Launch) (hfl : l.stackTraces = false) (t1 t2 : Nat) (D : va_G) (cy : Nat → ClassId) (ad : Nat → Nat) (Xr : va_W) (S : SC) (x1 : Int32) (x2 : Int32) (r : (Int32 × SC)) (hf : fL_areTurnsSo S x1 x2 = some r) : CL l t1 t2 D cy (wC cy ad Xr) yL_areTurnsSo wsL_areTurnsSo ({ frames := 9, cells := 4, slots := 24, locals := 173 } : Room) [.ref (ad 0), .int x1, .int x2] S (some (.int r.1)) r.2 := by
  refine CL.of (cc := cL_areTurnsSo) (maxL := 11) (ret := (some .boolean)) (by decide +kernel) rfl (Nat.le_of_ble_eq_true rfl) ?_
  intro p e s m below meth c A ls X hr T hl hX hN
  obtain ⟨hx, hb, hml, hown, hts, hlk, hK, hA, hwA⟩ := id X
  have hl : lv_has ls 11 [(0, .ref (ad 0)), (1, .int x1), (2, .int x2)] := hl
  unfold fL_areTurnsSo at hf
  have j_75 : ∀ (y3 : Int32) (S_75 : SC) (H : Heap) (locs : List Loc) (ls : Array Slot), fL_areTurnsSo_j75 y3 S_75 = some r → ST D (wC cy ad Xr) A s S_75 H locs → lv_has ls 11 [(3, .int y3)] → W p l e ({ frames := 9, cells := 4, slots := 24, locals := 173 } : Room) s m [.ref (ad 0), .int x1, .int x2].toArray below meth c H locs 3 18 (MQ below (QG D (wC cy ad Xr) A (some (.int r.1)) r.2) [.ref (ad 0), .int x1, .int x2].toArray s 4 24 A) (F0 m 75 ls []) := by
    intro y3 S_75 H locs ls hf T hl
    unfold fL_areTurnsSo_j75 at hf
    refine lv_iload_n hx hb dL_areTurnsSo_75 rfl (lv_at hl 0 rfl) ?_
    refine lv_iconst (v := 1) hx hb dL_areTurnsSo_76 (by decide) ?_
    refine lv_icmp_ge (tgt := 84) hx hb dL_areTurnsSo_77 (by decide) (fun hc => ?_) (fun hc => ?_)
    · replace hf := ifp hc hf
      refine lv_iconst (v := 0) hx hb dL_areTurnsSo_84 (by decide) ?_
      exact rl_zw hf X T hr (Or.inl rfl) dL_areTurnsSo_85 (Nat.le_of_ble_eq_true rfl) (Nat.le_of_ble_eq_true rfl)
    · replace hf := ifn hc hf
      refine lv_iconst (v := 1) hx hb dL_areTurnsSo_80 (by decide) ?_
      refine lv_goto (tgt := 85) hx hb dL_areTurnsSo_81 (by decide) ?_
      exact rl_zw hf X T hr (Or.inr rfl) dL_areTurnsSo_85 (Nat.le_of_ble_eq_true rfl) (Nat.le_of_ble_eq_true rfl)
  have j_222 : ∀ (y3 : Int32) (y7 : Int32) (y8 : Int32) (z0 : Int32) (S_222 : SC) (H : Heap) (locs : List Loc) (ls : Array Slot), fL_areTurnsSo_j222 y3 y7 y8 z0 S_222 = some r → ST D (wC cy ad Xr) A s S_222 H locs → lv_has ls 11 [(0, .ref (ad 0)), (3, .int y3), (7, .int y7), (8, .int y8)] → W p l e ({ frames := 9, cells := 4, slots := 24, locals := 173 } : Room) s m [.ref (ad 0), .int x1, .int x2].toArray below meth c H locs 3 18 (MQ below (QG D (wC cy ad Xr) A (some (.int r.1)) r.2) [.ref (ad 0), .int x1, .int x2].toArray s 4 24 A) (F0 m 222 ls [.int z0]) := by
    intro y3 y7 y8 z0 S_222 H locs ls hf T hl
    unfold fL_areTurnsSo_j222 at hf
    refine lv_istore (lv' := [(10, .int z0), (0, .ref (ad 0)), (3, .int y3), (7, .int y7), (8, .int y8)]) hx hb dL_areTurnsSo_222 hl (by decide) rfl (fun ls hl => ?_)
    refine lv_iload hx hb dL_areTurnsSo_224 (lv_at hl 0 rfl) ?_
    refine lv_if_eq (tgt := 267) hx hb dL_areTurnsSo_226 (by decide) (fun hc => ?_) (fun hc => ?_)
    · replace hf := ifp hc hf
      refine lv_iconst (v := 0) hx hb dL_areTurnsSo_267 (by decide) ?_
      exact rl_zw hf X T hr (Or.inl rfl) dL_areTurnsSo_268 (Nat.le_of_ble_eq_true rfl) (Nat.le_of_ble_eq_true rfl)
    · replace hf := ifn hc hf
      refine lv_aload_n hx hb dL_areTurnsSo_229 rfl (lv_at hl 1 rfl) ?_
      obtain ⟨v2, S3, h1, hf⟩ := bndnS_inv hf
      refine cgs_V (q0 := 15) (ci := 3) (As := []) (rest := []) X hX T (kN_X3_takeBack l t1 t2 D cy ad Xr S_222 _ h1 rfl) (cwV 0 hts gL_areTurnsSo_X3_takeBack rfl rfl rfl (by decide +kernel) ⟨(Nat.le_of_ble_eq_true rfl), (Nat.le_of_ble_eq_true rfl)⟩) rfl rfl rfl hl.1 rfl (Nat.le_of_ble_eq_true rfl) dL_areTurnsSo_230 ⟨(Nat.le_of_ble_eq_true rfl), (Nat.le_of_ble_eq_true rfl)⟩ (st2 := [.int v2]) (pc2 := 233) rfl rfl (fun H locs T => ?_)
      refine lv_iload hx hb dL_areTurnsSo_233 (lv_at hl 4 rfl) ?_
      refine lv_icmp_ne (tgt := 267) hx hb dL_areTurnsSo_235 (by decide) (fun hc => ?_) (fun hc => ?_)
      · replace hf := ifn hc hf
        refine lv_iconst (v := 0) hx hb dL_areTurnsSo_267 (by decide) ?_
        exact rl_zw hf X T hr (Or.inl rfl) dL_areTurnsSo_268 (Nat.le_of_ble_eq_true rfl) (Nat.le_of_ble_eq_true rfl)
      · replace hf := ifp hc hf
        refine lv_aload_n hx hb dL_areTurnsSo_238 rfl (lv_at hl 1 rfl) ?_
        obtain ⟨v5, h4, hf⟩ := bnd_inv hf
        refine cg_V (q0 := 15) (ci := 3) (As := []) (rest := []) X T (kX3_onTurn l D cy ad Xr S3 v5 h4) (cwV 0 hts gL_areTurnsSo_X3_onTurn rfl rfl rfl (by decide +kernel) ⟨(Nat.le_of_ble_eq_true rfl), (Nat.le_of_ble_eq_true rfl)⟩) rfl rfl rfl hl.1 rfl (Nat.le_of_ble_eq_true rfl) dL_areTurnsSo_239 ⟨(Nat.le_of_ble_eq_true rfl), (Nat.le_of_ble_eq_true rfl)⟩ (st2 := [.int v5]) (pc2 := 242) rfl rfl (fun H locs T => ?_)
        refine lv_iload hx hb dL_areTurnsSo_242 (lv_at hl 3 rfl) ?_
        refine lv_icmp_ne (tgt := 267) hx hb dL_areTurnsSo_244 (by decide) (fun hc => ?_) (fun hc => ?_)
        · replace hf := ifn hc hf
          refine lv_iconst (v := 0) hx hb dL_areTurnsSo_267 (by decide) ?_
          exact rl_zw hf X T hr (Or.inl rfl) dL_areTurnsSo_268 (Nat.le_of_ble_eq_true rfl) (Nat.le_of_ble_eq_true rfl)
        · replace hf := ifp hc hf
          refine lv_aload_n hx hb dL_areTurnsSo_247 rfl (lv_at hl 1 rfl) ?_
          obtain ⟨v7, h6, hf⟩ := bnd_inv hf
          refine cl_SW (As := [.ref (ad 0)]) (rest := []) X hX hN T (kL_turnCount l hfl t1 t2 D cy ad Xr S3 v7 h6) (vx_cwSW 1 hts gL_areTurnsSo_L_turnCount rfl rfl rfl (by decide +kernel) ⟨(Nat.le_of_ble_eq_true rfl), (Nat.le_of_ble_eq_true rfl)⟩) rfl hl.1 rfl (Nat.le_of_ble_eq_true rfl) dL_areTurnsSo_248 ⟨(Nat.le_of_ble_eq_true rfl), (Nat.le_of_ble_eq_true rfl)⟩ (st2 := [.int v7.1]) (pc2 := 251) (c2 := 4) (s2 := 24) rfl rfl rfl rfl (fun H locs T => ?_)
          refine lv_iload_n hx hb dL_areTurnsSo_251 rfl (lv_at hl 2 rfl) ?_
          refine lv_icmp_ne (tgt := 267) hx hb dL_areTurnsSo_252 (by decide) (fun hc => ?_) (fun hc => ?_)
          · replace hf := ifn hc hf
            refine lv_iconst (v := 0) hx hb dL_areTurnsSo_267 (by decide) ?_
            exact rl_zw hf X T hr (Or.inl rfl) dL_areTurnsSo_268 (Nat.le_of_ble_eq_true rfl) (Nat.le_of_ble_eq_true rfl)
          · replace hf := ifp hc hf
            refine lv_aload_n hx hb dL_areTurnsSo_255 rfl (lv_at hl 1 rfl) ?_
            obtain ⟨v9, h8, hf⟩ := bnd_inv hf
            refine cg_V (q0 := 15) (ci := 3) (As := []) (rest := []) X T (kX3_winner l D cy ad Xr v7.2 v9 h8) (cwV 0 hts gL_areTurnsSo_X3_winner rfl rfl rfl (by decide +kernel) ⟨(Nat.le_of_ble_eq_true rfl), (Nat.le_of_ble_eq_true rfl)⟩) rfl rfl rfl hl.1 rfl (Nat.le_of_ble_eq_true rfl) dL_areTurnsSo_256 ⟨(Nat.le_of_ble_eq_true rfl), (Nat.le_of_ble_eq_true rfl)⟩ (st2 := [.int v9]) (pc2 := 259) rfl rfl (fun H locs T => ?_)
            refine lv_iconst (v := (-1)) hx hb dL_areTurnsSo_259 (by decide) ?_
            refine lv_icmp_ne (tgt := 267) hx hb dL_areTurnsSo_260 (by decide) (fun hc => ?_) (fun hc => ?_)
            · replace hf := ifn hc hf
              refine lv_iconst (v := 0) hx hb dL_areTurnsSo_267 (by decide) ?_
              exact rl_zw hf X T hr (Or.inl rfl) dL_areTurnsSo_268 (Nat.le_of_ble_eq_true rfl) (Nat.le_of_ble_eq_true rfl)
            · replace hf := ifp hc hf
              refine lv_iconst (v := 1) hx hb dL_areTurnsSo_263 (by decide) ?_
              refine lv_goto (tgt := 268) hx hb dL_areTurnsSo_264 (by decide) ?_
              exact rl_zw hf X T hr (Or.inr rfl) dL_areTurnsSo_268 (Nat.le_of_ble_eq_true rfl) (Nat.le_of_ble_eq_true rfl)
  have j_221 : ∀ (y3 : Int32) (y7 : Int32) (y8 : Int32) (S_221 : SC) (H : Heap) (locs : List Loc) (ls : Array Slot), fL_areTurnsSo_j221 y3 y7 y8 S_221 = some r → ST D (wC cy ad Xr) A s S_221 H locs → lv_has ls 11 [(0, .ref (ad 0)), (3, .int y3), (7, .int y7), (8, .int y8)] → W p l e ({ frames := 9, cells := 4, slots := 24, locals := 173 } : Room) s m [.ref (ad 0), .int x1, .int x2].toArray below meth c H locs 3 18 (MQ below (QG D (wC cy ad Xr) A (some (.int r.1)) r.2) [.ref (ad 0), .int x1, .int x2].toArray s 4 24 A) (F0 m 221 ls []) := by
    intro y3 y7 y8 S_221 H locs ls hf T hl
    unfold fL_areTurnsSo_j221 at hf
    refine lv_iconst (v := 0) hx hb dL_areTurnsSo_221 (by decide) ?_
    refine W.widen (k := 3) (n := 18) (Nat.le_of_ble_eq_true rfl) (Nat.le_of_ble_eq_true rfl) ?_
    exact j_222 y3 y7 y8 0 S_221 _ _ _ hf T (lv_sub hl [0, 1, 2, 3] rfl)
  have j_217 : ∀ (y3 : Int32) (y7 : Int32) (y8 : Int32) (S_217 : SC) (H : Heap) (locs : List Loc) (ls : Array Slot), fL_areTurnsSo_j217 y3 y7 y8 S_217 = some r → ST D (wC cy ad Xr) A s S_217 H locs → lv_has ls 11 [(0, .ref (ad 0)), (3, .int y3), (7, .int y7), (8, .int y8)] → W p l e ({ frames := 9, cells := 4, slots := 24, locals := 173 } : Room) s m [.ref (ad 0), .int x1, .int x2].toArray below meth c H locs 3 18 (MQ below (QG D (wC cy ad Xr) A (some (.int r.1)) r.2) [.ref (ad 0), .int x1, .int x2].toArray s 4 24 A) (F0 m 217 ls []) := by
    intro y3 y7 y8 S_217 H locs ls hf T hl
    unfold fL_areTurnsSo_j217 at hf
    refine lv_iconst (v := 1) hx hb dL_areTurnsSo_217 (by decide) ?_
    refine lv_goto (tgt := 222) hx hb dL_areTurnsSo_218 (by decide) ?_
    refine W.widen (k := 3) (n := 18) (Nat.le_of_ble_eq_true rfl) (Nat.le_of_ble_eq_true rfl) ?_
    exact j_222 y3 y7 y8 1 S_217 _ _ _ hf T (lv_sub hl [0, 1, 2, 3] rfl)
  have j_201 : ∀ (y3 : Int32) (y7 : Int32) (y8 : Int32) (y9 : Int32) (S_201 : SC) (H : Heap) (locs : List Loc) (ls : Array Slot), fL_areTurnsSo_j201 y3 y7 y8 y9 S_201 = some r → ST D (wC cy ad Xr) A s S_201 H locs → lv_has ls 11 [(0, .ref (ad 0)), (3, .int y3), (7, .int y7), (8, .int y8), (9, .int y9)] → W p l e ({ frames := 9, cells := 4, slots := 24, locals := 173 } : Room) s m [.ref (ad 0), .int x1, .int x2].toArray below meth c H locs 3 18 (MQ below (QG D (wC cy ad Xr) A (some (.int r.1)) r.2) [.ref (ad 0), .int x1, .int x2].toArray s 4 24 A) (F0 m 201 ls []) := by
    intro y3 y7 y8 y9 S_201 H locs ls hf T hl
    unfold fL_areTurnsSo_j201 at hf
    refine lv_iload hx hb dL_areTurnsSo_201 (lv_at hl 4 rfl) ?_
    refine lv_if_ge (tgt := 217) hx hb dL_areTurnsSo_203 (by decide) (fun hc => ?_) (fun hc => ?_)
    · replace hf := ifp hc hf
      refine W.widen (k := 3) (n := 18) (Nat.le_of_ble_eq_true rfl) (Nat.le_of_ble_eq_true rfl) ?_
      exact j_217 y3 y7 y8 S_201 _ _ _ hf T (lv_sub hl [0, 1, 2, 3] rfl)
    · replace hf := ifn hc hf
      refine lv_aload_n hx hb dL_areTurnsSo_206 rfl (lv_at hl 0 rfl) ?_
      obtain ⟨v11, h10, hf⟩ := bnd_inv hf
      refine cg_V (q0 := 15) (ci := 3) (As := []) (rest := []) X T (kX3_onTurn l D cy ad Xr S_201 v11 h10) (cwV 0 hts gL_areTurnsSo_X3_onTurn rfl rfl rfl (by decide +kernel) ⟨(Nat.le_of_ble_eq_true rfl), (Nat.le_of_ble_eq_true rfl)⟩) rfl rfl rfl hl.1 rfl (Nat.le_of_ble_eq_true rfl) dL_areTurnsSo_207 ⟨(Nat.le_of_ble_eq_true rfl), (Nat.le_of_ble_eq_true rfl)⟩ (st2 := [.int v11]) (pc2 := 210) rfl rfl (fun H locs T => ?_)
      refine lv_iconst (v := 1) hx hb dL_areTurnsSo_210 (by decide) ?_
      refine lv_iload hx hb dL_areTurnsSo_211 (lv_at hl 2 rfl) ?_
      refine lv_isub hx hb dL_areTurnsSo_213 ?_
      refine lv_icmp_ne (tgt := 221) hx hb dL_areTurnsSo_214 (by decide) (fun hc => ?_) (fun hc => ?_)
      · replace hf := ifn hc hf
        refine W.widen (k := 3) (n := 18) (Nat.le_of_ble_eq_true rfl) (Nat.le_of_ble_eq_true rfl) ?_
        exact j_221 y3 y7 y8 S_201 _ _ _ hf T (lv_sub hl [0, 1, 2, 3] rfl)
      · replace hf := ifp hc hf
        refine W.widen (k := 3) (n := 18) (Nat.le_of_ble_eq_true rfl) (Nat.le_of_ble_eq_true rfl) ?_
        exact j_217 y3 y7 y8 S_201 _ _ _ hf T (lv_sub hl [0, 1, 2, 3] rfl)
  have j_67 : ∀ (y2 : Int32) (y3 : Int32) (z0 : Int32) (z1 : Int32) (S_67 : SC) (H : Heap) (locs : List Loc) (ls : Array Slot), fL_areTurnsSo_j67 y2 y3 z0 z1 S_67 = some r → ST D (wC cy ad Xr) A s S_67 H locs → lv_has ls 11 [(0, .ref (ad 0)), (2, .int y2), (3, .int y3)] → W p l e ({ frames := 9, cells := 4, slots := 24, locals := 173 } : Room) s m [.ref (ad 0), .int x1, .int x2].toArray below meth c H locs 3 18 (MQ below (QG D (wC cy ad Xr) A (some (.int r.1)) r.2) [.ref (ad 0), .int x1, .int x2].toArray s 4 24 A) (F0 m 67 ls [.int z1, .int z0]) := by
    intro y2 y3 z0 z1 S_67 H locs ls hf T hl
    unfold fL_areTurnsSo_j67 at hf
    refine lv_icmp_ne (tgt := 75) hx hb dL_areTurnsSo_67 (by decide) (fun hc => ?_) (fun hc => ?_)
    · replace hf := ifn hc hf
      refine W.widen (k := 3) (n := 18) (Nat.le_of_ble_eq_true rfl) (Nat.le_of_ble_eq_true rfl) ?_
      exact j_75 y3 S_67 _ _ _ hf T (lv_sub hl [2] rfl)
    · replace hf := ifp hc hf
      refine lv_iload_n hx hb dL_areTurnsSo_70 rfl (lv_at hl 2 rfl) ?_
      refine lv_iconst (v := 1) hx hb dL_areTurnsSo_71 (by decide) ?_
      refine lv_icmp_ge (tgt := 86) hx hb dL_areTurnsSo_72 (by decide) (fun hc => ?_) (fun hc => ?_)
      · replace hf := ifp hc hf
        refine lv_aload_n hx hb dL_areTurnsSo_86 rfl (lv_at hl 0 rfl) ?_
        refine lv_iload_n hx hb dL_areTurnsSo_87 rfl (lv_at hl 1 rfl) ?_
        refine lv_iload_n hx hb dL_areTurnsSo_88 rfl (lv_at hl 2 rfl) ?_
        obtain ⟨v13, h12, hf⟩ := bnd_inv hf
        refine cg_S (As := [.int y2, .int y3]) (rest := [.ref (ad 0)]) X T (kL_low l D cy ad Xr S_67 y2 y3 v13 h12) (va_cwS 2 hts gL_areTurnsSo_L_low rfl rfl rfl (by decide +kernel) ⟨Nat.le_of_ble_eq_true rfl, Nat.le_of_ble_eq_true rfl⟩) rfl hl.1 rfl (Nat.le_of_ble_eq_true rfl) dL_areTurnsSo_89 ⟨(Nat.le_of_ble_eq_true rfl), (Nat.le_of_ble_eq_true rfl)⟩ (st2 := [.int v13, .ref (ad 0)]) (pc2 := 92) rfl rfl (fun H locs T => ?_)
        obtain ⟨v15, S16, h14, hf⟩ := bndnS_inv hf
        refine cgs_V (q0 := 15) (ci := 3) (As := [.int v13]) (rest := []) X hX T (kN_X3_turnAt l t1 t2 D cy ad Xr S_67 v13 _ h14 rfl) (cwV 1 hts gL_areTurnsSo_X3_turnAt rfl rfl rfl (by decide +kernel) ⟨(Nat.le_of_ble_eq_true rfl), (Nat.le_of_ble_eq_true rfl)⟩) rfl rfl rfl hl.1 rfl (Nat.le_of_ble_eq_true rfl) dL_areTurnsSo_92 ⟨(Nat.le_of_ble_eq_true rfl), (Nat.le_of_ble_eq_true rfl)⟩ (st2 := [.int v15]) (pc2 := 95) rfl rfl (fun H locs T => ?_)
        refine lv_istore (lv' := [(5, .int v15), (0, .ref (ad 0)), (2, .int y2), (3, .int y3)]) hx hb dL_areTurnsSo_95 hl (by decide) rfl (fun ls hl => ?_)
        refine lv_iload hx hb dL_areTurnsSo_97 (lv_at hl 0 rfl) ?_
        refine lv_bipush (v := 100) hx hb dL_areTurnsSo_99 (by decide) ?_
        refine lv_idiv hx hb dL_areTurnsSo_101 (by decide) ?_
        refine lv_bipush (v := 100) hx hb dL_areTurnsSo_102 (by decide) ?_
        refine lv_irem hx hb dL_areTurnsSo_104 (by decide) ?_
        refine lv_topi (fun v17 e_v17 => ?_)
        replace hf := nm_use hf e_v17
        refine lv_istore (lv' := [(6, .int v17), (5, .int v15), (0, .ref (ad 0)), (2, .int y2), (3, .int y3)]) hx hb dL_areTurnsSo_105 hl (by decide) rfl (fun ls hl => ?_)
        refine lv_aload_n hx hb dL_areTurnsSo_107 rfl (lv_at hl 2 rfl) ?_
        obtain ⟨v19, h18, hf⟩ := bnd_inv hf
        refine cg_V (q0 := 15) (ci := 3) (As := []) (rest := []) X T (kX3_onTurn l D cy ad Xr S16 v19 h18) (cwV 0 hts gL_areTurnsSo_X3_onTurn rfl rfl rfl (by decide +kernel) ⟨(Nat.le_of_ble_eq_true rfl), (Nat.le_of_ble_eq_true rfl)⟩) rfl rfl rfl hl.1 rfl (Nat.le_of_ble_eq_true rfl) dL_areTurnsSo_108 ⟨(Nat.le_of_ble_eq_true rfl), (Nat.le_of_ble_eq_true rfl)⟩ (st2 := [.int v19]) (pc2 := 111) rfl rfl (fun H locs T => ?_)
        refine lv_istore (lv' := [(7, .int v19), (6, .int v17), (5, .int v15), (0, .ref (ad 0)), (2, .int y2), (3, .int y3)]) hx hb dL_areTurnsSo_111 hl (by decide) rfl (fun ls hl => ?_)
        refine lv_aload_n hx hb dL_areTurnsSo_113 rfl (lv_at hl 3 rfl) ?_
        obtain ⟨v21, h20, hf⟩ := bnd_inv hf
        refine cg_V (q0 := 15) (ci := 3) (As := []) (rest := []) X T (kX3_played l D cy ad Xr S16 v21 h20) (cwV 0 hts gL_areTurnsSo_X3_played rfl rfl rfl (by decide +kernel) ⟨(Nat.le_of_ble_eq_true rfl), (Nat.le_of_ble_eq_true rfl)⟩) rfl rfl rfl hl.1 rfl (Nat.le_of_ble_eq_true rfl) dL_areTurnsSo_114 ⟨(Nat.le_of_ble_eq_true rfl), (Nat.le_of_ble_eq_true rfl)⟩ (st2 := [.int v21]) (pc2 := 117) rfl rfl (fun H locs T => ?_)
        refine lv_istore (lv' := [(8, .int v21), (7, .int v19), (6, .int v17), (5, .int v15), (0, .ref (ad 0)), (2, .int y2), (3, .int y3)]) hx hb dL_areTurnsSo_117 hl (by decide) rfl (fun ls hl => ?_)
        refine lv_aload_n hx hb dL_areTurnsSo_119 rfl (lv_at hl 4 rfl) ?_
        refine lv_iload hx hb dL_areTurnsSo_120 (lv_at hl 3 rfl) ?_
        obtain ⟨v23, S24, h22, hf⟩ := bndnS_inv hf
        refine cgs_V (q0 := 15) (ci := 3) (As := [.int v15]) (rest := []) X hX T (kN_X3_play l t1 t2 D cy ad Xr S16 v15 _ h22 rfl) (cwV 1 hts gL_areTurnsSo_X3_play rfl rfl rfl (by decide +kernel) ⟨(Nat.le_of_ble_eq_true rfl), (Nat.le_of_ble_eq_true rfl)⟩) rfl rfl rfl hl.1 rfl (Nat.le_of_ble_eq_true rfl) dL_areTurnsSo_122 ⟨(Nat.le_of_ble_eq_true rfl), (Nat.le_of_ble_eq_true rfl)⟩ (st2 := [.int v23]) (pc2 := 125) rfl rfl (fun H locs T => ?_)
        refine lv_istore (lv' := [(9, .int v23), (8, .int v21), (7, .int v19), (6, .int v17), (5, .int v15), (0, .ref (ad 0)), (2, .int y2), (3, .int y3)]) hx hb dL_areTurnsSo_125 hl (by decide) rfl (fun ls hl => ?_)
        refine lv_aload_n hx hb dL_areTurnsSo_127 rfl (lv_at hl 5 rfl) ?_
        refine lv_iload hx hb dL_areTurnsSo_128 (lv_at hl 3 rfl) ?_
        obtain ⟨v26, h25, hf⟩ := bndn_inv hf
        refine cgs_V (q0 := 15) (ci := 3) (As := [.int v17]) (rest := []) X hX T (kN_X3_builderAt l t1 t2 D cy ad Xr S24 v17 _ h25 rfl) (cwV 1 hts gL_areTurnsSo_X3_builderAt rfl rfl rfl (by decide +kernel) ⟨(Nat.le_of_ble_eq_true rfl), (Nat.le_of_ble_eq_true rfl)⟩) rfl rfl rfl hl.1 rfl (Nat.le_of_ble_eq_true rfl) dL_areTurnsSo_130 ⟨(Nat.le_of_ble_eq_true rfl), (Nat.le_of_ble_eq_true rfl)⟩ (st2 := [.int v26]) (pc2 := 133) rfl rfl (fun H locs T => ?_)
        refine lv_bipush (v := 10) hx hb dL_areTurnsSo_133 (by decide) ?_
        refine lv_iload hx hb dL_areTurnsSo_135 (lv_at hl 2 rfl) ?_
        refine lv_imul hx hb dL_areTurnsSo_137 ?_
        refine lv_iload hx hb dL_areTurnsSo_138 (lv_at hl 4 rfl) ?_
        refine lv_sipush (v := 10000) hx hb dL_areTurnsSo_140 (by decide) ?_
        refine lv_idiv hx hb dL_areTurnsSo_143 (by decide) ?_
        refine lv_iadd hx hb dL_areTurnsSo_144 ?_
        refine lv_icmp_ne (tgt := 221) hx hb dL_areTurnsSo_145 (by decide) (fun hc => ?_) (fun hc => ?_)
        · replace hf := ifn hc hf
          refine W.widen (k := 3) (n := 18) (Nat.le_of_ble_eq_true rfl) (Nat.le_of_ble_eq_true rfl) ?_
          exact j_221 y3 v19 v21 S24 _ _ _ hf T (lv_sub hl [5, 7, 2, 1] rfl)
        · replace hf := ifp hc hf
          refine lv_aload_n hx hb dL_areTurnsSo_148 rfl (lv_at hl 5 rfl) ?_
          obtain ⟨v28, h27, hf⟩ := bnd_inv hf
          refine cg_V (q0 := 15) (ci := 3) (As := []) (rest := []) X T (kX3_winner l D cy ad Xr S24 v28 h27) (cwV 0 hts gL_areTurnsSo_X3_winner rfl rfl rfl (by decide +kernel) ⟨(Nat.le_of_ble_eq_true rfl), (Nat.le_of_ble_eq_true rfl)⟩) rfl rfl rfl hl.1 rfl (Nat.le_of_ble_eq_true rfl) dL_areTurnsSo_149 ⟨(Nat.le_of_ble_eq_true rfl), (Nat.le_of_ble_eq_true rfl)⟩ (st2 := [.int v28]) (pc2 := 152) rfl rfl (fun H locs T => ?_)
          refine lv_iload hx hb dL_areTurnsSo_152 (lv_at hl 0 rfl) ?_
          refine lv_icmp_ne (tgt := 221) hx hb dL_areTurnsSo_154 (by decide) (fun hc => ?_) (fun hc => ?_)
          · replace hf := ifn hc hf
            refine W.widen (k := 3) (n := 18) (Nat.le_of_ble_eq_true rfl) (Nat.le_of_ble_eq_true rfl) ?_
            exact j_221 y3 v19 v21 S24 _ _ _ hf T (lv_sub hl [5, 7, 2, 1] rfl)
          · replace hf := ifp hc hf
            refine lv_aload_n hx hb dL_areTurnsSo_157 rfl (lv_at hl 5 rfl) ?_
            obtain ⟨v30, h29, hf⟩ := bnd_inv hf
            refine cg_V (q0 := 15) (ci := 3) (As := []) (rest := []) X T (kX3_played l D cy ad Xr S24 v30 h29) (cwV 0 hts gL_areTurnsSo_X3_played rfl rfl rfl (by decide +kernel) ⟨(Nat.le_of_ble_eq_true rfl), (Nat.le_of_ble_eq_true rfl)⟩) rfl rfl rfl hl.1 rfl (Nat.le_of_ble_eq_true rfl) dL_areTurnsSo_158 ⟨(Nat.le_of_ble_eq_true rfl), (Nat.le_of_ble_eq_true rfl)⟩ (st2 := [.int v30]) (pc2 := 161) rfl rfl (fun H locs T => ?_)
            refine lv_iload hx hb dL_areTurnsSo_161 (lv_at hl 1 rfl) ?_
            refine lv_iconst (v := 1) hx hb dL_areTurnsSo_163 (by decide) ?_
            refine lv_iadd hx hb dL_areTurnsSo_164 ?_
            refine lv_icmp_ne (tgt := 221) hx hb dL_areTurnsSo_165 (by decide) (fun hc => ?_) (fun hc => ?_)
            · replace hf := ifn hc hf
              refine W.widen (k := 3) (n := 18) (Nat.le_of_ble_eq_true rfl) (Nat.le_of_ble_eq_true rfl) ?_
              exact j_221 y3 v19 v21 S24 _ _ _ hf T (lv_sub hl [5, 7, 2, 1] rfl)
            · replace hf := ifp hc hf
              refine lv_iload hx hb dL_areTurnsSo_168 (lv_at hl 4 rfl) ?_
              refine lv_bipush (v := 100) hx hb dL_areTurnsSo_170 (by decide) ?_
              refine lv_irem hx hb dL_areTurnsSo_172 (by decide) ?_
              refine lv_bipush (v := 99) hx hb dL_areTurnsSo_173 (by decide) ?_
              refine lv_icmp_ne (tgt := 188) hx hb dL_areTurnsSo_175 (by decide) (fun hc => ?_) (fun hc => ?_)
              · replace hf := ifn hc hf
                refine lv_iload hx hb dL_areTurnsSo_188 (lv_at hl 0 rfl) ?_
                refine lv_iconst (v := (-1)) hx hb dL_areTurnsSo_190 (by decide) ?_
                refine lv_icmp_eq (tgt := 201) hx hb dL_areTurnsSo_191 (by decide) (fun hc => ?_) (fun hc => ?_)
                · replace hf := ifp hc hf
                  refine W.widen (k := 3) (n := 18) (Nat.le_of_ble_eq_true rfl) (Nat.le_of_ble_eq_true rfl) ?_
                  exact j_201 y3 v19 v21 v23 S24 _ _ _ hf T (lv_sub hl [5, 7, 2, 1, 0] rfl)
                · replace hf := ifn hc hf
                  refine lv_iload hx hb dL_areTurnsSo_194 (lv_at hl 0 rfl) ?_
                  refine lv_iload hx hb dL_areTurnsSo_196 (lv_at hl 2 rfl) ?_
                  refine lv_icmp_ne (tgt := 221) hx hb dL_areTurnsSo_198 (by decide) (fun hc => ?_) (fun hc => ?_)
                  · replace hf := ifn hc hf
                    refine W.widen (k := 3) (n := 18) (Nat.le_of_ble_eq_true rfl) (Nat.le_of_ble_eq_true rfl) ?_
                    exact j_221 y3 v19 v21 S24 _ _ _ hf T (lv_sub hl [5, 7, 2, 1] rfl)
                  · replace hf := ifp hc hf
                    refine W.widen (k := 3) (n := 18) (Nat.le_of_ble_eq_true rfl) (Nat.le_of_ble_eq_true rfl) ?_
                    exact j_201 y3 v19 v21 v23 S24 _ _ _ hf T (lv_sub hl [5, 7, 2, 1, 0] rfl)
              · replace hf := ifp hc hf
                refine lv_iload hx hb dL_areTurnsSo_178 (lv_at hl 0 rfl) ?_
                refine lv_iload hx hb dL_areTurnsSo_180 (lv_at hl 2 rfl) ?_
                refine lv_icmp_ne (tgt := 221) hx hb dL_areTurnsSo_182 (by decide) (fun hc => ?_) (fun hc => ?_)
                · replace hf := ifn hc hf
                  refine W.widen (k := 3) (n := 18) (Nat.le_of_ble_eq_true rfl) (Nat.le_of_ble_eq_true rfl) ?_
                  exact j_221 y3 v19 v21 S24 _ _ _ hf T (lv_sub hl [5, 7, 2, 1] rfl)
                · replace hf := ifp hc hf
                  refine lv_goto (tgt := 201) hx hb dL_areTurnsSo_185 (by decide) ?_
                  refine W.widen (k := 3) (n := 18) (Nat.le_of_ble_eq_true rfl) (Nat.le_of_ble_eq_true rfl) ?_
                  exact j_201 y3 v19 v21 v23 S24 _ _ _ hf T (lv_sub hl [5, 7, 2, 1, 0] rfl)
      · replace hf := ifn hc hf
        refine W.widen (k := 3) (n := 18) (Nat.le_of_ble_eq_true rfl) (Nat.le_of_ble_eq_true rfl) ?_
        exact j_75 y3 S_67 _ _ _ hf T (lv_sub hl [2] rfl)
  have j_54 : ∀ (y2 : Int32) (y3 : Int32) (z1 : Int32) (S_54 : SC) (H : Heap) (locs : List Loc) (ls : Array Slot), fL_areTurnsSo_j54 y2 y3 z1 S_54 = some r → ST D (wC cy ad Xr) A s S_54 H locs → lv_has ls 11 [(0, .ref (ad 0)), (2, .int y2), (3, .int y3)] → W p l e ({ frames := 9, cells := 4, slots := 24, locals := 173 } : Room) s m [.ref (ad 0), .int x1, .int x2].toArray below meth c H locs 1 6 (MQ below (QG D (wC cy ad Xr) A (some (.int r.1)) r.2) [.ref (ad 0), .int x1, .int x2].toArray s 4 24 A) (F0 m 54 ls [.int z1, .ref (ad 0)]) := by
    intro y2 y3 z1 S_54 H locs ls hf T hl
    unfold fL_areTurnsSo_j54 at hf
    obtain ⟨v32, h31, hf⟩ := bnd_inv hf
    refine cl_SW (As := [.ref (ad 0), .int z1]) (rest := []) X hX hN T (kL_turnAt l hfl t1 t2 D cy ad Xr S_54 z1 v32 h31) (vx_cwSW 2 hts gL_areTurnsSo_L_turnAt rfl rfl rfl (by decide +kernel) ⟨(Nat.le_of_ble_eq_true rfl), (Nat.le_of_ble_eq_true rfl)⟩) rfl hl.1 rfl (Nat.le_of_ble_eq_true rfl) dL_areTurnsSo_54 ⟨(Nat.le_of_ble_eq_true rfl), (Nat.le_of_ble_eq_true rfl)⟩ (st2 := [.int v32.1]) (pc2 := 57) (c2 := 3) (s2 := 18) rfl rfl rfl rfl (fun H locs T => ?_)
    refine lv_iload_n hx hb dL_areTurnsSo_57 rfl (lv_at hl 2 rfl) ?_
    refine lv_if_ge (tgt := 66) hx hb dL_areTurnsSo_58 (by decide) (fun hc => ?_) (fun hc => ?_)
    · replace hf := ifp hc hf
      refine lv_iconst (v := (-1)) hx hb dL_areTurnsSo_66 (by decide) ?_
      refine W.widen (k := 3) (n := 18) (Nat.le_of_ble_eq_true rfl) (Nat.le_of_ble_eq_true rfl) ?_
      exact j_67 y2 y3 v32.1 (-1) v32.2 _ _ _ hf T (lv_sub hl [0, 1, 2] rfl)
    · replace hf := ifn hc hf
      refine lv_bipush (v := (-2)) hx hb dL_areTurnsSo_61 (by decide) ?_
      refine lv_goto (tgt := 67) hx hb dL_areTurnsSo_63 (by decide) ?_
      refine W.widen (k := 3) (n := 18) (Nat.le_of_ble_eq_true rfl) (Nat.le_of_ble_eq_true rfl) ?_
      exact j_67 y2 y3 v32.1 (-2) v32.2 _ _ _ hf T (lv_sub hl [0, 1, 2] rfl)
  have l_11 : ∀ (y2 : Int32) (y3 : Int32) (n : Nat) (y4 : Int32) (y5 : Int32) (S_11 : SC) (H : Heap) (locs : List Loc) (ls : Array Slot), loop (fL_areTurnsSo_b11 y2 y3) n (y4, y5, S_11) = some r → ST D (wC cy ad Xr) A s S_11 H locs → lv_has ls 11 [(0, .ref (ad 0)), (2, .int y2), (3, .int y3), (4, .int y4), (5, .int y5)] → W p l e ({ frames := 9, cells := 4, slots := 24, locals := 173 } : Room) s m [.ref (ad 0), .int x1, .int x2].toArray below meth c H locs 1 6 (MQ below (QG D (wC cy ad Xr) A (some (.int r.1)) r.2) [.ref (ad 0), .int x1, .int x2].toArray s 4 24 A) (F0 m 11 ls []) := by
    intro y2 y3 n
    induction n with
    | zero => intro _ _ _ _ _ _ hf; cases hf
    | succ n ih_11 =>
      intro y4 y5 S_11 H locs ls hf T hl
      obtain ⟨z_11, hf, hin_11, hex_11⟩ := loop_inv hf
      unfold fL_areTurnsSo_b11 at hf
      dsimp only at hf
      refine lv_iload hx hb dL_areTurnsSo_11 (lv_at hl 4 rfl) ?_
      refine lv_iload_n hx hb dL_areTurnsSo_13 rfl (lv_at hl 2 rfl) ?_
      refine lv_icmp_ge (tgt := 44) hx hb dL_areTurnsSo_14 (by decide) (fun hc => ?_) (fun hc => ?_)
      · replace hf := ifp hc hf
        obtain ⟨r0, hf, hz⟩ := ex_inv hf
        rw [hex_11 r0 hz] at hf
        refine lv_aload_n hx hb dL_areTurnsSo_44 rfl (lv_at hl 0 rfl) ?_
        refine lv_iload_n hx hb dL_areTurnsSo_45 rfl (lv_at hl 2 rfl) ?_
        refine lv_if_ge (tgt := 53) hx hb dL_areTurnsSo_46 (by decide) (fun hc => ?_) (fun hc => ?_)
        · replace hf := ifp hc hf
          refine lv_iload_n hx hb dL_areTurnsSo_53 rfl (lv_at hl 2 rfl) ?_
          refine W.widen (k := 1) (n := 6) (Nat.le_of_ble_eq_true rfl) (Nat.le_of_ble_eq_true rfl) ?_
          exact j_54 y2 y3 y3 S_11 _ _ _ hf T (lv_sub hl [0, 1, 2] rfl)
        · replace hf := ifn hc hf
          refine lv_iconst (v := 0) hx hb dL_areTurnsSo_49 (by decide) ?_
          refine lv_goto (tgt := 54) hx hb dL_areTurnsSo_50 (by decide) ?_
          refine W.widen (k := 1) (n := 6) (Nat.le_of_ble_eq_true rfl) (Nat.le_of_ble_eq_true rfl) ?_
          exact j_54 y2 y3 0 S_11 _ _ _ hf T (lv_sub hl [0, 1, 2] rfl)
      · replace hf := ifn hc hf
        refine lv_aload_n hx hb dL_areTurnsSo_17 rfl (lv_at hl 0 rfl) ?_
        refine lv_iload hx hb dL_areTurnsSo_18 (lv_at hl 4 rfl) ?_
        obtain ⟨v34, S35, h33, hf⟩ := bndnS_inv hf
        refine cgs_V (q0 := 15) (ci := 3) (As := [.int y5]) (rest := []) X hX T (kN_X3_turnAt l t1 t2 D cy ad Xr S_11 y5 _ h33 rfl) (cwV 1 hts gL_areTurnsSo_X3_turnAt rfl rfl rfl (by decide +kernel) ⟨(Nat.le_of_ble_eq_true rfl), (Nat.le_of_ble_eq_true rfl)⟩) rfl rfl rfl hl.1 rfl (Nat.le_of_ble_eq_true rfl) dL_areTurnsSo_20 ⟨(Nat.le_of_ble_eq_true rfl), (Nat.le_of_ble_eq_true rfl)⟩ (st2 := [.int v34]) (pc2 := 23) rfl rfl (fun H locs T => ?_)
        refine lv_istore (lv' := [(6, .int v34), (0, .ref (ad 0)), (2, .int y2), (3, .int y3), (4, .int y4), (5, .int y5)]) hx hb dL_areTurnsSo_23 hl (by decide) rfl (fun ls hl => ?_)
        refine lv_iload hx hb dL_areTurnsSo_25 (lv_at hl 0 rfl) ?_
        refine lv_iload hx hb dL_areTurnsSo_27 (lv_at hl 4 rfl) ?_
        refine lv_icmp_gt (tgt := 34) hx hb dL_areTurnsSo_29 (by decide) (fun hc => ?_) (fun hc => ?_)
        · replace hf := ifp hc hf
          refine lv_iload hx hb dL_areTurnsSo_34 (lv_at hl 0 rfl) ?_
          refine lv_istore (lv' := [(4, .int v34), (6, .int v34), (0, .ref (ad 0)), (2, .int y2), (3, .int y3), (5, .int y5)]) hx hb dL_areTurnsSo_36 hl (by decide) rfl (fun ls hl => ?_)
          obtain ⟨v36, e_v36, hf⟩ := nm_inv hf
          refine lv_iinc (v := v36) (lv' := [(5, .int v36), (4, .int v34), (6, .int v34), (0, .ref (ad 0)), (2, .int y2), (3, .int y3)]) hx hb dL_areTurnsSo_38 hl (k := 5) rfl (by rw [e_v36]; rfl) (by decide) rfl (fun ls hl => ?_)
          refine lv_goto (tgt := 11) hx hb dL_areTurnsSo_41 (by decide) ?_
          refine W.widen (k := 1) (n := 6) (Nat.le_of_ble_eq_true rfl) (Nat.le_of_ble_eq_true rfl) ?_
          exact ih_11 v34 v36 S35 _ _ _ (hin_11 _ (Option.some.inj hf).symm) T (lv_sub hl [3, 4, 5, 1, 0] rfl)
        · replace hf := ifn hc hf
          obtain ⟨r0, hf, hz⟩ := ex_inv hf
          rw [hex_11 r0 hz] at hf
          refine lv_iconst (v := 0) hx hb dL_areTurnsSo_32 (by decide) ?_
          exact rl_zw hf X T hr (Or.inl rfl) dL_areTurnsSo_33 (Nat.le_of_ble_eq_true rfl) (Nat.le_of_ble_eq_true rfl)
  refine lv_aload_n hx hb dL_areTurnsSo_0 rfl (lv_at hl 0 rfl) ?_
  obtain ⟨v38, h37, hf⟩ := bnd_inv hf
  refine cl_SW (As := [.ref (ad 0)]) (rest := []) X hX hN T (kL_turnCount l hfl t1 t2 D cy ad Xr S v38 h37) (vx_cwSW 1 hts gL_areTurnsSo_L_turnCount rfl rfl rfl (by decide +kernel) ⟨(Nat.le_of_ble_eq_true rfl), (Nat.le_of_ble_eq_true rfl)⟩) rfl hl.1 rfl (Nat.le_of_ble_eq_true rfl) dL_areTurnsSo_1 ⟨(Nat.le_of_ble_eq_true rfl), (Nat.le_of_ble_eq_true rfl)⟩ (st2 := [.int v38.1]) (pc2 := 4) (c2 := 1) (s2 := 6) rfl rfl rfl rfl (fun H locs T => ?_)
  refine lv_istore_n (lv' := [(3, .int v38.1), (0, .ref (ad 0)), (1, .int x1), (2, .int x2)]) hx hb dL_areTurnsSo_4 rfl hl (by decide) rfl (fun ls hl => ?_)
  refine lv_iconst (v := (-1)) hx hb dL_areTurnsSo_5 (by decide) ?_
  refine lv_istore (lv' := [(4, .int (-1)), (3, .int v38.1), (0, .ref (ad 0)), (1, .int x1), (2, .int x2)]) hx hb dL_areTurnsSo_6 hl (by decide) rfl (fun ls hl => ?_)
  refine lv_iconst (v := 0) hx hb dL_areTurnsSo_8 (by decide) ?_
  refine lv_istore (lv' := [(5, .int 0), (4, .int (-1)), (3, .int v38.1), (0, .ref (ad 0)), (1, .int x1), (2, .int x2)]) hx hb dL_areTurnsSo_9 hl (by decide) rfl (fun ls hl => ?_)
  refine W.widen (k := 1) (n := 6) (Nat.le_of_ble_eq_true rfl) (Nat.le_of_ble_eq_true rfl) ?_
  exact l_11 x2 v38.1 FUEL (-1) 0 v38.2 _ _ _ hf T (lv_sub hl [3, 5, 2, 1, 0] rfl)

noncomputable def fL_isWorthSo_j124 (z0 : Int32) (z1 : Int32) (S_124 : SC) : Option (Int32 × SC) :=
  if z0 = z1 then
    some (1, S_124)
  else
    some (0, S_124)
noncomputable def fL_isWorthSo_j103 (y2 : Int32) (z0 : Int32) (z1 : Int32) (S_103 : SC) : Option (Int32 × SC) :=
  if z0 = z1 then
    bndnS (fX3_best S_103 1) fun v2 S3 =>
    if y2 < 0 then
      bndnS (fX3_turnAt S3 0) fun v5 S6 =>
      fL_isWorthSo_j124 v2 v5 S6
    else
      fL_isWorthSo_j124 v2 y2 S3
  else
    some (0, S_103)
noncomputable def fL_isWorthSo_j68 (y3 : Int32) (z0 : Int32) (S_68 : SC) : Option ((Int32 × Int32 × SC) ⊕ (Int32 × SC)) :=
  bndnS (fX3_takeBack S_68) fun v8 S9 =>
  nm (y3 + (-1) : Int32) fun v10 =>
  some (.inl (z0, v10, S9))
noncomputable def fL_isWorthSo_b42 : (Int32 × Int32 × SC) → Option ((Int32 × Int32 × SC) ⊕ (Int32 × SC)) :=
  fun st => match st with
    | (y2, y3, S_42) =>
      if y3 < 0 then
        ex <|
        bnd (fL_worth S_42 0) fun v12 =>
        if v12.1 = 0 then
          bnd (fL_worth v12.2 1) fun v14 =>
          if y2 < 0 then
            fL_isWorthSo_j103 y2 v14.1 0 v14.2
          else
            fL_isWorthSo_j103 y2 v14.1 1 v14.2
        else
          some (0, v12.2)
      else
        bndnS (fX3_turnAt S_42 y3) fun v16 S17 =>
        bndnS (fX3_play S17 v16) fun v19 S20 =>
        if v19 < 0 then
          fL_isWorthSo_j68 y3 y2 S20
        else
          fL_isWorthSo_j68 y3 v16 S20
noncomputable def fL_isWorthSo (S : SC) : Option (Int32 × SC) :=
  bnd (fL_turnCount S) fun v22 =>
  if (1 : Int32) ≤ v22.1 then
    nm (v22.1 - 1 : Int32) fun v23 =>
    loop (fL_isWorthSo_b42) FUEL ((-1), v23, v22.2)
  else
    bnd (fL_worth v22.2 1) fun v25 =>
    if v25.1 = (-99998) then
      bnd (fL_worth v25.2 4) fun v27 =>
      if v27.1 = (-99999) then
        some (1, v27.2)
      else
        some (0, v27.2)
    else
      some (0, v25.2)
set_option maxHeartbeats 4000000 in
set_option maxRecDepth 100000 in
theorem kL_isWorthSo (l : Launch) (hfl : l.stackTraces = false) (t1 t2 : Nat) (D : va_G) (cy : Nat → ClassId) (ad : Nat → Nat) (Xr : va_W) (S : SC) (r : (Int32 × SC)) (hf : fL_isWorthSo S = some r) : CL l t1 t2 D cy (wC cy ad Xr) yL_isWorthSo wsL_isWorthSo ({ frames := 182, cells := 5, slots := 30, locals := 9048 } : Room) [.ref (ad 0)] S (some (.int r.1)) r.2 := by
  refine CL.of (cc := cL_isWorthSo) (maxL := 6) (ret := (some .boolean)) (by decide +kernel) rfl (Nat.le_of_ble_eq_true rfl) ?_
  intro p e s m below meth c A ls X hr T hl hX hN
  obtain ⟨hx, hb, hml, hown, hts, hlk, hK, hA, hwA⟩ := id X
  have hl : lv_has ls 6 [(0, .ref (ad 0))] := hl
  unfold fL_isWorthSo at hf
  have j_124 : ∀ (z0 : Int32) (z1 : Int32) (S_124 : SC) (H : Heap) (locs : List Loc) (ls : Array Slot), fL_isWorthSo_j124 z0 z1 S_124 = some r → ST D (wC cy ad Xr) A s S_124 H locs → lv_has ls 6 [] → W p l e ({ frames := 182, cells := 5, slots := 30, locals := 9048 } : Room) s m [.ref (ad 0)].toArray below meth c H locs 5 30 (MQ below (QG D (wC cy ad Xr) A (some (.int r.1)) r.2) [.ref (ad 0)].toArray s 5 30 A) (F0 m 124 ls [.int z1, .int z0]) := by
    intro z0 z1 S_124 H locs ls hf T hl
    unfold fL_isWorthSo_j124 at hf
    refine lv_icmp_ne (tgt := 131) hx hb dL_isWorthSo_124 (by decide) (fun hc => ?_) (fun hc => ?_)
    · replace hf := ifn hc hf
      refine lv_iconst (v := 0) hx hb dL_isWorthSo_131 (by decide) ?_
      exact rl_zw hf X T hr (Or.inl rfl) dL_isWorthSo_132 (Nat.le_of_ble_eq_true rfl) (Nat.le_of_ble_eq_true rfl)
    · replace hf := ifp hc hf
      refine lv_iconst (v := 1) hx hb dL_isWorthSo_127 (by decide) ?_
      refine lv_goto (tgt := 132) hx hb dL_isWorthSo_128 (by decide) ?_
      exact rl_zw hf X T hr (Or.inr rfl) dL_isWorthSo_132 (Nat.le_of_ble_eq_true rfl) (Nat.le_of_ble_eq_true rfl)
  have j_103 : ∀ (y2 : Int32) (z0 : Int32) (z1 : Int32) (S_103 : SC) (H : Heap) (locs : List Loc) (ls : Array Slot), fL_isWorthSo_j103 y2 z0 z1 S_103 = some r → ST D (wC cy ad Xr) A s S_103 H locs → lv_has ls 6 [(0, .ref (ad 0)), (2, .int y2)] → W p l e ({ frames := 182, cells := 5, slots := 30, locals := 9048 } : Room) s m [.ref (ad 0)].toArray below meth c H locs 5 30 (MQ below (QG D (wC cy ad Xr) A (some (.int r.1)) r.2) [.ref (ad 0)].toArray s 5 30 A) (F0 m 103 ls [.int z1, .int z0]) := by
    intro y2 z0 z1 S_103 H locs ls hf T hl
    unfold fL_isWorthSo_j103 at hf
    refine lv_icmp_ne (tgt := 131) hx hb dL_isWorthSo_103 (by decide) (fun hc => ?_) (fun hc => ?_)
    · replace hf := ifn hc hf
      refine lv_iconst (v := 0) hx hb dL_isWorthSo_131 (by decide) ?_
      exact rl_zw hf X T hr (Or.inl rfl) dL_isWorthSo_132 (Nat.le_of_ble_eq_true rfl) (Nat.le_of_ble_eq_true rfl)
    · replace hf := ifp hc hf
      refine lv_aload_n hx hb dL_isWorthSo_106 rfl (lv_at hl 0 rfl) ?_
      refine lv_iconst (v := 1) hx hb dL_isWorthSo_107 (by decide) ?_
      obtain ⟨v2, S3, h1, hf⟩ := bndnS_inv hf
      refine cgs_V (q0 := 15) (ci := 3) (As := [.int 1]) (rest := []) X hX T (kN_X3_best l t1 t2 D cy ad Xr S_103 1 _ h1 rfl) (cwV 1 hts gL_isWorthSo_X3_best rfl rfl rfl (by decide +kernel) ⟨(Nat.le_of_ble_eq_true rfl), (Nat.le_of_ble_eq_true rfl)⟩) rfl rfl rfl hl.1 rfl (Nat.le_of_ble_eq_true rfl) dL_isWorthSo_108 ⟨(Nat.le_of_ble_eq_true rfl), (Nat.le_of_ble_eq_true rfl)⟩ (st2 := [.int v2]) (pc2 := 111) rfl rfl (fun H locs T => ?_)
      refine lv_iload_n hx hb dL_isWorthSo_111 rfl (lv_at hl 1 rfl) ?_
      refine lv_if_lt (tgt := 119) hx hb dL_isWorthSo_112 (by decide) (fun hc => ?_) (fun hc => ?_)
      · replace hf := ifp hc hf
        refine lv_aload_n hx hb dL_isWorthSo_119 rfl (lv_at hl 0 rfl) ?_
        refine lv_iconst (v := 0) hx hb dL_isWorthSo_120 (by decide) ?_
        obtain ⟨v5, S6, h4, hf⟩ := bndnS_inv hf
        refine cgs_V (q0 := 15) (ci := 3) (As := [.int 0]) (rest := [.int v2]) X hX T (kN_X3_turnAt l t1 t2 D cy ad Xr S3 0 _ h4 rfl) (cwV 1 hts gL_isWorthSo_X3_turnAt rfl rfl rfl (by decide +kernel) ⟨(Nat.le_of_ble_eq_true rfl), (Nat.le_of_ble_eq_true rfl)⟩) rfl rfl rfl hl.1 rfl (Nat.le_of_ble_eq_true rfl) dL_isWorthSo_121 ⟨(Nat.le_of_ble_eq_true rfl), (Nat.le_of_ble_eq_true rfl)⟩ (st2 := [.int v5, .int v2]) (pc2 := 124) rfl rfl (fun H locs T => ?_)
        refine W.widen (k := 5) (n := 30) (Nat.le_of_ble_eq_true rfl) (Nat.le_of_ble_eq_true rfl) ?_
        exact j_124 v2 v5 S6 _ _ _ hf T (lv_sub hl [] rfl)
      · replace hf := ifn hc hf
        refine lv_iload_n hx hb dL_isWorthSo_115 rfl (lv_at hl 1 rfl) ?_
        refine lv_goto (tgt := 124) hx hb dL_isWorthSo_116 (by decide) ?_
        refine W.widen (k := 5) (n := 30) (Nat.le_of_ble_eq_true rfl) (Nat.le_of_ble_eq_true rfl) ?_
        exact j_124 v2 y2 S3 _ _ _ hf T (lv_sub hl [] rfl)
  have l_42 : ∀ (n : Nat) (y2 : Int32) (y3 : Int32) (S_42 : SC) (H : Heap) (locs : List Loc) (ls : Array Slot), loop (fL_isWorthSo_b42) n (y2, y3, S_42) = some r → ST D (wC cy ad Xr) A s S_42 H locs → lv_has ls 6 [(0, .ref (ad 0)), (2, .int y2), (3, .int y3)] → W p l e ({ frames := 182, cells := 5, slots := 30, locals := 9048 } : Room) s m [.ref (ad 0)].toArray below meth c H locs 1 6 (MQ below (QG D (wC cy ad Xr) A (some (.int r.1)) r.2) [.ref (ad 0)].toArray s 5 30 A) (F0 m 42 ls []) := by
    intro n
    induction n with
    | zero => intro _ _ _ _ _ _ hf; cases hf
    | succ n ih_42 =>
      intro y2 y3 S_42 H locs ls hf T hl
      obtain ⟨z_42, hf, hin_42, hex_42⟩ := loop_inv hf
      unfold fL_isWorthSo_b42 at hf
      dsimp only at hf
      have j_68 : ∀ (y3 : Int32) (z0 : Int32) (S_68 : SC) (H : Heap) (locs : List Loc) (ls : Array Slot), fL_isWorthSo_j68 y3 z0 S_68 = some z_42 → ST D (wC cy ad Xr) A s S_68 H locs → lv_has ls 6 [(0, .ref (ad 0)), (3, .int y3)] → W p l e ({ frames := 182, cells := 5, slots := 30, locals := 9048 } : Room) s m [.ref (ad 0)].toArray below meth c H locs 1 6 (MQ below (QG D (wC cy ad Xr) A (some (.int r.1)) r.2) [.ref (ad 0)].toArray s 5 30 A) (F0 m 68 ls [.int z0]) := by
        intro y3 z0 S_68 H locs ls hf T hl
        unfold fL_isWorthSo_j68 at hf
        refine lv_istore_n (lv' := [(2, .int z0), (0, .ref (ad 0)), (3, .int y3)]) hx hb dL_isWorthSo_68 rfl hl (by decide) rfl (fun ls hl => ?_)
        refine lv_aload_n hx hb dL_isWorthSo_69 rfl (lv_at hl 1 rfl) ?_
        obtain ⟨v8, S9, h7, hf⟩ := bndnS_inv hf
        refine cgs_V (q0 := 15) (ci := 3) (As := []) (rest := []) X hX T (kN_X3_takeBack l t1 t2 D cy ad Xr S_68 _ h7 rfl) (cwV 0 hts gL_isWorthSo_X3_takeBack rfl rfl rfl (by decide +kernel) ⟨(Nat.le_of_ble_eq_true rfl), (Nat.le_of_ble_eq_true rfl)⟩) rfl rfl rfl hl.1 rfl (Nat.le_of_ble_eq_true rfl) dL_isWorthSo_70 ⟨(Nat.le_of_ble_eq_true rfl), (Nat.le_of_ble_eq_true rfl)⟩ (st2 := [.int v8]) (pc2 := 73) rfl rfl (fun H locs T => ?_)
        refine lv_istore (lv' := [(5, .int v8), (2, .int z0), (0, .ref (ad 0)), (3, .int y3)]) hx hb dL_isWorthSo_73 hl (by decide) rfl (fun ls hl => ?_)
        obtain ⟨v10, e_v10, hf⟩ := nm_inv hf
        refine lv_iinc (v := v10) (lv' := [(3, .int v10), (5, .int v8), (2, .int z0), (0, .ref (ad 0))]) hx hb dL_isWorthSo_75 hl (k := 3) rfl (by rw [e_v10]; rfl) (by decide) rfl (fun ls hl => ?_)
        refine lv_goto (tgt := 42) hx hb dL_isWorthSo_78 (by decide) ?_
        refine W.widen (k := 1) (n := 6) (Nat.le_of_ble_eq_true rfl) (Nat.le_of_ble_eq_true rfl) ?_
        exact ih_42 z0 v10 S9 _ _ _ (hin_42 _ (Option.some.inj hf).symm) T (lv_sub hl [3, 2, 0] rfl)
      refine lv_iload_n hx hb dL_isWorthSo_42 rfl (lv_at hl 2 rfl) ?_
      refine lv_if_lt (tgt := 81) hx hb dL_isWorthSo_43 (by decide) (fun hc => ?_) (fun hc => ?_)
      · replace hf := ifp hc hf
        obtain ⟨r0, hf, hz⟩ := ex_inv hf
        rw [hex_42 r0 hz] at hf
        refine lv_aload_n hx hb dL_isWorthSo_81 rfl (lv_at hl 0 rfl) ?_
        refine lv_iconst (v := 0) hx hb dL_isWorthSo_82 (by decide) ?_
        obtain ⟨v12, h11, hf⟩ := bnd_inv hf
        refine cl_SW (As := [.ref (ad 0), .int 0]) (rest := []) X hX hN T (kL_worth l hfl t1 t2 D cy ad Xr S_42 0 v12 h11) (vx_cwSW 2 hts gL_isWorthSo_L_worth rfl rfl rfl (by decide +kernel) ⟨(Nat.le_of_ble_eq_true rfl), (Nat.le_of_ble_eq_true rfl)⟩) rfl hl.1 rfl (Nat.le_of_ble_eq_true rfl) dL_isWorthSo_83 ⟨(Nat.le_of_ble_eq_true rfl), (Nat.le_of_ble_eq_true rfl)⟩ (st2 := [.int v12.1]) (pc2 := 86) (c2 := 3) (s2 := 18) rfl rfl rfl rfl (fun H locs T => ?_)
        refine lv_if_ne (tgt := 131) hx hb dL_isWorthSo_86 (by decide) (fun hc => ?_) (fun hc => ?_)
        · replace hf := ifn hc hf
          refine lv_iconst (v := 0) hx hb dL_isWorthSo_131 (by decide) ?_
          exact rl_zw hf X T hr (Or.inl rfl) dL_isWorthSo_132 (Nat.le_of_ble_eq_true rfl) (Nat.le_of_ble_eq_true rfl)
        · replace hf := ifp hc hf
          refine lv_aload_n hx hb dL_isWorthSo_89 rfl (lv_at hl 0 rfl) ?_
          refine lv_iconst (v := 1) hx hb dL_isWorthSo_90 (by decide) ?_
          obtain ⟨v14, h13, hf⟩ := bnd_inv hf
          refine cl_SW (As := [.ref (ad 0), .int 1]) (rest := []) X hX hN T (kL_worth l hfl t1 t2 D cy ad Xr v12.2 1 v14 h13) (vx_cwSW 2 hts gL_isWorthSo_L_worth rfl rfl rfl (by decide +kernel) ⟨(Nat.le_of_ble_eq_true rfl), (Nat.le_of_ble_eq_true rfl)⟩) rfl hl.1 rfl (Nat.le_of_ble_eq_true rfl) dL_isWorthSo_91 ⟨(Nat.le_of_ble_eq_true rfl), (Nat.le_of_ble_eq_true rfl)⟩ (st2 := [.int v14.1]) (pc2 := 94) (c2 := 5) (s2 := 30) rfl rfl rfl rfl (fun H locs T => ?_)
          refine lv_iload_n hx hb dL_isWorthSo_94 rfl (lv_at hl 1 rfl) ?_
          refine lv_if_lt (tgt := 102) hx hb dL_isWorthSo_95 (by decide) (fun hc => ?_) (fun hc => ?_)
          · replace hf := ifp hc hf
            refine lv_iconst (v := 0) hx hb dL_isWorthSo_102 (by decide) ?_
            refine W.widen (k := 5) (n := 30) (Nat.le_of_ble_eq_true rfl) (Nat.le_of_ble_eq_true rfl) ?_
            exact j_103 y2 v14.1 0 v14.2 _ _ _ hf T (lv_sub hl [0, 1] rfl)
          · replace hf := ifn hc hf
            refine lv_iconst (v := 1) hx hb dL_isWorthSo_98 (by decide) ?_
            refine lv_goto (tgt := 103) hx hb dL_isWorthSo_99 (by decide) ?_
            refine W.widen (k := 5) (n := 30) (Nat.le_of_ble_eq_true rfl) (Nat.le_of_ble_eq_true rfl) ?_
            exact j_103 y2 v14.1 1 v14.2 _ _ _ hf T (lv_sub hl [0, 1] rfl)
      · replace hf := ifn hc hf
        refine lv_aload_n hx hb dL_isWorthSo_46 rfl (lv_at hl 0 rfl) ?_
        refine lv_iload_n hx hb dL_isWorthSo_47 rfl (lv_at hl 2 rfl) ?_
        obtain ⟨v16, S17, h15, hf⟩ := bndnS_inv hf
        refine cgs_V (q0 := 15) (ci := 3) (As := [.int y3]) (rest := []) X hX T (kN_X3_turnAt l t1 t2 D cy ad Xr S_42 y3 _ h15 rfl) (cwV 1 hts gL_isWorthSo_X3_turnAt rfl rfl rfl (by decide +kernel) ⟨(Nat.le_of_ble_eq_true rfl), (Nat.le_of_ble_eq_true rfl)⟩) rfl rfl rfl hl.1 rfl (Nat.le_of_ble_eq_true rfl) dL_isWorthSo_48 ⟨(Nat.le_of_ble_eq_true rfl), (Nat.le_of_ble_eq_true rfl)⟩ (st2 := [.int v16]) (pc2 := 51) rfl rfl (fun H locs T => ?_)
        refine lv_istore (lv' := [(4, .int v16), (0, .ref (ad 0)), (2, .int y2), (3, .int y3)]) hx hb dL_isWorthSo_51 hl (by decide) rfl (fun ls hl => ?_)
        refine lv_aload_n hx hb dL_isWorthSo_53 rfl (lv_at hl 1 rfl) ?_
        refine lv_iload hx hb dL_isWorthSo_54 (lv_at hl 0 rfl) ?_
        obtain ⟨v19, S20, h18, hf⟩ := bndnS_inv hf
        refine cgs_V (q0 := 15) (ci := 3) (As := [.int v16]) (rest := []) X hX T (kN_X3_play l t1 t2 D cy ad Xr S17 v16 _ h18 rfl) (cwV 1 hts gL_isWorthSo_X3_play rfl rfl rfl (by decide +kernel) ⟨(Nat.le_of_ble_eq_true rfl), (Nat.le_of_ble_eq_true rfl)⟩) rfl rfl rfl hl.1 rfl (Nat.le_of_ble_eq_true rfl) dL_isWorthSo_56 ⟨(Nat.le_of_ble_eq_true rfl), (Nat.le_of_ble_eq_true rfl)⟩ (st2 := [.int v19]) (pc2 := 59) rfl rfl (fun H locs T => ?_)
        refine lv_if_lt (tgt := 67) hx hb dL_isWorthSo_59 (by decide) (fun hc => ?_) (fun hc => ?_)
        · replace hf := ifp hc hf
          refine lv_iload_n hx hb dL_isWorthSo_67 rfl (lv_at hl 2 rfl) ?_
          refine W.widen (k := 1) (n := 6) (Nat.le_of_ble_eq_true rfl) (Nat.le_of_ble_eq_true rfl) ?_
          exact j_68 y3 y2 S20 _ _ _ hf T (lv_sub hl [1, 3] rfl)
        · replace hf := ifn hc hf
          refine lv_iload hx hb dL_isWorthSo_62 (lv_at hl 0 rfl) ?_
          refine lv_goto (tgt := 68) hx hb dL_isWorthSo_64 (by decide) ?_
          refine W.widen (k := 1) (n := 6) (Nat.le_of_ble_eq_true rfl) (Nat.le_of_ble_eq_true rfl) ?_
          exact j_68 y3 v16 S20 _ _ _ hf T (lv_sub hl [1, 3] rfl)
  refine lv_aload_n hx hb dL_isWorthSo_0 rfl (lv_at hl 0 rfl) ?_
  obtain ⟨v22, h21, hf⟩ := bnd_inv hf
  refine cl_SW (As := [.ref (ad 0)]) (rest := []) X hX hN T (kL_turnCount l hfl t1 t2 D cy ad Xr S v22 h21) (vx_cwSW 1 hts gL_isWorthSo_L_turnCount rfl rfl rfl (by decide +kernel) ⟨(Nat.le_of_ble_eq_true rfl), (Nat.le_of_ble_eq_true rfl)⟩) rfl hl.1 rfl (Nat.le_of_ble_eq_true rfl) dL_isWorthSo_1 ⟨(Nat.le_of_ble_eq_true rfl), (Nat.le_of_ble_eq_true rfl)⟩ (st2 := [.int v22.1]) (pc2 := 4) (c2 := 1) (s2 := 6) rfl rfl rfl rfl (fun H locs T => ?_)
  refine lv_istore_n (lv' := [(1, .int v22.1), (0, .ref (ad 0))]) hx hb dL_isWorthSo_4 rfl hl (by decide) rfl (fun ls hl => ?_)
  refine lv_iload_n hx hb dL_isWorthSo_5 rfl (lv_at hl 0 rfl) ?_
  refine lv_iconst (v := 1) hx hb dL_isWorthSo_6 (by decide) ?_
  refine lv_icmp_ge (tgt := 36) hx hb dL_isWorthSo_7 (by decide) (fun hc => ?_) (fun hc => ?_)
  · replace hf := ifp hc hf
    refine lv_iconst (v := (-1)) hx hb dL_isWorthSo_36 (by decide) ?_
    refine lv_istore_n (lv' := [(2, .int (-1)), (1, .int v22.1), (0, .ref (ad 0))]) hx hb dL_isWorthSo_37 rfl hl (by decide) rfl (fun ls hl => ?_)
    refine lv_iload_n hx hb dL_isWorthSo_38 rfl (lv_at hl 1 rfl) ?_
    refine lv_iconst (v := 1) hx hb dL_isWorthSo_39 (by decide) ?_
    refine lv_isub hx hb dL_isWorthSo_40 ?_
    refine lv_topi (fun v23 e_v23 => ?_)
    replace hf := nm_use hf e_v23
    refine lv_istore_n (lv' := [(3, .int v23), (2, .int (-1)), (1, .int v22.1), (0, .ref (ad 0))]) hx hb dL_isWorthSo_41 rfl hl (by decide) rfl (fun ls hl => ?_)
    refine W.widen (k := 1) (n := 6) (Nat.le_of_ble_eq_true rfl) (Nat.le_of_ble_eq_true rfl) ?_
    exact l_42 FUEL (-1) v23 v22.2 _ _ _ hf T (lv_sub hl [3, 1, 0] rfl)
  · replace hf := ifn hc hf
    refine lv_aload_n hx hb dL_isWorthSo_10 rfl (lv_at hl 1 rfl) ?_
    refine lv_iconst (v := 1) hx hb dL_isWorthSo_11 (by decide) ?_
    obtain ⟨v25, h24, hf⟩ := bnd_inv hf
    refine cl_SW (As := [.ref (ad 0), .int 1]) (rest := []) X hX hN T (kL_worth l hfl t1 t2 D cy ad Xr v22.2 1 v25 h24) (vx_cwSW 2 hts gL_isWorthSo_L_worth rfl rfl rfl (by decide +kernel) ⟨(Nat.le_of_ble_eq_true rfl), (Nat.le_of_ble_eq_true rfl)⟩) rfl hl.1 rfl (Nat.le_of_ble_eq_true rfl) dL_isWorthSo_12 ⟨(Nat.le_of_ble_eq_true rfl), (Nat.le_of_ble_eq_true rfl)⟩ (st2 := [.int v25.1]) (pc2 := 15) (c2 := 3) (s2 := 18) rfl rfl rfl rfl (fun H locs T => ?_)
    refine lv_ldc (v := (-99998)) hx hb hown (hts _ (List.mem_of_getElem? (i := 1) rfl)) dL_isWorthSo_15 ?_
    refine lv_icmp_ne (tgt := 34) hx hb dL_isWorthSo_17 (by decide) (fun hc => ?_) (fun hc => ?_)
    · replace hf := ifn hc hf
      refine lv_iconst (v := 0) hx hb dL_isWorthSo_34 (by decide) ?_
      exact rl_zw hf X T hr (Or.inl rfl) dL_isWorthSo_35 (Nat.le_of_ble_eq_true rfl) (Nat.le_of_ble_eq_true rfl)
    · replace hf := ifp hc hf
      refine lv_aload_n hx hb dL_isWorthSo_20 rfl (lv_at hl 1 rfl) ?_
      refine lv_iconst (v := 4) hx hb dL_isWorthSo_21 (by decide) ?_
      obtain ⟨v27, h26, hf⟩ := bnd_inv hf
      refine cl_SW (As := [.ref (ad 0), .int 4]) (rest := []) X hX hN T (kL_worth l hfl t1 t2 D cy ad Xr v25.2 4 v27 h26) (vx_cwSW 2 hts gL_isWorthSo_L_worth rfl rfl rfl (by decide +kernel) ⟨(Nat.le_of_ble_eq_true rfl), (Nat.le_of_ble_eq_true rfl)⟩) rfl hl.1 rfl (Nat.le_of_ble_eq_true rfl) dL_isWorthSo_22 ⟨(Nat.le_of_ble_eq_true rfl), (Nat.le_of_ble_eq_true rfl)⟩ (st2 := [.int v27.1]) (pc2 := 25) (c2 := 5) (s2 := 30) rfl rfl rfl rfl (fun H locs T => ?_)
      refine lv_ldc (v := (-99999)) hx hb hown (hts _ (List.mem_of_getElem? (i := 2) rfl)) dL_isWorthSo_25 ?_
      refine lv_icmp_ne (tgt := 34) hx hb dL_isWorthSo_27 (by decide) (fun hc => ?_) (fun hc => ?_)
      · replace hf := ifn hc hf
        refine lv_iconst (v := 0) hx hb dL_isWorthSo_34 (by decide) ?_
        exact rl_zw hf X T hr (Or.inl rfl) dL_isWorthSo_35 (Nat.le_of_ble_eq_true rfl) (Nat.le_of_ble_eq_true rfl)
      · replace hf := ifp hc hf
        refine lv_iconst (v := 1) hx hb dL_isWorthSo_30 (by decide) ?_
        refine lv_goto (tgt := 35) hx hb dL_isWorthSo_31 (by decide) ?_
        exact rl_zw hf X T hr (Or.inr rfl) dL_isWorthSo_35 (Nat.le_of_ble_eq_true rfl) (Nat.le_of_ble_eq_true rfl)

noncomputable def fL_areAlike_j124 (y2 : Int32) (y4 : Int32) (z0 : Int32) (S_124 : SC × SC) : Option ((Int32 × Int32 × (SC × SC)) ⊕ (Int32 × (SC × SC))) :=
  nm (y4 + 1 : Int32) fun v1 =>
  some (.inl (z0, v1, S_124))
noncomputable def fL_areAlike_j123 (y2 : Int32) (y4 : Int32) (S_123 : SC × SC) : Option ((Int32 × Int32 × (SC × SC)) ⊕ (Int32 × (SC × SC))) :=
  fL_areAlike_j124 y2 y4 0 S_123
noncomputable def fL_areAlike_b79 (y2 : Int32) : (Int32 × Int32 × (SC × SC)) → Option ((Int32 × Int32 × (SC × SC)) ⊕ (Int32 × (SC × SC))) :=
  fun st => match st with
    | (y3, y4, S_79) =>
      if y2 ≤ y4 then
        ex <|
        cp (y3 = 0 ∨ y3 = 1) <|
        some (y3, S_79)
      else
        if y3 = 0 then
          ex <|
          cp (y3 = 0 ∨ y3 = 1) <|
          some (y3, S_79)
        else
          bndn (fX3_height S_79.1 y4) fun v3 =>
          bndn (fX3_height S_79.2 y4) fun v5 =>
          if v3 = v5 then
            bndn (fX3_builderAt S_79.1 y4) fun v7 =>
            bndn (fX3_builderAt S_79.2 y4) fun v9 =>
            if v7 = v9 then
              fL_areAlike_j124 y2 y4 1 S_79
            else
              fL_areAlike_j123 y2 y4 S_79
          else
            fL_areAlike_j123 y2 y4 S_79
noncomputable def fL_areAlike_j75 (y2 : Int32) (z0 : Int32) (S_75 : SC × SC) : Option (Int32 × (SC × SC)) :=
  loop (fL_areAlike_b79 y2) FUEL (z0, 0, S_75)
noncomputable def fL_areAlike_j74 (y2 : Int32) (S_74 : SC × SC) : Option (Int32 × (SC × SC)) :=
  fL_areAlike_j75 y2 0 S_74
noncomputable def fL_areAlike (S : SC × SC) (x2 : Int32) : Option (Int32 × (SC × SC)) :=
  bnd (fX3_onTurn S.1) fun v11 =>
  bnd (fX3_onTurn S.2) fun v13 =>
  if v11 = v13 then
    bnd (fX3_winner S.1) fun v15 =>
    bnd (fX3_winner S.2) fun v17 =>
    if v15 = v17 then
      bnd (fX3_played S.1) fun v19 =>
      bnd (fX3_played S.2) fun v21 =>
      if v19 = v21 then
        bnd (fL_turnCount S.1) fun v23 =>
        bnd (fL_turnCount (v23.2, S.2).2) fun v25 =>
        if v23.1 = v25.1 then
          bndn (fX3_reached ((v23.2, S.2).1, v25.2).1 0) fun v27 =>
          bndn (fX3_reached ((v23.2, S.2).1, v25.2).2 0) fun v29 =>
          if v27 = v29 then
            bndn (fX3_reached ((v23.2, S.2).1, v25.2).1 1) fun v31 =>
            bndn (fX3_reached ((v23.2, S.2).1, v25.2).2 1) fun v33 =>
            if v31 = v33 then
              fL_areAlike_j75 x2 1 ((v23.2, S.2).1, v25.2)
            else
              fL_areAlike_j74 x2 ((v23.2, S.2).1, v25.2)
          else
            fL_areAlike_j74 x2 ((v23.2, S.2).1, v25.2)
        else
          fL_areAlike_j74 x2 ((v23.2, S.2).1, v25.2)
      else
        fL_areAlike_j74 x2 S
    else
      fL_areAlike_j74 x2 S
  else
    fL_areAlike_j74 x2 S
set_option maxHeartbeats 4000000 in
set_option maxRecDepth 100000 in
theorem kL_areAlike (l : Launch) (hfl : l.stackTraces = false) (t1 t2 : Nat) (D : va_G) (cy : Nat → ClassId) (ad : Nat → Nat) (ap : Nat → Nat) (S : SC × SC) (x2 : Int32) (r : (Int32 × (SC × SC))) (hf : fL_areAlike S x2 = some r) : CL l t1 t2 D cy (w2 cy ad ap) yL_areAlike wsL_areAlike ({ frames := 9, cells := 2, slots := 12, locals := 171 } : Room) [.ref (ad 0), .ref (ap 0), .int x2] S (some (.int r.1)) r.2 := by
  refine CL.of (cc := cL_areAlike) (maxL := 5) (ret := (some .boolean)) (by decide +kernel) rfl (Nat.le_of_ble_eq_true rfl) ?_
  intro p e s m below meth c A ls X hr T hl hX hN
  obtain ⟨hx, hb, hml, hown, hts, hlk, hK, hA, hwA⟩ := id X
  have hl : lv_has ls 5 [(0, .ref (ad 0)), (1, .ref (ap 0)), (2, .int x2)] := hl
  unfold fL_areAlike at hf
  have l_79 : ∀ (y2 : Int32) (n : Nat) (y3 : Int32) (y4 : Int32) (S_79 : SC × SC) (H : Heap) (locs : List Loc) (ls : Array Slot), loop (fL_areAlike_b79 y2) n (y3, y4, S_79) = some r → ST D (w2 cy ad ap) A s S_79 H locs → lv_has ls 5 [(0, .ref (ad 0)), (1, .ref (ap 0)), (2, .int y2), (3, .int y3), (4, .int y4)] → W p l e ({ frames := 9, cells := 2, slots := 12, locals := 171 } : Room) s m [.ref (ad 0), .ref (ap 0), .int x2].toArray below meth c H locs 2 12 (MQ below (QG D (w2 cy ad ap) A (some (.int r.1)) r.2) [.ref (ad 0), .ref (ap 0), .int x2].toArray s 2 12 A) (F0 m 79 ls []) := by
    intro y2 n
    induction n with
    | zero => intro _ _ _ _ _ _ hf; cases hf
    | succ n ih_79 =>
      intro y3 y4 S_79 H locs ls hf T hl
      obtain ⟨z_79, hf, hin_79, hex_79⟩ := loop_inv hf
      unfold fL_areAlike_b79 at hf
      dsimp only at hf
      have j_124 : ∀ (y4 : Int32) (z0 : Int32) (S_124 : SC × SC) (H : Heap) (locs : List Loc) (ls : Array Slot), fL_areAlike_j124 y2 y4 z0 S_124 = some z_79 → ST D (w2 cy ad ap) A s S_124 H locs → lv_has ls 5 [(0, .ref (ad 0)), (1, .ref (ap 0)), (2, .int y2), (4, .int y4)] → W p l e ({ frames := 9, cells := 2, slots := 12, locals := 171 } : Room) s m [.ref (ad 0), .ref (ap 0), .int x2].toArray below meth c H locs 2 12 (MQ below (QG D (w2 cy ad ap) A (some (.int r.1)) r.2) [.ref (ad 0), .ref (ap 0), .int x2].toArray s 2 12 A) (F0 m 124 ls [.int z0]) := by
        intro y4 z0 S_124 H locs ls hf T hl
        unfold fL_areAlike_j124 at hf
        refine lv_istore_n (lv' := [(3, .int z0), (0, .ref (ad 0)), (1, .ref (ap 0)), (2, .int y2), (4, .int y4)]) hx hb dL_areAlike_124 rfl hl (by decide) rfl (fun ls hl => ?_)
        obtain ⟨v1, e_v1, hf⟩ := nm_inv hf
        refine lv_iinc (v := v1) (lv' := [(4, .int v1), (3, .int z0), (0, .ref (ad 0)), (1, .ref (ap 0)), (2, .int y2)]) hx hb dL_areAlike_125 hl (k := 4) rfl (by rw [e_v1]; rfl) (by decide) rfl (fun ls hl => ?_)
        refine lv_goto (tgt := 79) hx hb dL_areAlike_128 (by decide) ?_
        refine W.widen (k := 2) (n := 12) (Nat.le_of_ble_eq_true rfl) (Nat.le_of_ble_eq_true rfl) ?_
        exact ih_79 z0 v1 S_124 _ _ _ (hin_79 _ (Option.some.inj hf).symm) T (lv_sub hl [2, 3, 4, 1, 0] rfl)
      have j_123 : ∀ (y4 : Int32) (S_123 : SC × SC) (H : Heap) (locs : List Loc) (ls : Array Slot), fL_areAlike_j123 y2 y4 S_123 = some z_79 → ST D (w2 cy ad ap) A s S_123 H locs → lv_has ls 5 [(0, .ref (ad 0)), (1, .ref (ap 0)), (2, .int y2), (4, .int y4)] → W p l e ({ frames := 9, cells := 2, slots := 12, locals := 171 } : Room) s m [.ref (ad 0), .ref (ap 0), .int x2].toArray below meth c H locs 2 12 (MQ below (QG D (w2 cy ad ap) A (some (.int r.1)) r.2) [.ref (ad 0), .ref (ap 0), .int x2].toArray s 2 12 A) (F0 m 123 ls []) := by
        intro y4 S_123 H locs ls hf T hl
        unfold fL_areAlike_j123 at hf
        refine lv_iconst (v := 0) hx hb dL_areAlike_123 (by decide) ?_
        refine W.widen (k := 2) (n := 12) (Nat.le_of_ble_eq_true rfl) (Nat.le_of_ble_eq_true rfl) ?_
        exact j_124 y4 0 S_123 _ _ _ hf T (lv_sub hl [0, 1, 2, 3] rfl)
      refine lv_iload hx hb dL_areAlike_79 (lv_at hl 4 rfl) ?_
      refine lv_iload_n hx hb dL_areAlike_81 rfl (lv_at hl 2 rfl) ?_
      refine lv_icmp_ge (tgt := 131) hx hb dL_areAlike_82 (by decide) (fun hc => ?_) (fun hc => ?_)
      · replace hf := ifp hc hf
        obtain ⟨r0, hf, hz⟩ := ex_inv hf
        rw [hex_79 r0 hz] at hf
        refine lv_iload_n hx hb dL_areAlike_131 rfl (lv_at hl 3 rfl) ?_
        obtain ⟨hz1, hf⟩ := cp_inv hf
        exact rl_zw hf X T hr hz1 dL_areAlike_132 (Nat.le_of_ble_eq_true rfl) (Nat.le_of_ble_eq_true rfl)
      · replace hf := ifn hc hf
        refine lv_iload_n hx hb dL_areAlike_85 rfl (lv_at hl 3 rfl) ?_
        refine lv_if_eq (tgt := 131) hx hb dL_areAlike_86 (by decide) (fun hc => ?_) (fun hc => ?_)
        · replace hf := ifp hc hf
          obtain ⟨r0, hf, hz⟩ := ex_inv hf
          rw [hex_79 r0 hz] at hf
          refine lv_iload_n hx hb dL_areAlike_131 rfl (lv_at hl 3 rfl) ?_
          obtain ⟨hz1, hf⟩ := cp_inv hf
          exact rl_zw hf X T hr hz1 dL_areAlike_132 (Nat.le_of_ble_eq_true rfl) (Nat.le_of_ble_eq_true rfl)
        · replace hf := ifn hc hf
          refine lv_aload_n hx hb dL_areAlike_89 rfl (lv_at hl 0 rfl) ?_
          refine lv_iload hx hb dL_areAlike_90 (lv_at hl 4 rfl) ?_
          obtain ⟨v3, h2, hf⟩ := bndn_inv hf
          have T1 := sub_T (w' := wC cy ad (wC cy ap [] S_79.2)) (S1 := S_79.1) T (List.Perm.refl _)
          refine cgs_V (q0 := 15) (ci := 3) (As := [.int y4]) (rest := []) (sub_X X (wC_fst cy ad (wC cy ap [] S_79.2)) T1) hX T1 (kN_X3_height l t1 t2 D cy ad (wC cy ap [] S_79.2) S_79.1 y4 _ h2 rfl) (cwV 1 hts gL_areAlike_X3_height rfl rfl rfl (by decide +kernel) ⟨(Nat.le_of_ble_eq_true rfl), (Nat.le_of_ble_eq_true rfl)⟩) rfl rfl rfl hl.1 rfl (Nat.le_of_ble_eq_true rfl) dL_areAlike_92 ⟨(Nat.le_of_ble_eq_true rfl), (Nat.le_of_ble_eq_true rfl)⟩ (st2 := [.int v3]) (pc2 := 95) rfl rfl (fun H locs T1 => ?_)
          have T : ST D (w2 cy ad ap) A s (S_79.1, S_79.2) H locs := sub_T T1 (List.Perm.refl _)
          refine lv_aload_n hx hb dL_areAlike_95 rfl (lv_at hl 1 rfl) ?_
          refine lv_iload hx hb dL_areAlike_96 (lv_at hl 4 rfl) ?_
          obtain ⟨v5, h4, hf⟩ := bndn_inv hf
          have T1 := sub_T (w' := wC cy ap (wC cy ad [] S_79.1)) (S1 := S_79.2) T (w2_y cy ad ap S_79)
          refine cgs_V (q0 := 15) (ci := 3) (As := [.int y4]) (rest := [.int v3]) (sub_X X (wC_fst cy ap (wC cy ad [] S_79.1)) T1) hX T1 (kN_X3_height l t1 t2 D cy ap (wC cy ad [] S_79.1) S_79.2 y4 _ h4 rfl) (cwV 1 hts gL_areAlike_X3_height rfl rfl rfl (by decide +kernel) ⟨(Nat.le_of_ble_eq_true rfl), (Nat.le_of_ble_eq_true rfl)⟩) rfl rfl rfl hl.1 rfl (Nat.le_of_ble_eq_true rfl) dL_areAlike_98 ⟨(Nat.le_of_ble_eq_true rfl), (Nat.le_of_ble_eq_true rfl)⟩ (st2 := [.int v5, .int v3]) (pc2 := 101) rfl rfl (fun H locs T1 => ?_)
          have T : ST D (w2 cy ad ap) A s (S_79.1, S_79.2) H locs := sub_T T1 ((w2_y cy ad ap (S_79.1, S_79.2)).symm)
          refine lv_icmp_ne (tgt := 123) hx hb dL_areAlike_101 (by decide) (fun hc => ?_) (fun hc => ?_)
          · replace hf := ifn hc hf
            refine W.widen (k := 2) (n := 12) (Nat.le_of_ble_eq_true rfl) (Nat.le_of_ble_eq_true rfl) ?_
            exact j_123 y4 S_79 _ _ _ hf T (lv_sub hl [0, 1, 2, 4] rfl)
          · replace hf := ifp hc hf
            refine lv_aload_n hx hb dL_areAlike_104 rfl (lv_at hl 0 rfl) ?_
            refine lv_iload hx hb dL_areAlike_105 (lv_at hl 4 rfl) ?_
            obtain ⟨v7, h6, hf⟩ := bndn_inv hf
            have T1 := sub_T (w' := wC cy ad (wC cy ap [] S_79.2)) (S1 := S_79.1) T (List.Perm.refl _)
            refine cgs_V (q0 := 15) (ci := 3) (As := [.int y4]) (rest := []) (sub_X X (wC_fst cy ad (wC cy ap [] S_79.2)) T1) hX T1 (kN_X3_builderAt l t1 t2 D cy ad (wC cy ap [] S_79.2) S_79.1 y4 _ h6 rfl) (cwV 1 hts gL_areAlike_X3_builderAt rfl rfl rfl (by decide +kernel) ⟨(Nat.le_of_ble_eq_true rfl), (Nat.le_of_ble_eq_true rfl)⟩) rfl rfl rfl hl.1 rfl (Nat.le_of_ble_eq_true rfl) dL_areAlike_107 ⟨(Nat.le_of_ble_eq_true rfl), (Nat.le_of_ble_eq_true rfl)⟩ (st2 := [.int v7]) (pc2 := 110) rfl rfl (fun H locs T1 => ?_)
            have T : ST D (w2 cy ad ap) A s (S_79.1, S_79.2) H locs := sub_T T1 (List.Perm.refl _)
            refine lv_aload_n hx hb dL_areAlike_110 rfl (lv_at hl 1 rfl) ?_
            refine lv_iload hx hb dL_areAlike_111 (lv_at hl 4 rfl) ?_
            obtain ⟨v9, h8, hf⟩ := bndn_inv hf
            have T1 := sub_T (w' := wC cy ap (wC cy ad [] S_79.1)) (S1 := S_79.2) T (w2_y cy ad ap S_79)
            refine cgs_V (q0 := 15) (ci := 3) (As := [.int y4]) (rest := [.int v7]) (sub_X X (wC_fst cy ap (wC cy ad [] S_79.1)) T1) hX T1 (kN_X3_builderAt l t1 t2 D cy ap (wC cy ad [] S_79.1) S_79.2 y4 _ h8 rfl) (cwV 1 hts gL_areAlike_X3_builderAt rfl rfl rfl (by decide +kernel) ⟨(Nat.le_of_ble_eq_true rfl), (Nat.le_of_ble_eq_true rfl)⟩) rfl rfl rfl hl.1 rfl (Nat.le_of_ble_eq_true rfl) dL_areAlike_113 ⟨(Nat.le_of_ble_eq_true rfl), (Nat.le_of_ble_eq_true rfl)⟩ (st2 := [.int v9, .int v7]) (pc2 := 116) rfl rfl (fun H locs T1 => ?_)
            have T : ST D (w2 cy ad ap) A s (S_79.1, S_79.2) H locs := sub_T T1 ((w2_y cy ad ap (S_79.1, S_79.2)).symm)
            refine lv_icmp_ne (tgt := 123) hx hb dL_areAlike_116 (by decide) (fun hc => ?_) (fun hc => ?_)
            · replace hf := ifn hc hf
              refine W.widen (k := 2) (n := 12) (Nat.le_of_ble_eq_true rfl) (Nat.le_of_ble_eq_true rfl) ?_
              exact j_123 y4 S_79 _ _ _ hf T (lv_sub hl [0, 1, 2, 4] rfl)
            · replace hf := ifp hc hf
              refine lv_iconst (v := 1) hx hb dL_areAlike_119 (by decide) ?_
              refine lv_goto (tgt := 124) hx hb dL_areAlike_120 (by decide) ?_
              refine W.widen (k := 2) (n := 12) (Nat.le_of_ble_eq_true rfl) (Nat.le_of_ble_eq_true rfl) ?_
              exact j_124 y4 1 S_79 _ _ _ hf T (lv_sub hl [0, 1, 2, 4] rfl)
  have j_75 : ∀ (y2 : Int32) (z0 : Int32) (S_75 : SC × SC) (H : Heap) (locs : List Loc) (ls : Array Slot), fL_areAlike_j75 y2 z0 S_75 = some r → ST D (w2 cy ad ap) A s S_75 H locs → lv_has ls 5 [(0, .ref (ad 0)), (1, .ref (ap 0)), (2, .int y2)] → W p l e ({ frames := 9, cells := 2, slots := 12, locals := 171 } : Room) s m [.ref (ad 0), .ref (ap 0), .int x2].toArray below meth c H locs 2 12 (MQ below (QG D (w2 cy ad ap) A (some (.int r.1)) r.2) [.ref (ad 0), .ref (ap 0), .int x2].toArray s 2 12 A) (F0 m 75 ls [.int z0]) := by
    intro y2 z0 S_75 H locs ls hf T hl
    unfold fL_areAlike_j75 at hf
    refine lv_istore_n (lv' := [(3, .int z0), (0, .ref (ad 0)), (1, .ref (ap 0)), (2, .int y2)]) hx hb dL_areAlike_75 rfl hl (by decide) rfl (fun ls hl => ?_)
    refine lv_iconst (v := 0) hx hb dL_areAlike_76 (by decide) ?_
    refine lv_istore (lv' := [(4, .int 0), (3, .int z0), (0, .ref (ad 0)), (1, .ref (ap 0)), (2, .int y2)]) hx hb dL_areAlike_77 hl (by decide) rfl (fun ls hl => ?_)
    refine W.widen (k := 2) (n := 12) (Nat.le_of_ble_eq_true rfl) (Nat.le_of_ble_eq_true rfl) ?_
    exact l_79 y2 FUEL z0 0 S_75 _ _ _ hf T (lv_sub hl [2, 3, 4, 1, 0] rfl)
  have j_74 : ∀ (y2 : Int32) (S_74 : SC × SC) (H : Heap) (locs : List Loc) (ls : Array Slot), fL_areAlike_j74 y2 S_74 = some r → ST D (w2 cy ad ap) A s S_74 H locs → lv_has ls 5 [(0, .ref (ad 0)), (1, .ref (ap 0)), (2, .int y2)] → W p l e ({ frames := 9, cells := 2, slots := 12, locals := 171 } : Room) s m [.ref (ad 0), .ref (ap 0), .int x2].toArray below meth c H locs 2 12 (MQ below (QG D (w2 cy ad ap) A (some (.int r.1)) r.2) [.ref (ad 0), .ref (ap 0), .int x2].toArray s 2 12 A) (F0 m 74 ls []) := by
    intro y2 S_74 H locs ls hf T hl
    unfold fL_areAlike_j74 at hf
    refine lv_iconst (v := 0) hx hb dL_areAlike_74 (by decide) ?_
    refine W.widen (k := 2) (n := 12) (Nat.le_of_ble_eq_true rfl) (Nat.le_of_ble_eq_true rfl) ?_
    exact j_75 y2 0 S_74 _ _ _ hf T (lv_sub hl [0, 1, 2] rfl)
  refine lv_aload_n hx hb dL_areAlike_0 rfl (lv_at hl 0 rfl) ?_
  obtain ⟨v11, h10, hf⟩ := bnd_inv hf
  have T1 := sub_T (w' := wC cy ad (wC cy ap [] S.2)) (S1 := S.1) T (List.Perm.refl _)
  refine cg_V (q0 := 15) (ci := 3) (As := []) (rest := []) (sub_X X (wC_fst cy ad (wC cy ap [] S.2)) T1) T1 (kX3_onTurn l D cy ad (wC cy ap [] S.2) S.1 v11 h10) (cwV 0 hts gL_areAlike_X3_onTurn rfl rfl rfl (by decide +kernel) ⟨(Nat.le_of_ble_eq_true rfl), (Nat.le_of_ble_eq_true rfl)⟩) rfl rfl rfl hl.1 rfl (Nat.le_of_ble_eq_true rfl) dL_areAlike_1 ⟨(Nat.le_of_ble_eq_true rfl), (Nat.le_of_ble_eq_true rfl)⟩ (st2 := [.int v11]) (pc2 := 4) rfl rfl (fun H locs T1 => ?_)
  have T : ST D (w2 cy ad ap) A s (S.1, S.2) H locs := sub_T T1 (List.Perm.refl _)
  refine lv_aload_n hx hb dL_areAlike_4 rfl (lv_at hl 1 rfl) ?_
  obtain ⟨v13, h12, hf⟩ := bnd_inv hf
  have T1 := sub_T (w' := wC cy ap (wC cy ad [] S.1)) (S1 := S.2) T (w2_y cy ad ap S)
  refine cg_V (q0 := 15) (ci := 3) (As := []) (rest := [.int v11]) (sub_X X (wC_fst cy ap (wC cy ad [] S.1)) T1) T1 (kX3_onTurn l D cy ap (wC cy ad [] S.1) S.2 v13 h12) (cwV 0 hts gL_areAlike_X3_onTurn rfl rfl rfl (by decide +kernel) ⟨(Nat.le_of_ble_eq_true rfl), (Nat.le_of_ble_eq_true rfl)⟩) rfl rfl rfl hl.1 rfl (Nat.le_of_ble_eq_true rfl) dL_areAlike_5 ⟨(Nat.le_of_ble_eq_true rfl), (Nat.le_of_ble_eq_true rfl)⟩ (st2 := [.int v13, .int v11]) (pc2 := 8) rfl rfl (fun H locs T1 => ?_)
  have T : ST D (w2 cy ad ap) A s (S.1, S.2) H locs := sub_T T1 ((w2_y cy ad ap (S.1, S.2)).symm)
  refine lv_icmp_ne (tgt := 74) hx hb dL_areAlike_8 (by decide) (fun hc => ?_) (fun hc => ?_)
  · replace hf := ifn hc hf
    refine W.widen (k := 2) (n := 12) (Nat.le_of_ble_eq_true rfl) (Nat.le_of_ble_eq_true rfl) ?_
    exact j_74 x2 S _ _ _ hf T (lv_sub hl [0, 1, 2] rfl)
  · replace hf := ifp hc hf
    refine lv_aload_n hx hb dL_areAlike_11 rfl (lv_at hl 0 rfl) ?_
    obtain ⟨v15, h14, hf⟩ := bnd_inv hf
    have T1 := sub_T (w' := wC cy ad (wC cy ap [] S.2)) (S1 := S.1) T (List.Perm.refl _)
    refine cg_V (q0 := 15) (ci := 3) (As := []) (rest := []) (sub_X X (wC_fst cy ad (wC cy ap [] S.2)) T1) T1 (kX3_winner l D cy ad (wC cy ap [] S.2) S.1 v15 h14) (cwV 0 hts gL_areAlike_X3_winner rfl rfl rfl (by decide +kernel) ⟨(Nat.le_of_ble_eq_true rfl), (Nat.le_of_ble_eq_true rfl)⟩) rfl rfl rfl hl.1 rfl (Nat.le_of_ble_eq_true rfl) dL_areAlike_12 ⟨(Nat.le_of_ble_eq_true rfl), (Nat.le_of_ble_eq_true rfl)⟩ (st2 := [.int v15]) (pc2 := 15) rfl rfl (fun H locs T1 => ?_)
    have T : ST D (w2 cy ad ap) A s (S.1, S.2) H locs := sub_T T1 (List.Perm.refl _)
    refine lv_aload_n hx hb dL_areAlike_15 rfl (lv_at hl 1 rfl) ?_
    obtain ⟨v17, h16, hf⟩ := bnd_inv hf
    have T1 := sub_T (w' := wC cy ap (wC cy ad [] S.1)) (S1 := S.2) T (w2_y cy ad ap S)
    refine cg_V (q0 := 15) (ci := 3) (As := []) (rest := [.int v15]) (sub_X X (wC_fst cy ap (wC cy ad [] S.1)) T1) T1 (kX3_winner l D cy ap (wC cy ad [] S.1) S.2 v17 h16) (cwV 0 hts gL_areAlike_X3_winner rfl rfl rfl (by decide +kernel) ⟨(Nat.le_of_ble_eq_true rfl), (Nat.le_of_ble_eq_true rfl)⟩) rfl rfl rfl hl.1 rfl (Nat.le_of_ble_eq_true rfl) dL_areAlike_16 ⟨(Nat.le_of_ble_eq_true rfl), (Nat.le_of_ble_eq_true rfl)⟩ (st2 := [.int v17, .int v15]) (pc2 := 19) rfl rfl (fun H locs T1 => ?_)
    have T : ST D (w2 cy ad ap) A s (S.1, S.2) H locs := sub_T T1 ((w2_y cy ad ap (S.1, S.2)).symm)
    refine lv_icmp_ne (tgt := 74) hx hb dL_areAlike_19 (by decide) (fun hc => ?_) (fun hc => ?_)
    · replace hf := ifn hc hf
      refine W.widen (k := 2) (n := 12) (Nat.le_of_ble_eq_true rfl) (Nat.le_of_ble_eq_true rfl) ?_
      exact j_74 x2 S _ _ _ hf T (lv_sub hl [0, 1, 2] rfl)
    · replace hf := ifp hc hf
      refine lv_aload_n hx hb dL_areAlike_22 rfl (lv_at hl 0 rfl) ?_
      obtain ⟨v19, h18, hf⟩ := bnd_inv hf
      have T1 := sub_T (w' := wC cy ad (wC cy ap [] S.2)) (S1 := S.1) T (List.Perm.refl _)
      refine cg_V (q0 := 15) (ci := 3) (As := []) (rest := []) (sub_X X (wC_fst cy ad (wC cy ap [] S.2)) T1) T1 (kX3_played l D cy ad (wC cy ap [] S.2) S.1 v19 h18) (cwV 0 hts gL_areAlike_X3_played rfl rfl rfl (by decide +kernel) ⟨(Nat.le_of_ble_eq_true rfl), (Nat.le_of_ble_eq_true rfl)⟩) rfl rfl rfl hl.1 rfl (Nat.le_of_ble_eq_true rfl) dL_areAlike_23 ⟨(Nat.le_of_ble_eq_true rfl), (Nat.le_of_ble_eq_true rfl)⟩ (st2 := [.int v19]) (pc2 := 26) rfl rfl (fun H locs T1 => ?_)
      have T : ST D (w2 cy ad ap) A s (S.1, S.2) H locs := sub_T T1 (List.Perm.refl _)
      refine lv_aload_n hx hb dL_areAlike_26 rfl (lv_at hl 1 rfl) ?_
      obtain ⟨v21, h20, hf⟩ := bnd_inv hf
      have T1 := sub_T (w' := wC cy ap (wC cy ad [] S.1)) (S1 := S.2) T (w2_y cy ad ap S)
      refine cg_V (q0 := 15) (ci := 3) (As := []) (rest := [.int v19]) (sub_X X (wC_fst cy ap (wC cy ad [] S.1)) T1) T1 (kX3_played l D cy ap (wC cy ad [] S.1) S.2 v21 h20) (cwV 0 hts gL_areAlike_X3_played rfl rfl rfl (by decide +kernel) ⟨(Nat.le_of_ble_eq_true rfl), (Nat.le_of_ble_eq_true rfl)⟩) rfl rfl rfl hl.1 rfl (Nat.le_of_ble_eq_true rfl) dL_areAlike_27 ⟨(Nat.le_of_ble_eq_true rfl), (Nat.le_of_ble_eq_true rfl)⟩ (st2 := [.int v21, .int v19]) (pc2 := 30) rfl rfl (fun H locs T1 => ?_)
      have T : ST D (w2 cy ad ap) A s (S.1, S.2) H locs := sub_T T1 ((w2_y cy ad ap (S.1, S.2)).symm)
      refine lv_icmp_ne (tgt := 74) hx hb dL_areAlike_30 (by decide) (fun hc => ?_) (fun hc => ?_)
      · replace hf := ifn hc hf
        refine W.widen (k := 2) (n := 12) (Nat.le_of_ble_eq_true rfl) (Nat.le_of_ble_eq_true rfl) ?_
        exact j_74 x2 S _ _ _ hf T (lv_sub hl [0, 1, 2] rfl)
      · replace hf := ifp hc hf
        refine lv_aload_n hx hb dL_areAlike_33 rfl (lv_at hl 0 rfl) ?_
        obtain ⟨v23, h22, hf⟩ := bnd_inv hf
        have T1 := sub_T (w' := wC cy ad (wC cy ap [] S.2)) (S1 := S.1) T (List.Perm.refl _)
        refine cl_SW (As := [.ref (ad 0)]) (rest := []) (sub_X X (wC_fst cy ad (wC cy ap [] S.2)) T1) hX hN T1 (kL_turnCount l hfl t1 t2 D cy ad (wC cy ap [] S.2) S.1 v23 h22) (vx_cwSW 1 hts gL_areAlike_L_turnCount rfl rfl rfl (by decide +kernel) ⟨(Nat.le_of_ble_eq_true rfl), (Nat.le_of_ble_eq_true rfl)⟩) rfl hl.1 rfl (Nat.le_of_ble_eq_true rfl) dL_areAlike_34 ⟨(Nat.le_of_ble_eq_true rfl), (Nat.le_of_ble_eq_true rfl)⟩ (st2 := [.int v23.1]) (pc2 := 37) (c2 := 1) (s2 := 6) rfl rfl rfl rfl (fun H locs T1 => ?_)
        have T : ST D (w2 cy ad ap) A s (v23.2, S.2) H locs := sub_T T1 (List.Perm.refl _)
        refine lv_aload_n hx hb dL_areAlike_37 rfl (lv_at hl 1 rfl) ?_
        obtain ⟨v25, h24, hf⟩ := bnd_inv hf
        have T1 := sub_T (w' := wC cy ap (wC cy ad [] (v23.2, S.2).1)) (S1 := (v23.2, S.2).2) T (w2_y cy ad ap (v23.2, S.2))
        refine cl_SW (As := [.ref (ap 0)]) (rest := [.int v23.1]) (sub_X X (wC_fst cy ap (wC cy ad [] (v23.2, S.2).1)) T1) hX hN T1 (kL_turnCount l hfl t1 t2 D cy ap (wC cy ad [] (v23.2, S.2).1) (v23.2, S.2).2 v25 h24) (vx_cwSW 1 hts gL_areAlike_L_turnCount rfl rfl rfl (by decide +kernel) ⟨(Nat.le_of_ble_eq_true rfl), (Nat.le_of_ble_eq_true rfl)⟩) rfl hl.1 rfl (Nat.le_of_ble_eq_true rfl) dL_areAlike_38 ⟨(Nat.le_of_ble_eq_true rfl), (Nat.le_of_ble_eq_true rfl)⟩ (st2 := [.int v25.1, .int v23.1]) (pc2 := 41) (c2 := 2) (s2 := 12) rfl rfl rfl rfl (fun H locs T1 => ?_)
        have T : ST D (w2 cy ad ap) A s ((v23.2, S.2).1, v25.2) H locs := sub_T T1 ((w2_y cy ad ap ((v23.2, S.2).1, v25.2)).symm)
        refine lv_icmp_ne (tgt := 74) hx hb dL_areAlike_41 (by decide) (fun hc => ?_) (fun hc => ?_)
        · replace hf := ifn hc hf
          refine W.widen (k := 2) (n := 12) (Nat.le_of_ble_eq_true rfl) (Nat.le_of_ble_eq_true rfl) ?_
          exact j_74 x2 ((v23.2, S.2).1, v25.2) _ _ _ hf T (lv_sub hl [0, 1, 2] rfl)
        · replace hf := ifp hc hf
          refine lv_aload_n hx hb dL_areAlike_44 rfl (lv_at hl 0 rfl) ?_
          refine lv_iconst (v := 0) hx hb dL_areAlike_45 (by decide) ?_
          obtain ⟨v27, h26, hf⟩ := bndn_inv hf
          have T1 := sub_T (w' := wC cy ad (wC cy ap [] ((v23.2, S.2).1, v25.2).2)) (S1 := ((v23.2, S.2).1, v25.2).1) T (List.Perm.refl _)
          refine cgs_V (q0 := 15) (ci := 3) (As := [.int 0]) (rest := []) (sub_X X (wC_fst cy ad (wC cy ap [] ((v23.2, S.2).1, v25.2).2)) T1) hX T1 (kN_X3_reached l t1 t2 D cy ad (wC cy ap [] ((v23.2, S.2).1, v25.2).2) ((v23.2, S.2).1, v25.2).1 0 _ h26 rfl) (cwV 1 hts gL_areAlike_X3_reached rfl rfl rfl (by decide +kernel) ⟨(Nat.le_of_ble_eq_true rfl), (Nat.le_of_ble_eq_true rfl)⟩) rfl rfl rfl hl.1 rfl (Nat.le_of_ble_eq_true rfl) dL_areAlike_46 ⟨(Nat.le_of_ble_eq_true rfl), (Nat.le_of_ble_eq_true rfl)⟩ (st2 := [.int v27]) (pc2 := 49) rfl rfl (fun H locs T1 => ?_)
          have T : ST D (w2 cy ad ap) A s (((v23.2, S.2).1, v25.2).1, ((v23.2, S.2).1, v25.2).2) H locs := sub_T T1 (List.Perm.refl _)
          refine lv_aload_n hx hb dL_areAlike_49 rfl (lv_at hl 1 rfl) ?_
          refine lv_iconst (v := 0) hx hb dL_areAlike_50 (by decide) ?_
          obtain ⟨v29, h28, hf⟩ := bndn_inv hf
          have T1 := sub_T (w' := wC cy ap (wC cy ad [] ((v23.2, S.2).1, v25.2).1)) (S1 := ((v23.2, S.2).1, v25.2).2) T (w2_y cy ad ap ((v23.2, S.2).1, v25.2))
          refine cgs_V (q0 := 15) (ci := 3) (As := [.int 0]) (rest := [.int v27]) (sub_X X (wC_fst cy ap (wC cy ad [] ((v23.2, S.2).1, v25.2).1)) T1) hX T1 (kN_X3_reached l t1 t2 D cy ap (wC cy ad [] ((v23.2, S.2).1, v25.2).1) ((v23.2, S.2).1, v25.2).2 0 _ h28 rfl) (cwV 1 hts gL_areAlike_X3_reached rfl rfl rfl (by decide +kernel) ⟨(Nat.le_of_ble_eq_true rfl), (Nat.le_of_ble_eq_true rfl)⟩) rfl rfl rfl hl.1 rfl (Nat.le_of_ble_eq_true rfl) dL_areAlike_51 ⟨(Nat.le_of_ble_eq_true rfl), (Nat.le_of_ble_eq_true rfl)⟩ (st2 := [.int v29, .int v27]) (pc2 := 54) rfl rfl (fun H locs T1 => ?_)
          have T : ST D (w2 cy ad ap) A s (((v23.2, S.2).1, v25.2).1, ((v23.2, S.2).1, v25.2).2) H locs := sub_T T1 ((w2_y cy ad ap (((v23.2, S.2).1, v25.2).1, ((v23.2, S.2).1, v25.2).2)).symm)
          refine lv_icmp_ne (tgt := 74) hx hb dL_areAlike_54 (by decide) (fun hc => ?_) (fun hc => ?_)
          · replace hf := ifn hc hf
            refine W.widen (k := 2) (n := 12) (Nat.le_of_ble_eq_true rfl) (Nat.le_of_ble_eq_true rfl) ?_
            exact j_74 x2 ((v23.2, S.2).1, v25.2) _ _ _ hf T (lv_sub hl [0, 1, 2] rfl)
          · replace hf := ifp hc hf
            refine lv_aload_n hx hb dL_areAlike_57 rfl (lv_at hl 0 rfl) ?_
            refine lv_iconst (v := 1) hx hb dL_areAlike_58 (by decide) ?_
            obtain ⟨v31, h30, hf⟩ := bndn_inv hf
            have T1 := sub_T (w' := wC cy ad (wC cy ap [] ((v23.2, S.2).1, v25.2).2)) (S1 := ((v23.2, S.2).1, v25.2).1) T (List.Perm.refl _)
            refine cgs_V (q0 := 15) (ci := 3) (As := [.int 1]) (rest := []) (sub_X X (wC_fst cy ad (wC cy ap [] ((v23.2, S.2).1, v25.2).2)) T1) hX T1 (kN_X3_reached l t1 t2 D cy ad (wC cy ap [] ((v23.2, S.2).1, v25.2).2) ((v23.2, S.2).1, v25.2).1 1 _ h30 rfl) (cwV 1 hts gL_areAlike_X3_reached rfl rfl rfl (by decide +kernel) ⟨(Nat.le_of_ble_eq_true rfl), (Nat.le_of_ble_eq_true rfl)⟩) rfl rfl rfl hl.1 rfl (Nat.le_of_ble_eq_true rfl) dL_areAlike_59 ⟨(Nat.le_of_ble_eq_true rfl), (Nat.le_of_ble_eq_true rfl)⟩ (st2 := [.int v31]) (pc2 := 62) rfl rfl (fun H locs T1 => ?_)
            have T : ST D (w2 cy ad ap) A s (((v23.2, S.2).1, v25.2).1, ((v23.2, S.2).1, v25.2).2) H locs := sub_T T1 (List.Perm.refl _)
            refine lv_aload_n hx hb dL_areAlike_62 rfl (lv_at hl 1 rfl) ?_
            refine lv_iconst (v := 1) hx hb dL_areAlike_63 (by decide) ?_
            obtain ⟨v33, h32, hf⟩ := bndn_inv hf
            have T1 := sub_T (w' := wC cy ap (wC cy ad [] ((v23.2, S.2).1, v25.2).1)) (S1 := ((v23.2, S.2).1, v25.2).2) T (w2_y cy ad ap ((v23.2, S.2).1, v25.2))
            refine cgs_V (q0 := 15) (ci := 3) (As := [.int 1]) (rest := [.int v31]) (sub_X X (wC_fst cy ap (wC cy ad [] ((v23.2, S.2).1, v25.2).1)) T1) hX T1 (kN_X3_reached l t1 t2 D cy ap (wC cy ad [] ((v23.2, S.2).1, v25.2).1) ((v23.2, S.2).1, v25.2).2 1 _ h32 rfl) (cwV 1 hts gL_areAlike_X3_reached rfl rfl rfl (by decide +kernel) ⟨(Nat.le_of_ble_eq_true rfl), (Nat.le_of_ble_eq_true rfl)⟩) rfl rfl rfl hl.1 rfl (Nat.le_of_ble_eq_true rfl) dL_areAlike_64 ⟨(Nat.le_of_ble_eq_true rfl), (Nat.le_of_ble_eq_true rfl)⟩ (st2 := [.int v33, .int v31]) (pc2 := 67) rfl rfl (fun H locs T1 => ?_)
            have T : ST D (w2 cy ad ap) A s (((v23.2, S.2).1, v25.2).1, ((v23.2, S.2).1, v25.2).2) H locs := sub_T T1 ((w2_y cy ad ap (((v23.2, S.2).1, v25.2).1, ((v23.2, S.2).1, v25.2).2)).symm)
            refine lv_icmp_ne (tgt := 74) hx hb dL_areAlike_67 (by decide) (fun hc => ?_) (fun hc => ?_)
            · replace hf := ifn hc hf
              refine W.widen (k := 2) (n := 12) (Nat.le_of_ble_eq_true rfl) (Nat.le_of_ble_eq_true rfl) ?_
              exact j_74 x2 ((v23.2, S.2).1, v25.2) _ _ _ hf T (lv_sub hl [0, 1, 2] rfl)
            · replace hf := ifp hc hf
              refine lv_iconst (v := 1) hx hb dL_areAlike_70 (by decide) ?_
              refine lv_goto (tgt := 75) hx hb dL_areAlike_71 (by decide) ?_
              refine W.widen (k := 2) (n := 12) (Nat.le_of_ble_eq_true rfl) (Nat.le_of_ble_eq_true rfl) ?_
              exact j_75 x2 1 ((v23.2, S.2).1, v25.2) _ _ _ hf T (lv_sub hl [0, 1, 2] rfl)
