noncomputable def fX4_canCome_j187 (S : SC) (y1 : Int32) (y3 : Int32) (y4 : Int32) (y5 : Int32) (y7 : Int32) (z0 : Int32) : Option ((Int32 × Int32) ⊕ Int32) :=
  nm (y7 + 1 : Int32) fun v1 =>
  some (.inl (z0, v1))
noncomputable def fX4_canCome_j182 (S : SC) (y1 : Int32) (y3 : Int32) (y4 : Int32) (y5 : Int32) (y7 : Int32) : Option ((Int32 × Int32) ⊕ Int32) :=
  fX4_canCome_j187 S y1 y3 y4 y5 y7 1
noncomputable def fX4_canCome_j186 (S : SC) (y1 : Int32) (y3 : Int32) (y4 : Int32) (y5 : Int32) (y7 : Int32) : Option ((Int32 × Int32) ⊕ Int32) :=
  fX4_canCome_j187 S y1 y3 y4 y5 y7 0
noncomputable def fX4_canCome_j136 (S : SC) (y1 : Int32) (y3 : Int32) (y4 : Int32) (y5 : Int32) (y6 : Int32) (y7 : Int32) (z0 : Int32) : Option ((Int32 × Int32) ⊕ Int32) :=
  if y6 = 0 then
    if z0 = 0 then
      fX4_canCome_j186 S y1 y3 y4 y5 y7
    else
      bnd (fX4_isStep S y1 y7 y3) fun v3 =>
      if v3 = 0 then
        fX4_canCome_j186 S y1 y3 y4 y5 y7
      else
        bnd (fX4_builderIn S y1 y3) fun v5 =>
        if v5 = (-1) then
          bnd (fX4_isWinning S y1 y7 y3) fun v7 =>
          if v7 = y4 then
            fX4_canCome_j182 S y1 y3 y4 y5 y7
          else
            fX4_canCome_j186 S y1 y3 y4 y5 y7
        else
          fX4_canCome_j186 S y1 y3 y4 y5 y7
  else
    fX4_canCome_j182 S y1 y3 y4 y5 y7
noncomputable def fX4_canCome_j135 (S : SC) (y1 : Int32) (y3 : Int32) (y4 : Int32) (y5 : Int32) (y6 : Int32) (y7 : Int32) : Option ((Int32 × Int32) ⊕ Int32) :=
  fX4_canCome_j136 S y1 y3 y4 y5 y6 y7 0
noncomputable def fX4_canCome_b72 (S : SC) (y1 : Int32) (y3 : Int32) (y4 : Int32) (y5 : Int32) : (Int32 × Int32) → Option ((Int32 × Int32) ⊕ Int32) :=
  fun st => match st with
    | (y6, y7) =>
      bnd (fX4_cells S) fun v9 =>
      if v9 ≤ y7 then
        ex <|
        cp (y6 = 0 ∨ y6 = 1) <|
        some y6
      else
        ck y1 5 <|
        ck (S.2 3 y1.toNatClampNeg) 2 <|
        if S.2 0 (S.2 3 y1.toNatClampNeg).toNatClampNeg = 1 then
          bnd (fX4_isStep S y1 y5 y7) fun v11 =>
          if v11 = 0 then
            fX4_canCome_j135 S y1 y3 y4 y5 y6 y7
          else
            bnd (fX4_builderIn S y1 y7) fun v13 =>
            if v13 = (-1) then
              bnd (fX4_isWinning S y1 y5 y7) fun v15 =>
              if v15 = 0 then
                fX4_canCome_j136 S y1 y3 y4 y5 y6 y7 1
              else
                fX4_canCome_j135 S y1 y3 y4 y5 y6 y7
            else
              fX4_canCome_j135 S y1 y3 y4 y5 y6 y7
        else
          ex <|
          cp (y6 = 0 ∨ y6 = 1) <|
          some y6
noncomputable def fX4_canCome_j66 (S : SC) (y1 : Int32) (y3 : Int32) (y4 : Int32) (y5 : Int32) : Option Int32 :=
  loop (fX4_canCome_b72 S y1 y3 y4 y5) FUEL (0, 0)
noncomputable def fX4_canCome (S : SC) (x1 : Int32) (x2 : Int32) (x3 : Int32) (x4 : Int32) : Option Int32 :=
  ck x1 5 <|
  ck ((((4 : Int32) * x1) + ((2 : Int32) * (S.2 3 x1.toNatClampNeg))) + x2) 20 <|
  nm (S.2 2 ((((4 : Int32) * x1) + ((2 : Int32) * (S.2 3 x1.toNatClampNeg))) + x2).toNatClampNeg : Int32) fun v16 =>
  if v16 = x3 then
    some 0
  else
    bnd (fX4_isStep S x1 v16 x3) fun v18 =>
    if v18 = 0 then
      fX4_canCome_j66 S x1 x3 x4 v16
    else
      bnd (fX4_mayEnter S x1 v16 x3) fun v20 =>
      if v20 = 0 then
        fX4_canCome_j66 S x1 x3 x4 v16
      else
        bnd (fX4_isWinning S x1 v16 x3) fun v22 =>
        if v22 = x4 then
          some 1
        else
          fX4_canCome_j66 S x1 x3 x4 v16
set_option maxHeartbeats 4000000 in
set_option maxRecDepth 100000 in
theorem kX4_canCome (l : Launch) (D : va_G) (cy : Nat → ClassId) (ad : Nat → Nat) (Xr : va_W) (S : SC) (x1 : Int32) (x2 : Int32) (x3 : Int32) (x4 : Int32) (r : Int32) (hf : fX4_canCome S x1 x2 x3 x4 = some r) : CG l D cy (wM cy ad Xr) yX4_canCome wsX4_canCome ({ frames := 3, cells := 0, slots := 0, locals := 72 } : Room) [.ref (ad 0), .int x1, .int x2, .int x3, .int x4] S (some (.int r)) S := by
  refine CG.of (cc := cX4_canCome) (maxL := 9) (ret := (some .boolean)) (by decide +kernel) rfl (Nat.le_of_ble_eq_true rfl) ?_
  intro p e s m below meth c A ls X hr T hl
  obtain ⟨hx, hb, hml, hown, hts, hlk, hK, hA, hwA⟩ := id X
  have hl : lv_has ls 9 [(0, .ref (ad 0)), (1, .int x1), (2, .int x2), (3, .int x3), (4, .int x4)] := hl
  have hin_X4 : ∀ w ∈ u_ws RX4 TX4 16, w ∈ wsX4_canCome := fun w h => (List.mem_cons_of_mem _ (List.mem_append_right _ h))
  unfold fX4_canCome at hf
  have l_72 : ∀ (y1 : Int32) (y3 : Int32) (y4 : Int32) (y5 : Int32) (n : Nat) (y6 : Int32) (y7 : Int32) (H : Heap) (locs : List Loc) (ls : Array Slot), loop (fX4_canCome_b72 S y1 y3 y4 y5) n (y6, y7) = some r → ST D (wM cy ad Xr) A s S H locs → lv_has ls 9 [(0, .ref (ad 0)), (1, .int y1), (3, .int y3), (4, .int y4), (5, .int y5), (6, .int y6), (7, .int y7)] → W p l e ({ frames := 3, cells := 0, slots := 0, locals := 72 } : Room) s m [.ref (ad 0), .int x1, .int x2, .int x3, .int x4].toArray below meth c H locs 0 0 (MQ below (QG D (wM cy ad Xr) A (some (.int r)) S) [.ref (ad 0), .int x1, .int x2, .int x3, .int x4].toArray s 0 0 A) (F0 m 72 ls []) := by
    intro y1 y3 y4 y5 n
    induction n with
    | zero => intro _ _ _ _ _ hf; cases hf
    | succ n ih_72 =>
      intro y6 y7 H locs ls hf T hl
      obtain ⟨z_72, hf, hin_72, hex_72⟩ := loop_inv hf
      unfold fX4_canCome_b72 at hf
      dsimp only at hf
      have j_187 : ∀ (y7 : Int32) (z0 : Int32) (H : Heap) (locs : List Loc) (ls : Array Slot), fX4_canCome_j187 S y1 y3 y4 y5 y7 z0 = some z_72 → ST D (wM cy ad Xr) A s S H locs → lv_has ls 9 [(0, .ref (ad 0)), (1, .int y1), (3, .int y3), (4, .int y4), (5, .int y5), (7, .int y7)] → W p l e ({ frames := 3, cells := 0, slots := 0, locals := 72 } : Room) s m [.ref (ad 0), .int x1, .int x2, .int x3, .int x4].toArray below meth c H locs 0 0 (MQ below (QG D (wM cy ad Xr) A (some (.int r)) S) [.ref (ad 0), .int x1, .int x2, .int x3, .int x4].toArray s 0 0 A) (F0 m 187 ls [.int z0]) := by
        intro y7 z0 H locs ls hf T hl
        unfold fX4_canCome_j187 at hf
        refine lv_istore (lv' := [(6, .int z0), (0, .ref (ad 0)), (1, .int y1), (3, .int y3), (4, .int y4), (5, .int y5), (7, .int y7)]) hx hb dX4_canCome_187 hl (by decide) rfl (fun ls hl => ?_)
        obtain ⟨v1, e_v1, hf⟩ := nm_inv hf
        refine lv_iinc (v := v1) (lv' := [(7, .int v1), (6, .int z0), (0, .ref (ad 0)), (1, .int y1), (3, .int y3), (4, .int y4), (5, .int y5)]) hx hb dX4_canCome_189 hl (k := 6) rfl (by rw [e_v1]; rfl) (by decide) rfl (fun ls hl => ?_)
        refine lv_goto (tgt := 72) hx hb dX4_canCome_192 (by decide) ?_
        exact ih_72 z0 v1 _ _ _ (hin_72 _ (Option.some.inj hf).symm) T (lv_sub hl [2, 3, 4, 5, 6, 1, 0] rfl)
      have j_182 : ∀ (y7 : Int32) (H : Heap) (locs : List Loc) (ls : Array Slot), fX4_canCome_j182 S y1 y3 y4 y5 y7 = some z_72 → ST D (wM cy ad Xr) A s S H locs → lv_has ls 9 [(0, .ref (ad 0)), (1, .int y1), (3, .int y3), (4, .int y4), (5, .int y5), (7, .int y7)] → W p l e ({ frames := 3, cells := 0, slots := 0, locals := 72 } : Room) s m [.ref (ad 0), .int x1, .int x2, .int x3, .int x4].toArray below meth c H locs 0 0 (MQ below (QG D (wM cy ad Xr) A (some (.int r)) S) [.ref (ad 0), .int x1, .int x2, .int x3, .int x4].toArray s 0 0 A) (F0 m 182 ls []) := by
        intro y7 H locs ls hf T hl
        unfold fX4_canCome_j182 at hf
        refine lv_iconst (v := 1) hx hb dX4_canCome_182 (by decide) ?_
        refine lv_goto (tgt := 187) hx hb dX4_canCome_183 (by decide) ?_
        exact j_187 y7 1 _ _ _ hf T (lv_sub hl [0, 1, 2, 3, 4, 5] rfl)
      have j_186 : ∀ (y7 : Int32) (H : Heap) (locs : List Loc) (ls : Array Slot), fX4_canCome_j186 S y1 y3 y4 y5 y7 = some z_72 → ST D (wM cy ad Xr) A s S H locs → lv_has ls 9 [(0, .ref (ad 0)), (1, .int y1), (3, .int y3), (4, .int y4), (5, .int y5), (7, .int y7)] → W p l e ({ frames := 3, cells := 0, slots := 0, locals := 72 } : Room) s m [.ref (ad 0), .int x1, .int x2, .int x3, .int x4].toArray below meth c H locs 0 0 (MQ below (QG D (wM cy ad Xr) A (some (.int r)) S) [.ref (ad 0), .int x1, .int x2, .int x3, .int x4].toArray s 0 0 A) (F0 m 186 ls []) := by
        intro y7 H locs ls hf T hl
        unfold fX4_canCome_j186 at hf
        refine lv_iconst (v := 0) hx hb dX4_canCome_186 (by decide) ?_
        exact j_187 y7 0 _ _ _ hf T (lv_sub hl [0, 1, 2, 3, 4, 5] rfl)
      have j_136 : ∀ (y6 : Int32) (y7 : Int32) (z0 : Int32) (H : Heap) (locs : List Loc) (ls : Array Slot), fX4_canCome_j136 S y1 y3 y4 y5 y6 y7 z0 = some z_72 → ST D (wM cy ad Xr) A s S H locs → lv_has ls 9 [(0, .ref (ad 0)), (1, .int y1), (3, .int y3), (4, .int y4), (5, .int y5), (6, .int y6), (7, .int y7)] → W p l e ({ frames := 3, cells := 0, slots := 0, locals := 72 } : Room) s m [.ref (ad 0), .int x1, .int x2, .int x3, .int x4].toArray below meth c H locs 0 0 (MQ below (QG D (wM cy ad Xr) A (some (.int r)) S) [.ref (ad 0), .int x1, .int x2, .int x3, .int x4].toArray s 0 0 A) (F0 m 136 ls [.int z0]) := by
        intro y6 y7 z0 H locs ls hf T hl
        unfold fX4_canCome_j136 at hf
        refine lv_istore (lv' := [(8, .int z0), (0, .ref (ad 0)), (1, .int y1), (3, .int y3), (4, .int y4), (5, .int y5), (6, .int y6), (7, .int y7)]) hx hb dX4_canCome_136 hl (by decide) rfl (fun ls hl => ?_)
        refine lv_iload hx hb dX4_canCome_138 (lv_at hl 6 rfl) ?_
        refine lv_if_ne (tgt := 182) hx hb dX4_canCome_140 (by decide) (fun hc => ?_) (fun hc => ?_)
        · replace hf := ifn hc hf
          exact j_182 y7 _ _ _ hf T (lv_sub hl [1, 2, 3, 4, 5, 7] rfl)
        · replace hf := ifp hc hf
          refine lv_iload hx hb dX4_canCome_143 (lv_at hl 0 rfl) ?_
          refine lv_if_eq (tgt := 186) hx hb dX4_canCome_145 (by decide) (fun hc => ?_) (fun hc => ?_)
          · replace hf := ifp hc hf
            exact j_186 y7 _ _ _ hf T (lv_sub hl [1, 2, 3, 4, 5, 7] rfl)
          · replace hf := ifn hc hf
            refine lv_aload_n hx hb dX4_canCome_148 rfl (lv_at hl 1 rfl) ?_
            refine lv_iload_n hx hb dX4_canCome_149 rfl (lv_at hl 2 rfl) ?_
            refine lv_iload hx hb dX4_canCome_150 (lv_at hl 7 rfl) ?_
            refine lv_iload_n hx hb dX4_canCome_152 rfl (lv_at hl 3 rfl) ?_
            obtain ⟨v3, h2, hf⟩ := bnd_inv hf
            refine cg_V (q0 := 8) (ci := 4) (As := [.int y1, .int y7, .int y3]) (rest := []) X T (kX4_isStep l D cy ad Xr S y1 y7 y3 v3 h2) (cwV 3 hts gX4_canCome_X4_isStep rfl rfl rfl (by decide +kernel) ⟨Nat.le_of_ble_eq_true rfl, Nat.le_of_ble_eq_true rfl⟩) rfl rfl rfl hl.1 rfl (Nat.le_of_ble_eq_true rfl) dX4_canCome_153 ⟨Nat.zero_le _, Nat.zero_le _⟩ (st2 := [.int v3]) (pc2 := 156) rfl rfl (fun H locs T => ?_)
            refine lv_if_eq (tgt := 186) hx hb dX4_canCome_156 (by decide) (fun hc => ?_) (fun hc => ?_)
            · replace hf := ifp hc hf
              exact j_186 y7 _ _ _ hf T (lv_sub hl [1, 2, 3, 4, 5, 7] rfl)
            · replace hf := ifn hc hf
              refine lv_aload_n hx hb dX4_canCome_159 rfl (lv_at hl 1 rfl) ?_
              refine lv_iload_n hx hb dX4_canCome_160 rfl (lv_at hl 2 rfl) ?_
              refine lv_iload_n hx hb dX4_canCome_161 rfl (lv_at hl 3 rfl) ?_
              obtain ⟨v5, h4, hf⟩ := bnd_inv hf
              refine cg_V (q0 := 8) (ci := 4) (As := [.int y1, .int y3]) (rest := []) X T (kX4_builderIn l D cy ad Xr S y1 y3 v5 h4) (cwV 2 hts gX4_canCome_X4_builderIn rfl rfl rfl (by decide +kernel) ⟨Nat.le_of_ble_eq_true rfl, Nat.le_of_ble_eq_true rfl⟩) rfl rfl rfl hl.1 rfl (Nat.le_of_ble_eq_true rfl) dX4_canCome_162 ⟨Nat.zero_le _, Nat.zero_le _⟩ (st2 := [.int v5]) (pc2 := 165) rfl rfl (fun H locs T => ?_)
              refine lv_iconst (v := (-1)) hx hb dX4_canCome_165 (by decide) ?_
              refine lv_icmp_ne (tgt := 186) hx hb dX4_canCome_166 (by decide) (fun hc => ?_) (fun hc => ?_)
              · replace hf := ifn hc hf
                exact j_186 y7 _ _ _ hf T (lv_sub hl [1, 2, 3, 4, 5, 7] rfl)
              · replace hf := ifp hc hf
                refine lv_aload_n hx hb dX4_canCome_169 rfl (lv_at hl 1 rfl) ?_
                refine lv_iload_n hx hb dX4_canCome_170 rfl (lv_at hl 2 rfl) ?_
                refine lv_iload hx hb dX4_canCome_171 (lv_at hl 7 rfl) ?_
                refine lv_iload_n hx hb dX4_canCome_173 rfl (lv_at hl 3 rfl) ?_
                obtain ⟨v7, h6, hf⟩ := bnd_inv hf
                refine cg_V (q0 := 8) (ci := 4) (As := [.int y1, .int y7, .int y3]) (rest := []) X T (kX4_isWinning l D cy ad Xr S y1 y7 y3 v7 h6) (cwV 3 hts gX4_canCome_X4_isWinning rfl rfl rfl (by decide +kernel) ⟨Nat.le_of_ble_eq_true rfl, Nat.le_of_ble_eq_true rfl⟩) rfl rfl rfl hl.1 rfl (Nat.le_of_ble_eq_true rfl) dX4_canCome_174 ⟨Nat.zero_le _, Nat.zero_le _⟩ (st2 := [.int v7]) (pc2 := 177) rfl rfl (fun H locs T => ?_)
                refine lv_iload hx hb dX4_canCome_177 (lv_at hl 4 rfl) ?_
                refine lv_icmp_ne (tgt := 186) hx hb dX4_canCome_179 (by decide) (fun hc => ?_) (fun hc => ?_)
                · replace hf := ifn hc hf
                  exact j_186 y7 _ _ _ hf T (lv_sub hl [1, 2, 3, 4, 5, 7] rfl)
                · replace hf := ifp hc hf
                  exact j_182 y7 _ _ _ hf T (lv_sub hl [1, 2, 3, 4, 5, 7] rfl)
      have j_135 : ∀ (y6 : Int32) (y7 : Int32) (H : Heap) (locs : List Loc) (ls : Array Slot), fX4_canCome_j135 S y1 y3 y4 y5 y6 y7 = some z_72 → ST D (wM cy ad Xr) A s S H locs → lv_has ls 9 [(0, .ref (ad 0)), (1, .int y1), (3, .int y3), (4, .int y4), (5, .int y5), (6, .int y6), (7, .int y7)] → W p l e ({ frames := 3, cells := 0, slots := 0, locals := 72 } : Room) s m [.ref (ad 0), .int x1, .int x2, .int x3, .int x4].toArray below meth c H locs 0 0 (MQ below (QG D (wM cy ad Xr) A (some (.int r)) S) [.ref (ad 0), .int x1, .int x2, .int x3, .int x4].toArray s 0 0 A) (F0 m 135 ls []) := by
        intro y6 y7 H locs ls hf T hl
        unfold fX4_canCome_j135 at hf
        refine lv_iconst (v := 0) hx hb dX4_canCome_135 (by decide) ?_
        exact j_136 y6 y7 0 _ _ _ hf T (lv_sub hl [0, 1, 2, 3, 4, 5, 6] rfl)
      refine lv_iload hx hb dX4_canCome_72 (lv_at hl 6 rfl) ?_
      refine lv_aload_n hx hb dX4_canCome_74 rfl (lv_at hl 0 rfl) ?_
      obtain ⟨v9, h8, hf⟩ := bnd_inv hf
      refine cg_V (q0 := 8) (ci := 4) (As := []) (rest := [.int y7]) X T (kX4_cells l D cy ad Xr S v9 h8) (cwV 0 hts gX4_canCome_X4_cells rfl rfl rfl (by decide +kernel) ⟨Nat.le_of_ble_eq_true rfl, Nat.le_of_ble_eq_true rfl⟩) rfl rfl rfl hl.1 rfl (Nat.le_of_ble_eq_true rfl) dX4_canCome_75 ⟨Nat.zero_le _, Nat.zero_le _⟩ (st2 := [.int v9, .int y7]) (pc2 := 78) rfl rfl (fun H locs T => ?_)
      refine lv_icmp_ge (tgt := 195) hx hb dX4_canCome_78 (by decide) (fun hc => ?_) (fun hc => ?_)
      · replace hf := ifp hc hf
        obtain ⟨r0, hf, hz⟩ := ex_inv hf
        rw [hex_72 r0 hz] at hf
        refine lv_iload hx hb dX4_canCome_195 (lv_at hl 5 rfl) ?_
        obtain ⟨hz1, hf⟩ := cp_inv hf
        exact rf_z hf X T hr hz1 dX4_canCome_197
      · replace hf := ifn hc hf
        refine lv_aload_n hx hb dX4_canCome_81 rfl (lv_at hl 0 rfl) ?_
        refine va_get (D := D) (ci := 4) (v := .ref (ad 1)) (C := RX4) (T := TX4) (N := 16) hx hb hts hin_X4 hown hK.1 T.1 8 rfl rfl 4 (by decide) (hts _ (List.mem_of_getElem? (i := 3) rfl)) (fun _ h9 => h9) rfl dX4_canCome_82 ?_
        refine lv_aload_n hx hb dX4_canCome_85 rfl (lv_at hl 0 rfl) ?_
        refine va_get (D := D) (ci := 4) (v := .ref (ad 4)) (C := RX4) (T := TX4) (N := 16) hx hb hts hin_X4 hown hK.1 T.1 8 rfl rfl 7 (by decide) (hts _ (List.mem_of_getElem? (i := 2) rfl)) (fun _ h9 => h9) rfl dX4_canCome_86 ?_
        refine lv_iload_n hx hb dX4_canCome_89 rfl (lv_at hl 1 rfl) ?_
        obtain ⟨hin, hf⟩ := ck_inv hf
        refine va_iald hx hb hK.1 T.1 4 0 rfl rfl hin dX4_canCome_90 ?_
        obtain ⟨hin, hf⟩ := ck_inv hf
        refine va_iald hx hb hK.1 T.1 7 0 rfl rfl hin dX4_canCome_91 ?_
        refine lv_iconst (v := 1) hx hb dX4_canCome_92 (by decide) ?_
        refine lv_icmp_ne (tgt := 195) hx hb dX4_canCome_93 (by decide) (fun hc => ?_) (fun hc => ?_)
        · replace hf := ifn hc hf
          obtain ⟨r0, hf, hz⟩ := ex_inv hf
          rw [hex_72 r0 hz] at hf
          refine lv_iload hx hb dX4_canCome_195 (lv_at hl 5 rfl) ?_
          obtain ⟨hz1, hf⟩ := cp_inv hf
          exact rf_z hf X T hr hz1 dX4_canCome_197
        · replace hf := ifp hc hf
          refine lv_aload_n hx hb dX4_canCome_96 rfl (lv_at hl 0 rfl) ?_
          refine lv_iload_n hx hb dX4_canCome_97 rfl (lv_at hl 1 rfl) ?_
          refine lv_iload hx hb dX4_canCome_98 (lv_at hl 4 rfl) ?_
          refine lv_iload hx hb dX4_canCome_100 (lv_at hl 6 rfl) ?_
          obtain ⟨v11, h10, hf⟩ := bnd_inv hf
          refine cg_V (q0 := 8) (ci := 4) (As := [.int y1, .int y5, .int y7]) (rest := []) X T (kX4_isStep l D cy ad Xr S y1 y5 y7 v11 h10) (cwV 3 hts gX4_canCome_X4_isStep rfl rfl rfl (by decide +kernel) ⟨Nat.le_of_ble_eq_true rfl, Nat.le_of_ble_eq_true rfl⟩) rfl rfl rfl hl.1 rfl (Nat.le_of_ble_eq_true rfl) dX4_canCome_102 ⟨Nat.zero_le _, Nat.zero_le _⟩ (st2 := [.int v11]) (pc2 := 105) rfl rfl (fun H locs T => ?_)
          refine lv_if_eq (tgt := 135) hx hb dX4_canCome_105 (by decide) (fun hc => ?_) (fun hc => ?_)
          · replace hf := ifp hc hf
            exact j_135 y6 y7 _ _ _ hf T (lv_sub hl [0, 1, 2, 3, 4, 5, 6] rfl)
          · replace hf := ifn hc hf
            refine lv_aload_n hx hb dX4_canCome_108 rfl (lv_at hl 0 rfl) ?_
            refine lv_iload_n hx hb dX4_canCome_109 rfl (lv_at hl 1 rfl) ?_
            refine lv_iload hx hb dX4_canCome_110 (lv_at hl 6 rfl) ?_
            obtain ⟨v13, h12, hf⟩ := bnd_inv hf
            refine cg_V (q0 := 8) (ci := 4) (As := [.int y1, .int y7]) (rest := []) X T (kX4_builderIn l D cy ad Xr S y1 y7 v13 h12) (cwV 2 hts gX4_canCome_X4_builderIn rfl rfl rfl (by decide +kernel) ⟨Nat.le_of_ble_eq_true rfl, Nat.le_of_ble_eq_true rfl⟩) rfl rfl rfl hl.1 rfl (Nat.le_of_ble_eq_true rfl) dX4_canCome_112 ⟨Nat.zero_le _, Nat.zero_le _⟩ (st2 := [.int v13]) (pc2 := 115) rfl rfl (fun H locs T => ?_)
            refine lv_iconst (v := (-1)) hx hb dX4_canCome_115 (by decide) ?_
            refine lv_icmp_ne (tgt := 135) hx hb dX4_canCome_116 (by decide) (fun hc => ?_) (fun hc => ?_)
            · replace hf := ifn hc hf
              exact j_135 y6 y7 _ _ _ hf T (lv_sub hl [0, 1, 2, 3, 4, 5, 6] rfl)
            · replace hf := ifp hc hf
              refine lv_aload_n hx hb dX4_canCome_119 rfl (lv_at hl 0 rfl) ?_
              refine lv_iload_n hx hb dX4_canCome_120 rfl (lv_at hl 1 rfl) ?_
              refine lv_iload hx hb dX4_canCome_121 (lv_at hl 4 rfl) ?_
              refine lv_iload hx hb dX4_canCome_123 (lv_at hl 6 rfl) ?_
              obtain ⟨v15, h14, hf⟩ := bnd_inv hf
              refine cg_V (q0 := 8) (ci := 4) (As := [.int y1, .int y5, .int y7]) (rest := []) X T (kX4_isWinning l D cy ad Xr S y1 y5 y7 v15 h14) (cwV 3 hts gX4_canCome_X4_isWinning rfl rfl rfl (by decide +kernel) ⟨Nat.le_of_ble_eq_true rfl, Nat.le_of_ble_eq_true rfl⟩) rfl rfl rfl hl.1 rfl (Nat.le_of_ble_eq_true rfl) dX4_canCome_125 ⟨Nat.zero_le _, Nat.zero_le _⟩ (st2 := [.int v15]) (pc2 := 128) rfl rfl (fun H locs T => ?_)
              refine lv_if_ne (tgt := 135) hx hb dX4_canCome_128 (by decide) (fun hc => ?_) (fun hc => ?_)
              · replace hf := ifn hc hf
                exact j_135 y6 y7 _ _ _ hf T (lv_sub hl [0, 1, 2, 3, 4, 5, 6] rfl)
              · replace hf := ifp hc hf
                refine lv_iconst (v := 1) hx hb dX4_canCome_131 (by decide) ?_
                refine lv_goto (tgt := 136) hx hb dX4_canCome_132 (by decide) ?_
                exact j_136 y6 y7 1 _ _ _ hf T (lv_sub hl [0, 1, 2, 3, 4, 5, 6] rfl)
  have j_66 : ∀ (y1 : Int32) (y3 : Int32) (y4 : Int32) (y5 : Int32) (H : Heap) (locs : List Loc) (ls : Array Slot), fX4_canCome_j66 S y1 y3 y4 y5 = some r → ST D (wM cy ad Xr) A s S H locs → lv_has ls 9 [(0, .ref (ad 0)), (1, .int y1), (3, .int y3), (4, .int y4), (5, .int y5)] → W p l e ({ frames := 3, cells := 0, slots := 0, locals := 72 } : Room) s m [.ref (ad 0), .int x1, .int x2, .int x3, .int x4].toArray below meth c H locs 0 0 (MQ below (QG D (wM cy ad Xr) A (some (.int r)) S) [.ref (ad 0), .int x1, .int x2, .int x3, .int x4].toArray s 0 0 A) (F0 m 66 ls []) := by
    intro y1 y3 y4 y5 H locs ls hf T hl
    unfold fX4_canCome_j66 at hf
    refine lv_iconst (v := 0) hx hb dX4_canCome_66 (by decide) ?_
    refine lv_istore (lv' := [(6, .int 0), (0, .ref (ad 0)), (1, .int y1), (3, .int y3), (4, .int y4), (5, .int y5)]) hx hb dX4_canCome_67 hl (by decide) rfl (fun ls hl => ?_)
    refine lv_iconst (v := 0) hx hb dX4_canCome_69 (by decide) ?_
    refine lv_istore (lv' := [(7, .int 0), (6, .int 0), (0, .ref (ad 0)), (1, .int y1), (3, .int y3), (4, .int y4), (5, .int y5)]) hx hb dX4_canCome_70 hl (by decide) rfl (fun ls hl => ?_)
    exact l_72 y1 y3 y4 y5 FUEL 0 0 _ _ _ hf T (lv_sub hl [2, 3, 4, 5, 6, 1, 0] rfl)
  refine lv_aload_n hx hb dX4_canCome_0 rfl (lv_at hl 0 rfl) ?_
  refine va_get (D := D) (ci := 4) (v := .ref (ad 3)) (C := RX4) (T := TX4) (N := 16) hx hb hts hin_X4 hown hK.1 T.1 8 rfl rfl 6 (by decide) (hts _ (List.mem_of_getElem? (i := 1) rfl)) (fun _ h9 => h9) rfl dX4_canCome_1 ?_
  refine lv_iconst (v := 4) hx hb dX4_canCome_4 (by decide) ?_
  refine lv_iload_n hx hb dX4_canCome_5 rfl (lv_at hl 1 rfl) ?_
  refine lv_imul hx hb dX4_canCome_6 ?_
  refine lv_iconst (v := 2) hx hb dX4_canCome_7 (by decide) ?_
  refine lv_aload_n hx hb dX4_canCome_8 rfl (lv_at hl 0 rfl) ?_
  refine va_get (D := D) (ci := 4) (v := .ref (ad 4)) (C := RX4) (T := TX4) (N := 16) hx hb hts hin_X4 hown hK.1 T.1 8 rfl rfl 7 (by decide) (hts _ (List.mem_of_getElem? (i := 2) rfl)) (fun _ h9 => h9) rfl dX4_canCome_9 ?_
  refine lv_iload_n hx hb dX4_canCome_12 rfl (lv_at hl 1 rfl) ?_
  obtain ⟨hin, hf⟩ := ck_inv hf
  refine va_iald hx hb hK.1 T.1 4 0 rfl rfl hin dX4_canCome_13 ?_
  refine lv_imul hx hb dX4_canCome_14 ?_
  refine lv_iadd hx hb dX4_canCome_15 ?_
  refine lv_iload_n hx hb dX4_canCome_16 rfl (lv_at hl 2 rfl) ?_
  refine lv_iadd hx hb dX4_canCome_17 ?_
  obtain ⟨hin, hf⟩ := ck_inv hf
  refine va_iald hx hb hK.1 T.1 5 0 rfl rfl hin dX4_canCome_18 ?_
  refine lv_topi (fun v16 e_v16 => ?_)
  replace hf := nm_use hf e_v16
  refine lv_istore (lv' := [(5, .int v16), (0, .ref (ad 0)), (1, .int x1), (2, .int x2), (3, .int x3), (4, .int x4)]) hx hb dX4_canCome_19 hl (by decide) rfl (fun ls hl => ?_)
  refine lv_iload hx hb dX4_canCome_21 (lv_at hl 0 rfl) ?_
  refine lv_iload_n hx hb dX4_canCome_23 rfl (lv_at hl 4 rfl) ?_
  refine lv_icmp_ne (tgt := 29) hx hb dX4_canCome_24 (by decide) (fun hc => ?_) (fun hc => ?_)
  · replace hf := ifn hc hf
    refine lv_aload_n hx hb dX4_canCome_29 rfl (lv_at hl 1 rfl) ?_
    refine lv_iload_n hx hb dX4_canCome_30 rfl (lv_at hl 2 rfl) ?_
    refine lv_iload hx hb dX4_canCome_31 (lv_at hl 0 rfl) ?_
    refine lv_iload_n hx hb dX4_canCome_33 rfl (lv_at hl 4 rfl) ?_
    obtain ⟨v18, h17, hf⟩ := bnd_inv hf
    refine cg_V (q0 := 8) (ci := 4) (As := [.int x1, .int v16, .int x3]) (rest := []) X T (kX4_isStep l D cy ad Xr S x1 v16 x3 v18 h17) (cwV 3 hts gX4_canCome_X4_isStep rfl rfl rfl (by decide +kernel) ⟨Nat.le_of_ble_eq_true rfl, Nat.le_of_ble_eq_true rfl⟩) rfl rfl rfl hl.1 rfl (Nat.le_of_ble_eq_true rfl) dX4_canCome_34 ⟨Nat.zero_le _, Nat.zero_le _⟩ (st2 := [.int v18]) (pc2 := 37) rfl rfl (fun H locs T => ?_)
    refine lv_if_eq (tgt := 66) hx hb dX4_canCome_37 (by decide) (fun hc => ?_) (fun hc => ?_)
    · replace hf := ifp hc hf
      exact j_66 x1 x3 x4 v16 _ _ _ hf T (lv_sub hl [1, 2, 4, 5, 0] rfl)
    · replace hf := ifn hc hf
      refine lv_aload_n hx hb dX4_canCome_40 rfl (lv_at hl 1 rfl) ?_
      refine lv_iload_n hx hb dX4_canCome_41 rfl (lv_at hl 2 rfl) ?_
      refine lv_iload hx hb dX4_canCome_42 (lv_at hl 0 rfl) ?_
      refine lv_iload_n hx hb dX4_canCome_44 rfl (lv_at hl 4 rfl) ?_
      obtain ⟨v20, h19, hf⟩ := bnd_inv hf
      refine cg_V (q0 := 8) (ci := 4) (As := [.int x1, .int v16, .int x3]) (rest := []) X T (kX4_mayEnter l D cy ad Xr S x1 v16 x3 v20 h19) (cwV 3 hts gX4_canCome_X4_mayEnter rfl rfl rfl (by decide +kernel) ⟨Nat.le_of_ble_eq_true rfl, Nat.le_of_ble_eq_true rfl⟩) rfl rfl rfl hl.1 rfl (Nat.le_of_ble_eq_true rfl) dX4_canCome_45 ⟨Nat.zero_le _, Nat.zero_le _⟩ (st2 := [.int v20]) (pc2 := 48) rfl rfl (fun H locs T => ?_)
      refine lv_if_eq (tgt := 66) hx hb dX4_canCome_48 (by decide) (fun hc => ?_) (fun hc => ?_)
      · replace hf := ifp hc hf
        exact j_66 x1 x3 x4 v16 _ _ _ hf T (lv_sub hl [1, 2, 4, 5, 0] rfl)
      · replace hf := ifn hc hf
        refine lv_aload_n hx hb dX4_canCome_51 rfl (lv_at hl 1 rfl) ?_
        refine lv_iload_n hx hb dX4_canCome_52 rfl (lv_at hl 2 rfl) ?_
        refine lv_iload hx hb dX4_canCome_53 (lv_at hl 0 rfl) ?_
        refine lv_iload_n hx hb dX4_canCome_55 rfl (lv_at hl 4 rfl) ?_
        obtain ⟨v22, h21, hf⟩ := bnd_inv hf
        refine cg_V (q0 := 8) (ci := 4) (As := [.int x1, .int v16, .int x3]) (rest := []) X T (kX4_isWinning l D cy ad Xr S x1 v16 x3 v22 h21) (cwV 3 hts gX4_canCome_X4_isWinning rfl rfl rfl (by decide +kernel) ⟨Nat.le_of_ble_eq_true rfl, Nat.le_of_ble_eq_true rfl⟩) rfl rfl rfl hl.1 rfl (Nat.le_of_ble_eq_true rfl) dX4_canCome_56 ⟨Nat.zero_le _, Nat.zero_le _⟩ (st2 := [.int v22]) (pc2 := 59) rfl rfl (fun H locs T => ?_)
        refine lv_iload hx hb dX4_canCome_59 (lv_at hl 5 rfl) ?_
        refine lv_icmp_ne (tgt := 66) hx hb dX4_canCome_61 (by decide) (fun hc => ?_) (fun hc => ?_)
        · replace hf := ifn hc hf
          exact j_66 x1 x3 x4 v16 _ _ _ hf T (lv_sub hl [1, 2, 4, 5, 0] rfl)
        · replace hf := ifp hc hf
          refine lv_iconst (v := 1) hx hb dX4_canCome_64 (by decide) ?_
          exact rf_z hf X T hr (Or.inr rfl) dX4_canCome_65
  · replace hf := ifp hc hf
    refine lv_iconst (v := 0) hx hb dX4_canCome_27 (by decide) ?_
    exact rf_z hf X T hr (Or.inl rfl) dX4_canCome_28

noncomputable def fX4_canBuild_j74 (S : SC) (y1 : Int32) (y2 : Int32) (y3 : Int32) (y4 : Int32) (y6 : Int32) (z0 : Int32) : Option Int32 :=
  if y4 = y2 then
    if z0 = 0 then
      some 1
    else
      if y6 = 2 then
        some 0
      else
        some 1
  else
    bnd (fX4_builderIn S y1 y4) fun v2 =>
    if v2 = (-1) then
      if z0 = 0 then
        some 1
      else
        if y6 = 3 then
          bnd (fX4_beyond S y2 y3) fun v4 =>
          if v4 = y4 then
            some 0
          else
            some 1
        else
          some 1
    else
      some 0
noncomputable def fX4_canBuild_j59 (S : SC) (y1 : Int32) (y2 : Int32) (y3 : Int32) (y4 : Int32) (y6 : Int32) : Option Int32 :=
  bnd (fX4_builderIn S y1 y3) fun v6 =>
  if v6 = (-1) then
    fX4_canBuild_j74 S y1 y2 y3 y4 y6 0
  else
    fX4_canBuild_j74 S y1 y2 y3 y4 y6 1
noncomputable def fX4_canBuild (S : SC) (x1 : Int32) (x2 : Int32) (x3 : Int32) (x4 : Int32) (x5 : Int32) : Option Int32 :=
  ck x1 5 <|
  ck (S.2 3 x1.toNatClampNeg) 2 <|
  nm (S.2 0 (S.2 3 x1.toNatClampNeg).toNatClampNeg : Int32) fun v7 =>
  bnd (fX4_areBeside S x3 x4) fun v9 =>
  if v9 = 0 then
    some 0
  else
    bnd (fX4_high S x1 x4) fun v11 =>
    if v11 = 4 then
      some 0
    else
      if x5 = 0 then
        fX4_canBuild_j59 S x1 x2 x3 x4 v7
      else
        if v7 = 6 then
          bnd (fX4_high S x1 x4) fun v13 =>
          if v13 = 3 then
            some 0
          else
            fX4_canBuild_j59 S x1 x2 x3 x4 v7
        else
          some 0
set_option maxHeartbeats 4000000 in
set_option maxRecDepth 100000 in
theorem kX4_canBuild (l : Launch) (D : va_G) (cy : Nat → ClassId) (ad : Nat → Nat) (Xr : va_W) (S : SC) (x1 : Int32) (x2 : Int32) (x3 : Int32) (x4 : Int32) (x5 : Int32) (r : Int32) (hf : fX4_canBuild S x1 x2 x3 x4 x5 = some r) : CG l D cy (wM cy ad Xr) yX4_canBuild wsX4_canBuild ({ frames := 2, cells := 0, slots := 0, locals := 46 } : Room) [.ref (ad 0), .int x1, .int x2, .int x3, .int x4, .int x5] S (some (.int r)) S := by
  refine CG.of (cc := cX4_canBuild) (maxL := 8) (ret := (some .boolean)) (by decide +kernel) rfl (Nat.le_of_ble_eq_true rfl) ?_
  intro p e s m below meth c A ls X hr T hl
  obtain ⟨hx, hb, hml, hown, hts, hlk, hK, hA, hwA⟩ := id X
  have hl : lv_has ls 8 [(0, .ref (ad 0)), (1, .int x1), (2, .int x2), (3, .int x3), (4, .int x4), (5, .int x5)] := hl
  have hin_X4 : ∀ w ∈ u_ws RX4 TX4 16, w ∈ wsX4_canBuild := fun w h => (List.mem_cons_of_mem _ (List.mem_append_right _ h))
  unfold fX4_canBuild at hf
  have j_74 : ∀ (y1 : Int32) (y2 : Int32) (y3 : Int32) (y4 : Int32) (y6 : Int32) (z0 : Int32) (H : Heap) (locs : List Loc) (ls : Array Slot), fX4_canBuild_j74 S y1 y2 y3 y4 y6 z0 = some r → ST D (wM cy ad Xr) A s S H locs → lv_has ls 8 [(0, .ref (ad 0)), (1, .int y1), (2, .int y2), (3, .int y3), (4, .int y4), (6, .int y6)] → W p l e ({ frames := 2, cells := 0, slots := 0, locals := 46 } : Room) s m [.ref (ad 0), .int x1, .int x2, .int x3, .int x4, .int x5].toArray below meth c H locs 0 0 (MQ below (QG D (wM cy ad Xr) A (some (.int r)) S) [.ref (ad 0), .int x1, .int x2, .int x3, .int x4, .int x5].toArray s 0 0 A) (F0 m 74 ls [.int z0]) := by
    intro y1 y2 y3 y4 y6 z0 H locs ls hf T hl
    unfold fX4_canBuild_j74 at hf
    refine lv_istore (lv' := [(7, .int z0), (0, .ref (ad 0)), (1, .int y1), (2, .int y2), (3, .int y3), (4, .int y4), (6, .int y6)]) hx hb dX4_canBuild_74 hl (by decide) rfl (fun ls hl => ?_)
    refine lv_iload hx hb dX4_canBuild_76 (lv_at hl 5 rfl) ?_
    refine lv_iload_n hx hb dX4_canBuild_78 rfl (lv_at hl 3 rfl) ?_
    refine lv_icmp_ne (tgt := 99) hx hb dX4_canBuild_79 (by decide) (fun hc => ?_) (fun hc => ?_)
    · replace hf := ifn hc hf
      refine lv_aload_n hx hb dX4_canBuild_99 rfl (lv_at hl 1 rfl) ?_
      refine lv_iload_n hx hb dX4_canBuild_100 rfl (lv_at hl 2 rfl) ?_
      refine lv_iload hx hb dX4_canBuild_101 (lv_at hl 5 rfl) ?_
      obtain ⟨v2, h1, hf⟩ := bnd_inv hf
      refine cg_V (q0 := 8) (ci := 4) (As := [.int y1, .int y4]) (rest := []) X T (kX4_builderIn l D cy ad Xr S y1 y4 v2 h1) (cwV 2 hts gX4_canBuild_X4_builderIn rfl rfl rfl (by decide +kernel) ⟨Nat.le_of_ble_eq_true rfl, Nat.le_of_ble_eq_true rfl⟩) rfl rfl rfl hl.1 rfl (Nat.le_of_ble_eq_true rfl) dX4_canBuild_103 ⟨Nat.zero_le _, Nat.zero_le _⟩ (st2 := [.int v2]) (pc2 := 106) rfl rfl (fun H locs T => ?_)
      refine lv_iconst (v := (-1)) hx hb dX4_canBuild_106 (by decide) ?_
      refine lv_icmp_ne (tgt := 136) hx hb dX4_canBuild_107 (by decide) (fun hc => ?_) (fun hc => ?_)
      · replace hf := ifn hc hf
        refine lv_iconst (v := 0) hx hb dX4_canBuild_136 (by decide) ?_
        exact rf_z hf X T hr (Or.inl rfl) dX4_canBuild_137
      · replace hf := ifp hc hf
        refine lv_iload hx hb dX4_canBuild_110 (lv_at hl 0 rfl) ?_
        refine lv_if_eq (tgt := 132) hx hb dX4_canBuild_112 (by decide) (fun hc => ?_) (fun hc => ?_)
        · replace hf := ifp hc hf
          refine lv_iconst (v := 1) hx hb dX4_canBuild_132 (by decide) ?_
          refine lv_goto (tgt := 137) hx hb dX4_canBuild_133 (by decide) ?_
          exact rf_z hf X T hr (Or.inr rfl) dX4_canBuild_137
        · replace hf := ifn hc hf
          refine lv_iload hx hb dX4_canBuild_115 (lv_at hl 6 rfl) ?_
          refine lv_iconst (v := 3) hx hb dX4_canBuild_117 (by decide) ?_
          refine lv_icmp_ne (tgt := 132) hx hb dX4_canBuild_118 (by decide) (fun hc => ?_) (fun hc => ?_)
          · replace hf := ifn hc hf
            refine lv_iconst (v := 1) hx hb dX4_canBuild_132 (by decide) ?_
            refine lv_goto (tgt := 137) hx hb dX4_canBuild_133 (by decide) ?_
            exact rf_z hf X T hr (Or.inr rfl) dX4_canBuild_137
          · replace hf := ifp hc hf
            refine lv_aload_n hx hb dX4_canBuild_121 rfl (lv_at hl 1 rfl) ?_
            refine lv_iload_n hx hb dX4_canBuild_122 rfl (lv_at hl 3 rfl) ?_
            refine lv_iload_n hx hb dX4_canBuild_123 rfl (lv_at hl 4 rfl) ?_
            obtain ⟨v4, h3, hf⟩ := bnd_inv hf
            refine cg_V (q0 := 8) (ci := 4) (As := [.int y2, .int y3]) (rest := []) X T (kX4_beyond l D cy ad Xr S y2 y3 v4 h3) (cwV 2 hts gX4_canBuild_X4_beyond rfl rfl rfl (by decide +kernel) ⟨Nat.le_of_ble_eq_true rfl, Nat.le_of_ble_eq_true rfl⟩) rfl rfl rfl hl.1 rfl (Nat.le_of_ble_eq_true rfl) dX4_canBuild_124 ⟨Nat.zero_le _, Nat.zero_le _⟩ (st2 := [.int v4]) (pc2 := 127) rfl rfl (fun H locs T => ?_)
            refine lv_iload hx hb dX4_canBuild_127 (lv_at hl 5 rfl) ?_
            refine lv_icmp_eq (tgt := 136) hx hb dX4_canBuild_129 (by decide) (fun hc => ?_) (fun hc => ?_)
            · replace hf := ifp hc hf
              refine lv_iconst (v := 0) hx hb dX4_canBuild_136 (by decide) ?_
              exact rf_z hf X T hr (Or.inl rfl) dX4_canBuild_137
            · replace hf := ifn hc hf
              refine lv_iconst (v := 1) hx hb dX4_canBuild_132 (by decide) ?_
              refine lv_goto (tgt := 137) hx hb dX4_canBuild_133 (by decide) ?_
              exact rf_z hf X T hr (Or.inr rfl) dX4_canBuild_137
    · replace hf := ifp hc hf
      refine lv_iload hx hb dX4_canBuild_82 (lv_at hl 0 rfl) ?_
      refine lv_if_eq (tgt := 93) hx hb dX4_canBuild_84 (by decide) (fun hc => ?_) (fun hc => ?_)
      · replace hf := ifp hc hf
        refine lv_iconst (v := 1) hx hb dX4_canBuild_93 (by decide) ?_
        refine lv_goto (tgt := 98) hx hb dX4_canBuild_94 (by decide) ?_
        exact rf_z hf X T hr (Or.inr rfl) dX4_canBuild_98
      · replace hf := ifn hc hf
        refine lv_iload hx hb dX4_canBuild_87 (lv_at hl 6 rfl) ?_
        refine lv_iconst (v := 2) hx hb dX4_canBuild_89 (by decide) ?_
        refine lv_icmp_eq (tgt := 97) hx hb dX4_canBuild_90 (by decide) (fun hc => ?_) (fun hc => ?_)
        · replace hf := ifp hc hf
          refine lv_iconst (v := 0) hx hb dX4_canBuild_97 (by decide) ?_
          exact rf_z hf X T hr (Or.inl rfl) dX4_canBuild_98
        · replace hf := ifn hc hf
          refine lv_iconst (v := 1) hx hb dX4_canBuild_93 (by decide) ?_
          refine lv_goto (tgt := 98) hx hb dX4_canBuild_94 (by decide) ?_
          exact rf_z hf X T hr (Or.inr rfl) dX4_canBuild_98
  have j_59 : ∀ (y1 : Int32) (y2 : Int32) (y3 : Int32) (y4 : Int32) (y6 : Int32) (H : Heap) (locs : List Loc) (ls : Array Slot), fX4_canBuild_j59 S y1 y2 y3 y4 y6 = some r → ST D (wM cy ad Xr) A s S H locs → lv_has ls 8 [(0, .ref (ad 0)), (1, .int y1), (2, .int y2), (3, .int y3), (4, .int y4), (6, .int y6)] → W p l e ({ frames := 2, cells := 0, slots := 0, locals := 46 } : Room) s m [.ref (ad 0), .int x1, .int x2, .int x3, .int x4, .int x5].toArray below meth c H locs 0 0 (MQ below (QG D (wM cy ad Xr) A (some (.int r)) S) [.ref (ad 0), .int x1, .int x2, .int x3, .int x4, .int x5].toArray s 0 0 A) (F0 m 59 ls []) := by
    intro y1 y2 y3 y4 y6 H locs ls hf T hl
    unfold fX4_canBuild_j59 at hf
    refine lv_aload_n hx hb dX4_canBuild_59 rfl (lv_at hl 0 rfl) ?_
    refine lv_iload_n hx hb dX4_canBuild_60 rfl (lv_at hl 1 rfl) ?_
    refine lv_iload_n hx hb dX4_canBuild_61 rfl (lv_at hl 3 rfl) ?_
    obtain ⟨v6, h5, hf⟩ := bnd_inv hf
    refine cg_V (q0 := 8) (ci := 4) (As := [.int y1, .int y3]) (rest := []) X T (kX4_builderIn l D cy ad Xr S y1 y3 v6 h5) (cwV 2 hts gX4_canBuild_X4_builderIn rfl rfl rfl (by decide +kernel) ⟨Nat.le_of_ble_eq_true rfl, Nat.le_of_ble_eq_true rfl⟩) rfl rfl rfl hl.1 rfl (Nat.le_of_ble_eq_true rfl) dX4_canBuild_62 ⟨Nat.zero_le _, Nat.zero_le _⟩ (st2 := [.int v6]) (pc2 := 65) rfl rfl (fun H locs T => ?_)
    refine lv_iconst (v := (-1)) hx hb dX4_canBuild_65 (by decide) ?_
    refine lv_icmp_eq (tgt := 73) hx hb dX4_canBuild_66 (by decide) (fun hc => ?_) (fun hc => ?_)
    · replace hf := ifp hc hf
      refine lv_iconst (v := 0) hx hb dX4_canBuild_73 (by decide) ?_
      exact j_74 y1 y2 y3 y4 y6 0 _ _ _ hf T (lv_sub hl [0, 1, 2, 3, 4, 5] rfl)
    · replace hf := ifn hc hf
      refine lv_iconst (v := 1) hx hb dX4_canBuild_69 (by decide) ?_
      refine lv_goto (tgt := 74) hx hb dX4_canBuild_70 (by decide) ?_
      exact j_74 y1 y2 y3 y4 y6 1 _ _ _ hf T (lv_sub hl [0, 1, 2, 3, 4, 5] rfl)
  refine lv_aload_n hx hb dX4_canBuild_0 rfl (lv_at hl 0 rfl) ?_
  refine va_get (D := D) (ci := 4) (v := .ref (ad 1)) (C := RX4) (T := TX4) (N := 16) hx hb hts hin_X4 hown hK.1 T.1 8 rfl rfl 4 (by decide) (hts _ (List.mem_of_getElem? (i := 1) rfl)) (fun _ h9 => h9) rfl dX4_canBuild_1 ?_
  refine lv_aload_n hx hb dX4_canBuild_4 rfl (lv_at hl 0 rfl) ?_
  refine va_get (D := D) (ci := 4) (v := .ref (ad 4)) (C := RX4) (T := TX4) (N := 16) hx hb hts hin_X4 hown hK.1 T.1 8 rfl rfl 7 (by decide) (hts _ (List.mem_of_getElem? (i := 2) rfl)) (fun _ h9 => h9) rfl dX4_canBuild_5 ?_
  refine lv_iload_n hx hb dX4_canBuild_8 rfl (lv_at hl 1 rfl) ?_
  obtain ⟨hin, hf⟩ := ck_inv hf
  refine va_iald hx hb hK.1 T.1 4 0 rfl rfl hin dX4_canBuild_9 ?_
  obtain ⟨hin, hf⟩ := ck_inv hf
  refine va_iald hx hb hK.1 T.1 7 0 rfl rfl hin dX4_canBuild_10 ?_
  refine lv_topi (fun v7 e_v7 => ?_)
  replace hf := nm_use hf e_v7
  refine lv_istore (lv' := [(6, .int v7), (0, .ref (ad 0)), (1, .int x1), (2, .int x2), (3, .int x3), (4, .int x4), (5, .int x5)]) hx hb dX4_canBuild_11 hl (by decide) rfl (fun ls hl => ?_)
  refine lv_aload_n hx hb dX4_canBuild_13 rfl (lv_at hl 1 rfl) ?_
  refine lv_iload_n hx hb dX4_canBuild_14 rfl (lv_at hl 4 rfl) ?_
  refine lv_iload hx hb dX4_canBuild_15 (lv_at hl 5 rfl) ?_
  obtain ⟨v9, h8, hf⟩ := bnd_inv hf
  refine cg_V (q0 := 8) (ci := 4) (As := [.int x3, .int x4]) (rest := []) X T (kX4_areBeside l D cy ad Xr S x3 x4 v9 h8) (cwV 2 hts gX4_canBuild_X4_areBeside rfl rfl rfl (by decide +kernel) ⟨Nat.le_of_ble_eq_true rfl, Nat.le_of_ble_eq_true rfl⟩) rfl rfl rfl hl.1 rfl (Nat.le_of_ble_eq_true rfl) dX4_canBuild_17 ⟨Nat.zero_le _, Nat.zero_le _⟩ (st2 := [.int v9]) (pc2 := 20) rfl rfl (fun H locs T => ?_)
  refine lv_if_eq (tgt := 57) hx hb dX4_canBuild_20 (by decide) (fun hc => ?_) (fun hc => ?_)
  · replace hf := ifp hc hf
    refine lv_iconst (v := 0) hx hb dX4_canBuild_57 (by decide) ?_
    exact rf_z hf X T hr (Or.inl rfl) dX4_canBuild_58
  · replace hf := ifn hc hf
    refine lv_aload_n hx hb dX4_canBuild_23 rfl (lv_at hl 1 rfl) ?_
    refine lv_iload_n hx hb dX4_canBuild_24 rfl (lv_at hl 2 rfl) ?_
    refine lv_iload hx hb dX4_canBuild_25 (lv_at hl 5 rfl) ?_
    obtain ⟨v11, h10, hf⟩ := bnd_inv hf
    refine cg_V (q0 := 8) (ci := 4) (As := [.int x1, .int x4]) (rest := []) X T (kX4_high l D cy ad Xr S x1 x4 v11 h10) (cwV 2 hts gX4_canBuild_X4_high rfl rfl rfl (by decide +kernel) ⟨Nat.le_of_ble_eq_true rfl, Nat.le_of_ble_eq_true rfl⟩) rfl rfl rfl hl.1 rfl (Nat.le_of_ble_eq_true rfl) dX4_canBuild_27 ⟨Nat.zero_le _, Nat.zero_le _⟩ (st2 := [.int v11]) (pc2 := 30) rfl rfl (fun H locs T => ?_)
    refine lv_iconst (v := 4) hx hb dX4_canBuild_30 (by decide) ?_
    refine lv_icmp_eq (tgt := 57) hx hb dX4_canBuild_31 (by decide) (fun hc => ?_) (fun hc => ?_)
    · replace hf := ifp hc hf
      refine lv_iconst (v := 0) hx hb dX4_canBuild_57 (by decide) ?_
      exact rf_z hf X T hr (Or.inl rfl) dX4_canBuild_58
    · replace hf := ifn hc hf
      refine lv_iload hx hb dX4_canBuild_34 (lv_at hl 6 rfl) ?_
      refine lv_if_eq (tgt := 59) hx hb dX4_canBuild_36 (by decide) (fun hc => ?_) (fun hc => ?_)
      · replace hf := ifp hc hf
        exact j_59 x1 x2 x3 x4 v7 _ _ _ hf T (lv_sub hl [1, 2, 3, 4, 5, 0] rfl)
      · replace hf := ifn hc hf
        refine lv_iload hx hb dX4_canBuild_39 (lv_at hl 0 rfl) ?_
        refine lv_bipush (v := 6) hx hb dX4_canBuild_41 (by decide) ?_
        refine lv_icmp_ne (tgt := 57) hx hb dX4_canBuild_43 (by decide) (fun hc => ?_) (fun hc => ?_)
        · replace hf := ifn hc hf
          refine lv_iconst (v := 0) hx hb dX4_canBuild_57 (by decide) ?_
          exact rf_z hf X T hr (Or.inl rfl) dX4_canBuild_58
        · replace hf := ifp hc hf
          refine lv_aload_n hx hb dX4_canBuild_46 rfl (lv_at hl 1 rfl) ?_
          refine lv_iload_n hx hb dX4_canBuild_47 rfl (lv_at hl 2 rfl) ?_
          refine lv_iload hx hb dX4_canBuild_48 (lv_at hl 5 rfl) ?_
          obtain ⟨v13, h12, hf⟩ := bnd_inv hf
          refine cg_V (q0 := 8) (ci := 4) (As := [.int x1, .int x4]) (rest := []) X T (kX4_high l D cy ad Xr S x1 x4 v13 h12) (cwV 2 hts gX4_canBuild_X4_high rfl rfl rfl (by decide +kernel) ⟨Nat.le_of_ble_eq_true rfl, Nat.le_of_ble_eq_true rfl⟩) rfl rfl rfl hl.1 rfl (Nat.le_of_ble_eq_true rfl) dX4_canBuild_50 ⟨Nat.zero_le _, Nat.zero_le _⟩ (st2 := [.int v13]) (pc2 := 53) rfl rfl (fun H locs T => ?_)
          refine lv_iconst (v := 3) hx hb dX4_canBuild_53 (by decide) ?_
          refine lv_icmp_ne (tgt := 59) hx hb dX4_canBuild_54 (by decide) (fun hc => ?_) (fun hc => ?_)
          · replace hf := ifn hc hf
            exact j_59 x1 x2 x3 x4 v7 _ _ _ hf T (lv_sub hl [1, 2, 3, 4, 5, 0] rfl)
          · replace hf := ifp hc hf
            refine lv_iconst (v := 0) hx hb dX4_canBuild_57 (by decide) ?_
            exact rf_z hf X T hr (Or.inl rfl) dX4_canBuild_58

noncomputable def fX4_isTurn_j90 (S : SC) (y1 : Int32) (y3 : Int32) (y4 : Int32) (y6 : Int32) (z0 : Int32) : Option Int32 :=
  ck y1 5 <|
  ck ((((4 : Int32) * y1) + ((2 : Int32) * (S.2 3 y1.toNatClampNeg))) + y3) 20 <|
  nm (S.2 2 ((((4 : Int32) * y1) + ((2 : Int32) * (S.2 3 y1.toNatClampNeg))) + y3).toNatClampNeg : Int32) fun v1 =>
  bnd (fX4_isCell S z0) fun v3 =>
  if v3 = 0 then
    some 0
  else
    bnd (fX4_canBuild S y1 v1 y4 z0 y6) fun v5 =>
    if v5 = 0 then
      some 0
    else
      bnd (fX4_canCome S y1 y3 y4 0) fun v7 =>
      if v7 = 0 then
        some 0
      else
        some 1
noncomputable def fX4_isTurn_j73 (S : SC) (y1 : Int32) (y3 : Int32) (y4 : Int32) (y5 : Int32) (z0 : Int32) : Option Int32 :=
  if z0 = 0 then
    fX4_isTurn_j90 S y1 y3 y4 z0 y5
  else
    fX4_isTurn_j90 S y1 y3 y4 z0 (y5 - 50)
noncomputable def fX4_isTurn (S : SC) (x1 : Int32) (x2 : Int32) : Option Int32 :=
  nm (x2 / 10000 : Int32) fun v8 =>
  nm ((x2 / 100) - (x2 / 100) / 100 * 100 : Int32) fun v9 =>
  nm (x2 - x2 / 100 * 100 : Int32) fun v10 =>
  if x2 < 0 then
    some 0
  else
    if S.1 3 ≤ v8 then
      some 0
    else
      bnd (fX4_isCell S v9) fun v12 =>
      if v12 = 0 then
        some 0
      else
        if v10 = 99 then
          bnd (fX4_canCome S x1 v8 v9 1) fun v14 =>
          cp (v14 = 0 ∨ v14 = 1) <|
          some v14
        else
          if v10 < 50 then
            fX4_isTurn_j73 S x1 v8 v9 v10 0
          else
            fX4_isTurn_j73 S x1 v8 v9 v10 1
set_option maxHeartbeats 4000000 in
set_option maxRecDepth 100000 in
theorem kX4_isTurn (l : Launch) (D : va_G) (cy : Nat → ClassId) (ad : Nat → Nat) (Xr : va_W) (S : SC) (x1 : Int32) (x2 : Int32) (r : Int32) (hf : fX4_isTurn S x1 x2 = some r) : CG l D cy (wM cy ad Xr) yX4_isTurn wsX4_isTurn ({ frames := 4, cells := 0, slots := 0, locals := 100 } : Room) [.ref (ad 0), .int x1, .int x2] S (some (.int r)) S := by
  refine CG.of (cc := cX4_isTurn) (maxL := 9) (ret := (some .boolean)) (by decide +kernel) rfl (Nat.le_of_ble_eq_true rfl) ?_
  intro p e s m below meth c A ls X hr T hl
  obtain ⟨hx, hb, hml, hown, hts, hlk, hK, hA, hwA⟩ := id X
  have hl : lv_has ls 9 [(0, .ref (ad 0)), (1, .int x1), (2, .int x2)] := hl
  have hin_X4 : ∀ w ∈ u_ws RX4 TX4 16, w ∈ wsX4_isTurn := fun w h => (List.mem_cons_of_mem _ (List.mem_append_right _ h))
  unfold fX4_isTurn at hf
  have j_90 : ∀ (y1 : Int32) (y3 : Int32) (y4 : Int32) (y6 : Int32) (z0 : Int32) (H : Heap) (locs : List Loc) (ls : Array Slot), fX4_isTurn_j90 S y1 y3 y4 y6 z0 = some r → ST D (wM cy ad Xr) A s S H locs → lv_has ls 9 [(0, .ref (ad 0)), (1, .int y1), (3, .int y3), (4, .int y4), (6, .int y6)] → W p l e ({ frames := 4, cells := 0, slots := 0, locals := 100 } : Room) s m [.ref (ad 0), .int x1, .int x2].toArray below meth c H locs 0 0 (MQ below (QG D (wM cy ad Xr) A (some (.int r)) S) [.ref (ad 0), .int x1, .int x2].toArray s 0 0 A) (F0 m 90 ls [.int z0]) := by
    intro y1 y3 y4 y6 z0 H locs ls hf T hl
    unfold fX4_isTurn_j90 at hf
    refine lv_istore (lv' := [(7, .int z0), (0, .ref (ad 0)), (1, .int y1), (3, .int y3), (4, .int y4), (6, .int y6)]) hx hb dX4_isTurn_90 hl (by decide) rfl (fun ls hl => ?_)
    refine lv_aload_n hx hb dX4_isTurn_92 rfl (lv_at hl 1 rfl) ?_
    refine va_get (D := D) (ci := 4) (v := .ref (ad 3)) (C := RX4) (T := TX4) (N := 16) hx hb hts hin_X4 hown hK.1 T.1 8 rfl rfl 6 (by decide) (hts _ (List.mem_of_getElem? (i := 2) rfl)) (fun _ h9 => h9) rfl dX4_isTurn_93 ?_
    refine lv_iconst (v := 4) hx hb dX4_isTurn_96 (by decide) ?_
    refine lv_iload_n hx hb dX4_isTurn_97 rfl (lv_at hl 2 rfl) ?_
    refine lv_imul hx hb dX4_isTurn_98 ?_
    refine lv_iconst (v := 2) hx hb dX4_isTurn_99 (by decide) ?_
    refine lv_aload_n hx hb dX4_isTurn_100 rfl (lv_at hl 1 rfl) ?_
    refine va_get (D := D) (ci := 4) (v := .ref (ad 4)) (C := RX4) (T := TX4) (N := 16) hx hb hts hin_X4 hown hK.1 T.1 8 rfl rfl 7 (by decide) (hts _ (List.mem_of_getElem? (i := 3) rfl)) (fun _ h9 => h9) rfl dX4_isTurn_101 ?_
    refine lv_iload_n hx hb dX4_isTurn_104 rfl (lv_at hl 2 rfl) ?_
    obtain ⟨hin, hf⟩ := ck_inv hf
    refine va_iald hx hb hK.1 T.1 4 0 rfl rfl hin dX4_isTurn_105 ?_
    refine lv_imul hx hb dX4_isTurn_106 ?_
    refine lv_iadd hx hb dX4_isTurn_107 ?_
    refine lv_iload_n hx hb dX4_isTurn_108 rfl (lv_at hl 3 rfl) ?_
    refine lv_iadd hx hb dX4_isTurn_109 ?_
    obtain ⟨hin, hf⟩ := ck_inv hf
    refine va_iald hx hb hK.1 T.1 5 0 rfl rfl hin dX4_isTurn_110 ?_
    refine lv_topi (fun v1 e_v1 => ?_)
    replace hf := nm_use hf e_v1
    refine lv_istore (lv' := [(8, .int v1), (7, .int z0), (0, .ref (ad 0)), (1, .int y1), (3, .int y3), (4, .int y4), (6, .int y6)]) hx hb dX4_isTurn_111 hl (by decide) rfl (fun ls hl => ?_)
    refine lv_aload_n hx hb dX4_isTurn_113 rfl (lv_at hl 2 rfl) ?_
    refine lv_iload hx hb dX4_isTurn_114 (lv_at hl 1 rfl) ?_
    obtain ⟨v3, h2, hf⟩ := bnd_inv hf
    refine cg_V (q0 := 8) (ci := 4) (As := [.int z0]) (rest := []) X T (kX4_isCell l D cy ad Xr S z0 v3 h2) (cwV 1 hts gX4_isTurn_X4_isCell rfl rfl rfl (by decide +kernel) ⟨Nat.le_of_ble_eq_true rfl, Nat.le_of_ble_eq_true rfl⟩) rfl rfl rfl hl.1 rfl (Nat.le_of_ble_eq_true rfl) dX4_isTurn_116 ⟨Nat.zero_le _, Nat.zero_le _⟩ (st2 := [.int v3]) (pc2 := 119) rfl rfl (fun H locs T => ?_)
    refine lv_if_eq (tgt := 154) hx hb dX4_isTurn_119 (by decide) (fun hc => ?_) (fun hc => ?_)
    · replace hf := ifp hc hf
      refine lv_iconst (v := 0) hx hb dX4_isTurn_154 (by decide) ?_
      exact rf_z hf X T hr (Or.inl rfl) dX4_isTurn_155
    · replace hf := ifn hc hf
      refine lv_aload_n hx hb dX4_isTurn_122 rfl (lv_at hl 2 rfl) ?_
      refine lv_iload_n hx hb dX4_isTurn_123 rfl (lv_at hl 3 rfl) ?_
      refine lv_iload hx hb dX4_isTurn_124 (lv_at hl 0 rfl) ?_
      refine lv_iload hx hb dX4_isTurn_126 (lv_at hl 5 rfl) ?_
      refine lv_iload hx hb dX4_isTurn_128 (lv_at hl 1 rfl) ?_
      refine lv_iload hx hb dX4_isTurn_130 (lv_at hl 6 rfl) ?_
      obtain ⟨v5, h4, hf⟩ := bnd_inv hf
      refine cg_V (q0 := 8) (ci := 4) (As := [.int y1, .int v1, .int y4, .int z0, .int y6]) (rest := []) X T (kX4_canBuild l D cy ad Xr S y1 v1 y4 z0 y6 v5 h4) (cwV 5 hts gX4_isTurn_X4_canBuild rfl rfl rfl (by decide +kernel) ⟨Nat.le_of_ble_eq_true rfl, Nat.le_of_ble_eq_true rfl⟩) rfl rfl rfl hl.1 rfl (Nat.le_of_ble_eq_true rfl) dX4_isTurn_132 ⟨Nat.zero_le _, Nat.zero_le _⟩ (st2 := [.int v5]) (pc2 := 135) rfl rfl (fun H locs T => ?_)
      refine lv_if_eq (tgt := 154) hx hb dX4_isTurn_135 (by decide) (fun hc => ?_) (fun hc => ?_)
      · replace hf := ifp hc hf
        refine lv_iconst (v := 0) hx hb dX4_isTurn_154 (by decide) ?_
        exact rf_z hf X T hr (Or.inl rfl) dX4_isTurn_155
      · replace hf := ifn hc hf
        refine lv_aload_n hx hb dX4_isTurn_138 rfl (lv_at hl 2 rfl) ?_
        refine lv_iload_n hx hb dX4_isTurn_139 rfl (lv_at hl 3 rfl) ?_
        refine lv_iload_n hx hb dX4_isTurn_140 rfl (lv_at hl 4 rfl) ?_
        refine lv_iload hx hb dX4_isTurn_141 (lv_at hl 5 rfl) ?_
        refine lv_iconst (v := 0) hx hb dX4_isTurn_143 (by decide) ?_
        obtain ⟨v7, h6, hf⟩ := bnd_inv hf
        refine cg_V (q0 := 8) (ci := 4) (As := [.int y1, .int y3, .int y4, .int 0]) (rest := []) X T (kX4_canCome l D cy ad Xr S y1 y3 y4 0 v7 h6) (cwV 4 hts gX4_isTurn_X4_canCome rfl rfl rfl (by decide +kernel) ⟨Nat.le_of_ble_eq_true rfl, Nat.le_of_ble_eq_true rfl⟩) rfl rfl rfl hl.1 rfl (Nat.le_of_ble_eq_true rfl) dX4_isTurn_144 ⟨Nat.zero_le _, Nat.zero_le _⟩ (st2 := [.int v7]) (pc2 := 147) rfl rfl (fun H locs T => ?_)
        refine lv_if_eq (tgt := 154) hx hb dX4_isTurn_147 (by decide) (fun hc => ?_) (fun hc => ?_)
        · replace hf := ifp hc hf
          refine lv_iconst (v := 0) hx hb dX4_isTurn_154 (by decide) ?_
          exact rf_z hf X T hr (Or.inl rfl) dX4_isTurn_155
        · replace hf := ifn hc hf
          refine lv_iconst (v := 1) hx hb dX4_isTurn_150 (by decide) ?_
          refine lv_goto (tgt := 155) hx hb dX4_isTurn_151 (by decide) ?_
          exact rf_z hf X T hr (Or.inr rfl) dX4_isTurn_155
  have j_73 : ∀ (y1 : Int32) (y3 : Int32) (y4 : Int32) (y5 : Int32) (z0 : Int32) (H : Heap) (locs : List Loc) (ls : Array Slot), fX4_isTurn_j73 S y1 y3 y4 y5 z0 = some r → ST D (wM cy ad Xr) A s S H locs → lv_has ls 9 [(0, .ref (ad 0)), (1, .int y1), (3, .int y3), (4, .int y4), (5, .int y5)] → W p l e ({ frames := 4, cells := 0, slots := 0, locals := 100 } : Room) s m [.ref (ad 0), .int x1, .int x2].toArray below meth c H locs 0 0 (MQ below (QG D (wM cy ad Xr) A (some (.int r)) S) [.ref (ad 0), .int x1, .int x2].toArray s 0 0 A) (F0 m 73 ls [.int z0]) := by
    intro y1 y3 y4 y5 z0 H locs ls hf T hl
    unfold fX4_isTurn_j73 at hf
    refine lv_istore (lv' := [(6, .int z0), (0, .ref (ad 0)), (1, .int y1), (3, .int y3), (4, .int y4), (5, .int y5)]) hx hb dX4_isTurn_73 hl (by decide) rfl (fun ls hl => ?_)
    refine lv_iload hx hb dX4_isTurn_75 (lv_at hl 0 rfl) ?_
    refine lv_if_eq (tgt := 88) hx hb dX4_isTurn_77 (by decide) (fun hc => ?_) (fun hc => ?_)
    · replace hf := ifp hc hf
      refine lv_iload hx hb dX4_isTurn_88 (lv_at hl 5 rfl) ?_
      exact j_90 y1 y3 y4 z0 y5 _ _ _ hf T (lv_sub hl [1, 2, 3, 4, 0] rfl)
    · replace hf := ifn hc hf
      refine lv_iload hx hb dX4_isTurn_80 (lv_at hl 5 rfl) ?_
      refine lv_bipush (v := 50) hx hb dX4_isTurn_82 (by decide) ?_
      refine lv_isub hx hb dX4_isTurn_84 ?_
      refine lv_goto (tgt := 90) hx hb dX4_isTurn_85 (by decide) ?_
      exact j_90 y1 y3 y4 z0 (y5 - 50) _ _ _ hf T (lv_sub hl [1, 2, 3, 4, 0] rfl)
  refine lv_iload_n hx hb dX4_isTurn_0 rfl (lv_at hl 2 rfl) ?_
  refine lv_sipush (v := 10000) hx hb dX4_isTurn_1 (by decide) ?_
  refine lv_idiv hx hb dX4_isTurn_4 (by decide) ?_
  refine lv_topi (fun v8 e_v8 => ?_)
  replace hf := nm_use hf e_v8
  refine lv_istore_n (lv' := [(3, .int v8), (0, .ref (ad 0)), (1, .int x1), (2, .int x2)]) hx hb dX4_isTurn_5 rfl hl (by decide) rfl (fun ls hl => ?_)
  refine lv_iload_n hx hb dX4_isTurn_6 rfl (lv_at hl 3 rfl) ?_
  refine lv_bipush (v := 100) hx hb dX4_isTurn_7 (by decide) ?_
  refine lv_idiv hx hb dX4_isTurn_9 (by decide) ?_
  refine lv_bipush (v := 100) hx hb dX4_isTurn_10 (by decide) ?_
  refine lv_irem hx hb dX4_isTurn_12 (by decide) ?_
  refine lv_topi (fun v9 e_v9 => ?_)
  replace hf := nm_use hf e_v9
  refine lv_istore (lv' := [(4, .int v9), (3, .int v8), (0, .ref (ad 0)), (1, .int x1), (2, .int x2)]) hx hb dX4_isTurn_13 hl (by decide) rfl (fun ls hl => ?_)
  refine lv_iload_n hx hb dX4_isTurn_15 rfl (lv_at hl 4 rfl) ?_
  refine lv_bipush (v := 100) hx hb dX4_isTurn_16 (by decide) ?_
  refine lv_irem hx hb dX4_isTurn_18 (by decide) ?_
  refine lv_topi (fun v10 e_v10 => ?_)
  replace hf := nm_use hf e_v10
  refine lv_istore (lv' := [(5, .int v10), (4, .int v9), (3, .int v8), (0, .ref (ad 0)), (1, .int x1), (2, .int x2)]) hx hb dX4_isTurn_19 hl (by decide) rfl (fun ls hl => ?_)
  refine lv_iload_n hx hb dX4_isTurn_21 rfl (lv_at hl 5 rfl) ?_
  refine lv_if_lt (tgt := 42) hx hb dX4_isTurn_22 (by decide) (fun hc => ?_) (fun hc => ?_)
  · replace hf := ifp hc hf
    refine lv_iconst (v := 0) hx hb dX4_isTurn_42 (by decide) ?_
    exact rf_z hf X T hr (Or.inl rfl) dX4_isTurn_43
  · replace hf := ifn hc hf
    refine lv_iload_n hx hb dX4_isTurn_25 rfl (lv_at hl 2 rfl) ?_
    refine lv_aload_n hx hb dX4_isTurn_26 rfl (lv_at hl 3 rfl) ?_
    refine va_get (D := D) (ci := 4) (v := .int (S.1 3)) (C := RX4) (T := TX4) (N := 16) hx hb hts hin_X4 hown hK.1 T.1 8 rfl rfl 3 (by decide) (hts _ (List.mem_of_getElem? (i := 1) rfl)) (fun _ h9 => h9) rfl dX4_isTurn_27 ?_
    refine lv_icmp_ge (tgt := 42) hx hb dX4_isTurn_30 (by decide) (fun hc => ?_) (fun hc => ?_)
    · replace hf := ifp hc hf
      refine lv_iconst (v := 0) hx hb dX4_isTurn_42 (by decide) ?_
      exact rf_z hf X T hr (Or.inl rfl) dX4_isTurn_43
    · replace hf := ifn hc hf
      refine lv_aload_n hx hb dX4_isTurn_33 rfl (lv_at hl 3 rfl) ?_
      refine lv_iload hx hb dX4_isTurn_34 (lv_at hl 1 rfl) ?_
      obtain ⟨v12, h11, hf⟩ := bnd_inv hf
      refine cg_V (q0 := 8) (ci := 4) (As := [.int v9]) (rest := []) X T (kX4_isCell l D cy ad Xr S v9 v12 h11) (cwV 1 hts gX4_isTurn_X4_isCell rfl rfl rfl (by decide +kernel) ⟨Nat.le_of_ble_eq_true rfl, Nat.le_of_ble_eq_true rfl⟩) rfl rfl rfl hl.1 rfl (Nat.le_of_ble_eq_true rfl) dX4_isTurn_36 ⟨Nat.zero_le _, Nat.zero_le _⟩ (st2 := [.int v12]) (pc2 := 39) rfl rfl (fun H locs T => ?_)
      refine lv_if_ne (tgt := 44) hx hb dX4_isTurn_39 (by decide) (fun hc => ?_) (fun hc => ?_)
      · replace hf := ifn hc hf
        refine lv_iload hx hb dX4_isTurn_44 (lv_at hl 0 rfl) ?_
        refine lv_bipush (v := 99) hx hb dX4_isTurn_46 (by decide) ?_
        refine lv_icmp_ne (tgt := 61) hx hb dX4_isTurn_48 (by decide) (fun hc => ?_) (fun hc => ?_)
        · replace hf := ifn hc hf
          refine lv_iload hx hb dX4_isTurn_61 (lv_at hl 0 rfl) ?_
          refine lv_bipush (v := 50) hx hb dX4_isTurn_63 (by decide) ?_
          refine lv_icmp_lt (tgt := 72) hx hb dX4_isTurn_65 (by decide) (fun hc => ?_) (fun hc => ?_)
          · replace hf := ifp hc hf
            refine lv_iconst (v := 0) hx hb dX4_isTurn_72 (by decide) ?_
            exact j_73 x1 v8 v9 v10 0 _ _ _ hf T (lv_sub hl [3, 4, 2, 1, 0] rfl)
          · replace hf := ifn hc hf
            refine lv_iconst (v := 1) hx hb dX4_isTurn_68 (by decide) ?_
            refine lv_goto (tgt := 73) hx hb dX4_isTurn_69 (by decide) ?_
            exact j_73 x1 v8 v9 v10 1 _ _ _ hf T (lv_sub hl [3, 4, 2, 1, 0] rfl)
        · replace hf := ifp hc hf
          refine lv_aload_n hx hb dX4_isTurn_51 rfl (lv_at hl 3 rfl) ?_
          refine lv_iload_n hx hb dX4_isTurn_52 rfl (lv_at hl 4 rfl) ?_
          refine lv_iload_n hx hb dX4_isTurn_53 rfl (lv_at hl 2 rfl) ?_
          refine lv_iload hx hb dX4_isTurn_54 (lv_at hl 1 rfl) ?_
          refine lv_iconst (v := 1) hx hb dX4_isTurn_56 (by decide) ?_
          obtain ⟨v14, h13, hf⟩ := bnd_inv hf
          refine cg_V (q0 := 8) (ci := 4) (As := [.int x1, .int v8, .int v9, .int 1]) (rest := []) X T (kX4_canCome l D cy ad Xr S x1 v8 v9 1 v14 h13) (cwV 4 hts gX4_isTurn_X4_canCome rfl rfl rfl (by decide +kernel) ⟨Nat.le_of_ble_eq_true rfl, Nat.le_of_ble_eq_true rfl⟩) rfl rfl rfl hl.1 rfl (Nat.le_of_ble_eq_true rfl) dX4_isTurn_57 ⟨Nat.zero_le _, Nat.zero_le _⟩ (st2 := [.int v14]) (pc2 := 60) rfl rfl (fun H locs T => ?_)
          obtain ⟨hz1, hf⟩ := cp_inv hf
          exact rf_z hf X T hr hz1 dX4_isTurn_60
      · replace hf := ifp hc hf
        refine lv_iconst (v := 0) hx hb dX4_isTurn_42 (by decide) ?_
        exact rf_z hf X T hr (Or.inl rfl) dX4_isTurn_43

noncomputable def fX4_nextTurn_j108 (S : SC) (y1 : Int32) (y3 : Int32) : Option (Int32 ⊕ Int32) :=
  some (.inl y3)
noncomputable def fX4_nextTurn_j94 (S : SC) (y1 : Int32) (y3 : Int32) : Option (Int32 ⊕ Int32) :=
  bnd (fX4_isTurn S y1 y3) fun v2 =>
  if v2 = 0 then
    nm (y3 + 1 : Int32) fun v3 =>
    fX4_nextTurn_j108 S y1 v3
  else
    ex <|
    some y3
noncomputable def fX4_nextTurn_b4 (S : SC) (y1 : Int32) : Int32 → Option (Int32 ⊕ Int32) :=
  fun y3 =>
    if (10000 : Int32) * (S.1 3) ≤ y3 then
      ex <|
      some (-1)
    else
      nm ((y3 / 100) - (y3 / 100) / 100 * 100 : Int32) fun v4 =>
      bnd (fX4_cells S) fun v6 =>
      if v4 < v6 then
        if y3 - y3 / 100 * 100 = 0 then
          bnd (fX4_canCome S y1 (y3 / 10000) v4 1) fun v8 =>
          if v8 = 0 then
            bnd (fX4_canCome S y1 (y3 / 10000) v4 0) fun v10 =>
            if v10 = 0 then
              nm (y3 + 100 : Int32) fun v11 =>
              fX4_nextTurn_j108 S y1 v11
            else
              fX4_nextTurn_j94 S y1 y3
          else
            fX4_nextTurn_j94 S y1 y3
        else
          fX4_nextTurn_j94 S y1 y3
      else
        nm (((y3 / 10000) + 1) * 10000 : Int32) fun v12 =>
        fX4_nextTurn_j108 S y1 v12
noncomputable def fX4_nextTurn (S : SC) (x1 : Int32) (x2 : Int32) : Option Int32 :=
  nm (x2 + 1 : Int32) fun v13 =>
  loop (fX4_nextTurn_b4 S x1) FUEL v13
set_option maxHeartbeats 4000000 in
set_option maxRecDepth 100000 in
theorem kX4_nextTurn (l : Launch) (D : va_G) (cy : Nat → ClassId) (ad : Nat → Nat) (Xr : va_W) (S : SC) (x1 : Int32) (x2 : Int32) (r : Int32) (hf : fX4_nextTurn S x1 x2 = some r) : CG l D cy (wM cy ad Xr) yX4_nextTurn wsX4_nextTurn ({ frames := 5, cells := 0, slots := 0, locals := 128 } : Room) [.ref (ad 0), .int x1, .int x2] S (some (.int r)) S := by
  refine CG.of (cc := cX4_nextTurn) (maxL := 5) (ret := (some .int)) (by decide +kernel) rfl (Nat.le_of_ble_eq_true rfl) ?_
  intro p e s m below meth c A ls X hr T hl
  obtain ⟨hx, hb, hml, hown, hts, hlk, hK, hA, hwA⟩ := id X
  have hl : lv_has ls 5 [(0, .ref (ad 0)), (1, .int x1), (2, .int x2)] := hl
  have hin_X4 : ∀ w ∈ u_ws RX4 TX4 16, w ∈ wsX4_nextTurn := fun w h => (List.mem_cons_of_mem _ (List.mem_append_right _ h))
  unfold fX4_nextTurn at hf
  have l_4 : ∀ (y1 : Int32) (n : Nat) (y3 : Int32) (H : Heap) (locs : List Loc) (ls : Array Slot), loop (fX4_nextTurn_b4 S y1) n y3 = some r → ST D (wM cy ad Xr) A s S H locs → lv_has ls 5 [(0, .ref (ad 0)), (1, .int y1), (3, .int y3)] → W p l e ({ frames := 5, cells := 0, slots := 0, locals := 128 } : Room) s m [.ref (ad 0), .int x1, .int x2].toArray below meth c H locs 0 0 (MQ below (QG D (wM cy ad Xr) A (some (.int r)) S) [.ref (ad 0), .int x1, .int x2].toArray s 0 0 A) (F0 m 4 ls []) := by
    intro y1 n
    induction n with
    | zero => intro _ _ _ _ hf; cases hf
    | succ n ih_4 =>
      intro y3 H locs ls hf T hl
      obtain ⟨z_4, hf, hin_4, hex_4⟩ := loop_inv hf
      unfold fX4_nextTurn_b4 at hf
      have j_108 : ∀ (y3 : Int32) (H : Heap) (locs : List Loc) (ls : Array Slot), fX4_nextTurn_j108 S y1 y3 = some z_4 → ST D (wM cy ad Xr) A s S H locs → lv_has ls 5 [(0, .ref (ad 0)), (1, .int y1), (3, .int y3)] → W p l e ({ frames := 5, cells := 0, slots := 0, locals := 128 } : Room) s m [.ref (ad 0), .int x1, .int x2].toArray below meth c H locs 0 0 (MQ below (QG D (wM cy ad Xr) A (some (.int r)) S) [.ref (ad 0), .int x1, .int x2].toArray s 0 0 A) (F0 m 108 ls []) := by
        intro y3 H locs ls hf T hl
        unfold fX4_nextTurn_j108 at hf
        refine lv_goto (tgt := 4) hx hb dX4_nextTurn_108 (by decide) ?_
        exact ih_4 y3 _ _ _ (hin_4 _ (Option.some.inj hf).symm) T (lv_sub hl [0, 1, 2] rfl)
      have j_94 : ∀ (y3 : Int32) (H : Heap) (locs : List Loc) (ls : Array Slot), fX4_nextTurn_j94 S y1 y3 = some z_4 → ST D (wM cy ad Xr) A s S H locs → lv_has ls 5 [(0, .ref (ad 0)), (1, .int y1), (3, .int y3)] → W p l e ({ frames := 5, cells := 0, slots := 0, locals := 128 } : Room) s m [.ref (ad 0), .int x1, .int x2].toArray below meth c H locs 0 0 (MQ below (QG D (wM cy ad Xr) A (some (.int r)) S) [.ref (ad 0), .int x1, .int x2].toArray s 0 0 A) (F0 m 94 ls []) := by
        intro y3 H locs ls hf T hl
        unfold fX4_nextTurn_j94 at hf
        refine lv_aload_n hx hb dX4_nextTurn_94 rfl (lv_at hl 0 rfl) ?_
        refine lv_iload_n hx hb dX4_nextTurn_95 rfl (lv_at hl 1 rfl) ?_
        refine lv_iload_n hx hb dX4_nextTurn_96 rfl (lv_at hl 2 rfl) ?_
        obtain ⟨v2, h1, hf⟩ := bnd_inv hf
        refine cg_V (q0 := 8) (ci := 4) (As := [.int y1, .int y3]) (rest := []) X T (kX4_isTurn l D cy ad Xr S y1 y3 v2 h1) (cwV 2 hts gX4_nextTurn_X4_isTurn rfl rfl rfl (by decide +kernel) ⟨Nat.le_of_ble_eq_true rfl, Nat.le_of_ble_eq_true rfl⟩) rfl rfl rfl hl.1 rfl (Nat.le_of_ble_eq_true rfl) dX4_nextTurn_97 ⟨Nat.zero_le _, Nat.zero_le _⟩ (st2 := [.int v2]) (pc2 := 100) rfl rfl (fun H locs T => ?_)
        refine lv_if_eq (tgt := 105) hx hb dX4_nextTurn_100 (by decide) (fun hc => ?_) (fun hc => ?_)
        · replace hf := ifp hc hf
          obtain ⟨v3, e_v3, hf⟩ := nm_inv hf
          refine lv_iinc (v := v3) (lv' := [(3, .int v3), (0, .ref (ad 0)), (1, .int y1)]) hx hb dX4_nextTurn_105 hl (k := 2) rfl (by rw [e_v3]; rfl) (by decide) rfl (fun ls hl => ?_)
          exact j_108 v3 _ _ _ hf T (lv_sub hl [1, 2, 0] rfl)
        · replace hf := ifn hc hf
          obtain ⟨r0, hf, hz⟩ := ex_inv hf
          rw [hex_4 r0 hz] at hf
          refine lv_iload_n hx hb dX4_nextTurn_103 rfl (lv_at hl 2 rfl) ?_
          exact rf_i hf X T hr dX4_nextTurn_104
      refine lv_iload_n hx hb dX4_nextTurn_4 rfl (lv_at hl 2 rfl) ?_
      refine lv_sipush (v := 10000) hx hb dX4_nextTurn_5 (by decide) ?_
      refine lv_aload_n hx hb dX4_nextTurn_8 rfl (lv_at hl 0 rfl) ?_
      refine va_get (D := D) (ci := 4) (v := .int (S.1 3)) (C := RX4) (T := TX4) (N := 16) hx hb hts hin_X4 hown hK.1 T.1 8 rfl rfl 3 (by decide) (hts _ (List.mem_of_getElem? (i := 1) rfl)) (fun _ h9 => h9) rfl dX4_nextTurn_9 ?_
      refine lv_imul hx hb dX4_nextTurn_12 ?_
      refine lv_icmp_ge (tgt := 111) hx hb dX4_nextTurn_13 (by decide) (fun hc => ?_) (fun hc => ?_)
      · replace hf := ifp hc hf
        obtain ⟨r0, hf, hz⟩ := ex_inv hf
        rw [hex_4 r0 hz] at hf
        refine lv_iconst (v := (-1)) hx hb dX4_nextTurn_111 (by decide) ?_
        exact rf_i hf X T hr dX4_nextTurn_112
      · replace hf := ifn hc hf
        refine lv_iload_n hx hb dX4_nextTurn_16 rfl (lv_at hl 2 rfl) ?_
        refine lv_bipush (v := 100) hx hb dX4_nextTurn_17 (by decide) ?_
        refine lv_idiv hx hb dX4_nextTurn_19 (by decide) ?_
        refine lv_bipush (v := 100) hx hb dX4_nextTurn_20 (by decide) ?_
        refine lv_irem hx hb dX4_nextTurn_22 (by decide) ?_
        refine lv_topi (fun v4 e_v4 => ?_)
        replace hf := nm_use hf e_v4
        refine lv_istore (lv' := [(4, .int v4), (0, .ref (ad 0)), (1, .int y1), (3, .int y3)]) hx hb dX4_nextTurn_23 hl (by decide) rfl (fun ls hl => ?_)
        refine lv_iload hx hb dX4_nextTurn_25 (lv_at hl 0 rfl) ?_
        refine lv_aload_n hx hb dX4_nextTurn_27 rfl (lv_at hl 1 rfl) ?_
        obtain ⟨v6, h5, hf⟩ := bnd_inv hf
        refine cg_V (q0 := 8) (ci := 4) (As := []) (rest := [.int v4]) X T (kX4_cells l D cy ad Xr S v6 h5) (cwV 0 hts gX4_nextTurn_X4_cells rfl rfl rfl (by decide +kernel) ⟨Nat.le_of_ble_eq_true rfl, Nat.le_of_ble_eq_true rfl⟩) rfl rfl rfl hl.1 rfl (Nat.le_of_ble_eq_true rfl) dX4_nextTurn_28 ⟨Nat.zero_le _, Nat.zero_le _⟩ (st2 := [.int v6, .int v4]) (pc2 := 31) rfl rfl (fun H locs T => ?_)
        refine lv_icmp_lt (tgt := 49) hx hb dX4_nextTurn_31 (by decide) (fun hc => ?_) (fun hc => ?_)
        · replace hf := ifp hc hf
          refine lv_iload_n hx hb dX4_nextTurn_49 rfl (lv_at hl 3 rfl) ?_
          refine lv_bipush (v := 100) hx hb dX4_nextTurn_50 (by decide) ?_
          refine lv_irem hx hb dX4_nextTurn_52 (by decide) ?_
          refine lv_if_ne (tgt := 94) hx hb dX4_nextTurn_53 (by decide) (fun hc => ?_) (fun hc => ?_)
          · replace hf := ifn hc hf
            exact j_94 y3 _ _ _ hf T (lv_sub hl [1, 2, 3] rfl)
          · replace hf := ifp hc hf
            refine lv_aload_n hx hb dX4_nextTurn_56 rfl (lv_at hl 1 rfl) ?_
            refine lv_iload_n hx hb dX4_nextTurn_57 rfl (lv_at hl 2 rfl) ?_
            refine lv_iload_n hx hb dX4_nextTurn_58 rfl (lv_at hl 3 rfl) ?_
            refine lv_sipush (v := 10000) hx hb dX4_nextTurn_59 (by decide) ?_
            refine lv_idiv hx hb dX4_nextTurn_62 (by decide) ?_
            refine lv_iload hx hb dX4_nextTurn_63 (lv_at hl 0 rfl) ?_
            refine lv_iconst (v := 1) hx hb dX4_nextTurn_65 (by decide) ?_
            obtain ⟨v8, h7, hf⟩ := bnd_inv hf
            refine cg_V (q0 := 8) (ci := 4) (As := [.int y1, .int (y3 / 10000), .int v4, .int 1]) (rest := []) X T (kX4_canCome l D cy ad Xr S y1 (y3 / 10000) v4 1 v8 h7) (cwV 4 hts gX4_nextTurn_X4_canCome rfl rfl rfl (by decide +kernel) ⟨Nat.le_of_ble_eq_true rfl, Nat.le_of_ble_eq_true rfl⟩) rfl rfl rfl hl.1 rfl (Nat.le_of_ble_eq_true rfl) dX4_nextTurn_66 ⟨Nat.zero_le _, Nat.zero_le _⟩ (st2 := [.int v8]) (pc2 := 69) rfl rfl (fun H locs T => ?_)
            refine lv_if_ne (tgt := 94) hx hb dX4_nextTurn_69 (by decide) (fun hc => ?_) (fun hc => ?_)
            · replace hf := ifn hc hf
              exact j_94 y3 _ _ _ hf T (lv_sub hl [1, 2, 3] rfl)
            · replace hf := ifp hc hf
              refine lv_aload_n hx hb dX4_nextTurn_72 rfl (lv_at hl 1 rfl) ?_
              refine lv_iload_n hx hb dX4_nextTurn_73 rfl (lv_at hl 2 rfl) ?_
              refine lv_iload_n hx hb dX4_nextTurn_74 rfl (lv_at hl 3 rfl) ?_
              refine lv_sipush (v := 10000) hx hb dX4_nextTurn_75 (by decide) ?_
              refine lv_idiv hx hb dX4_nextTurn_78 (by decide) ?_
              refine lv_iload hx hb dX4_nextTurn_79 (lv_at hl 0 rfl) ?_
              refine lv_iconst (v := 0) hx hb dX4_nextTurn_81 (by decide) ?_
              obtain ⟨v10, h9, hf⟩ := bnd_inv hf
              refine cg_V (q0 := 8) (ci := 4) (As := [.int y1, .int (y3 / 10000), .int v4, .int 0]) (rest := []) X T (kX4_canCome l D cy ad Xr S y1 (y3 / 10000) v4 0 v10 h9) (cwV 4 hts gX4_nextTurn_X4_canCome rfl rfl rfl (by decide +kernel) ⟨Nat.le_of_ble_eq_true rfl, Nat.le_of_ble_eq_true rfl⟩) rfl rfl rfl hl.1 rfl (Nat.le_of_ble_eq_true rfl) dX4_nextTurn_82 ⟨Nat.zero_le _, Nat.zero_le _⟩ (st2 := [.int v10]) (pc2 := 85) rfl rfl (fun H locs T => ?_)
              refine lv_if_ne (tgt := 94) hx hb dX4_nextTurn_85 (by decide) (fun hc => ?_) (fun hc => ?_)
              · replace hf := ifn hc hf
                exact j_94 y3 _ _ _ hf T (lv_sub hl [1, 2, 3] rfl)
              · replace hf := ifp hc hf
                obtain ⟨v11, e_v11, hf⟩ := nm_inv hf
                refine lv_iinc (v := v11) (lv' := [(3, .int v11), (4, .int v4), (0, .ref (ad 0)), (1, .int y1)]) hx hb dX4_nextTurn_88 hl (k := 3) rfl (by rw [e_v11]; rfl) (by decide) rfl (fun ls hl => ?_)
                refine lv_goto (tgt := 108) hx hb dX4_nextTurn_91 (by decide) ?_
                exact j_108 v11 _ _ _ hf T (lv_sub hl [2, 3, 0] rfl)
        · replace hf := ifn hc hf
          refine lv_iload_n hx hb dX4_nextTurn_34 rfl (lv_at hl 3 rfl) ?_
          refine lv_sipush (v := 10000) hx hb dX4_nextTurn_35 (by decide) ?_
          refine lv_idiv hx hb dX4_nextTurn_38 (by decide) ?_
          refine lv_iconst (v := 1) hx hb dX4_nextTurn_39 (by decide) ?_
          refine lv_iadd hx hb dX4_nextTurn_40 ?_
          refine lv_sipush (v := 10000) hx hb dX4_nextTurn_41 (by decide) ?_
          refine lv_imul hx hb dX4_nextTurn_44 ?_
          refine lv_topi (fun v12 e_v12 => ?_)
          replace hf := nm_use hf e_v12
          refine lv_istore_n (lv' := [(3, .int v12), (4, .int v4), (0, .ref (ad 0)), (1, .int y1)]) hx hb dX4_nextTurn_45 rfl hl (by decide) rfl (fun ls hl => ?_)
          refine lv_goto (tgt := 108) hx hb dX4_nextTurn_46 (by decide) ?_
          exact j_108 v12 _ _ _ hf T (lv_sub hl [2, 3, 0] rfl)
  refine lv_iload_n hx hb dX4_nextTurn_0 rfl (lv_at hl 2 rfl) ?_
  refine lv_iconst (v := 1) hx hb dX4_nextTurn_1 (by decide) ?_
  refine lv_iadd hx hb dX4_nextTurn_2 ?_
  refine lv_topi (fun v13 e_v13 => ?_)
  replace hf := nm_use hf e_v13
  refine lv_istore_n (lv' := [(3, .int v13), (0, .ref (ad 0)), (1, .int x1), (2, .int x2)]) hx hb dX4_nextTurn_3 rfl hl (by decide) rfl (fun ls hl => ?_)
  exact l_4 x1 FUEL v13 _ _ _ hf T (lv_sub hl [1, 2, 0] rfl)

noncomputable def fX4_copy_b38 (y1 : Int32) (y2 : Int32) : (Int32 × SC) → Option ((Int32 × SC) ⊕ SC) :=
  fun st => match st with
    | (y3, S_38) =>
      if (4 : Int32) ≤ y3 then
        ex <|
        ck y1 5 <|
        ck y2 5 <|
        nm (setA S_38 3 y2 (S_38.2 3 y1.toNatClampNeg) : SC) fun S1 =>
        ck y1 5 <|
        ck y2 5 <|
        nm (setA S1 4 y2 (vp_nar .boolean (S1.2 4 y1.toNatClampNeg)) : SC) fun S2 =>
        some S2
      else
        ck (((4 : Int32) * y1) + y3) 20 <|
        ck (((4 : Int32) * y2) + y3) 20 <|
        nm (setA S_38 2 (((4 : Int32) * y2) + y3) (S_38.2 2 (((4 : Int32) * y1) + y3).toNatClampNeg) : SC) fun S3 =>
        nm (y3 + 1 : Int32) fun v4 =>
        some (.inl (v4, S3))
noncomputable def fX4_copy_b2 (y1 : Int32) (y2 : Int32) : (Int32 × SC) → Option ((Int32 × SC) ⊕ SC) :=
  fun st => match st with
    | (y3, S_2) =>
      if (25 : Int32) ≤ y3 then
        ex <|
        loop (fX4_copy_b38 y1 y2) FUEL (0, S_2)
      else
        ck (((25 : Int32) * y1) + y3) 125 <|
        ck (((25 : Int32) * y2) + y3) 125 <|
        nm (setA S_2 1 (((25 : Int32) * y2) + y3) (S_2.2 1 (((25 : Int32) * y1) + y3).toNatClampNeg) : SC) fun S5 =>
        nm (y3 + 1 : Int32) fun v6 =>
        some (.inl (v6, S5))
noncomputable def fX4_copy (S : SC) (x1 : Int32) (x2 : Int32) : Option SC :=
  loop (fX4_copy_b2 x1 x2) FUEL (0, S)
set_option maxHeartbeats 4000000 in
set_option maxRecDepth 100000 in
theorem kX4_copy (l : Launch) (D : va_G) (cy : Nat → ClassId) (ad : Nat → Nat) (Xr : va_W) (S : SC) (x1 : Int32) (x2 : Int32) (r : SC) (hf : fX4_copy S x1 x2 = some r) : CG l D cy (wM cy ad Xr) yX4_copy wsX4_copy ({ frames := 0, cells := 0, slots := 0, locals := 0 } : Room) [.ref (ad 0), .int x1, .int x2] S none r := by
  refine CG.of (cc := cX4_copy) (maxL := 4) (ret := none) (by decide +kernel) rfl (Nat.le_of_ble_eq_true rfl) ?_
  intro p e s m below meth c A ls X hr T hl
  obtain ⟨hx, hb, hml, hown, hts, hlk, hK, hA, hwA⟩ := id X
  have hl : lv_has ls 4 [(0, .ref (ad 0)), (1, .int x1), (2, .int x2)] := hl
  have hin_X4 : ∀ w ∈ u_ws RX4 TX4 16, w ∈ wsX4_copy := fun w h => (List.mem_cons_of_mem _ (List.mem_append_right _ h))
  unfold fX4_copy at hf
  have l_38 : ∀ (y1 : Int32) (y2 : Int32) (n : Nat) (y3 : Int32) (S_38 : SC) (H : Heap) (locs : List Loc) (ls : Array Slot), loop (fX4_copy_b38 y1 y2) n (y3, S_38) = some r → ST D (wM cy ad Xr) A s S_38 H locs → lv_has ls 4 [(0, .ref (ad 0)), (1, .int y1), (2, .int y2), (3, .int y3)] → W p l e ({ frames := 0, cells := 0, slots := 0, locals := 0 } : Room) s m [.ref (ad 0), .int x1, .int x2].toArray below meth c H locs 0 0 (MQ below (QG D (wM cy ad Xr) A none r) [.ref (ad 0), .int x1, .int x2].toArray s 0 0 A) (F0 m 38 ls []) := by
    intro y1 y2 n
    induction n with
    | zero => intro _ _ _ _ _ hf; cases hf
    | succ n ih_38 =>
      intro y3 S_38 H locs ls hf T hl
      obtain ⟨z_38, hf, hin_38, hex_38⟩ := loop_inv hf
      unfold fX4_copy_b38 at hf
      dsimp only at hf
      refine lv_iload_n hx hb dX4_copy_38 rfl (lv_at hl 3 rfl) ?_
      refine lv_iconst (v := 4) hx hb dX4_copy_39 (by decide) ?_
      refine lv_icmp_ge (tgt := 69) hx hb dX4_copy_40 (by decide) (fun hc => ?_) (fun hc => ?_)
      · replace hf := ifp hc hf
        obtain ⟨r0, hf, hz⟩ := ex_inv hf
        rw [hex_38 r0 hz] at hf
        refine lv_aload_n hx hb dX4_copy_69 rfl (lv_at hl 0 rfl) ?_
        refine va_get (D := D) (ci := 4) (v := .ref (ad 4)) (C := RX4) (T := TX4) (N := 16) hx hb hts hin_X4 hown hK.1 T.1 8 rfl rfl 7 (by decide) (hts _ (List.mem_of_getElem? (i := 3) rfl)) (fun _ h9 => h9) rfl dX4_copy_70 ?_
        refine lv_iload_n hx hb dX4_copy_73 rfl (lv_at hl 2 rfl) ?_
        refine lv_aload_n hx hb dX4_copy_74 rfl (lv_at hl 0 rfl) ?_
        refine va_get (D := D) (ci := 4) (v := .ref (ad 4)) (C := RX4) (T := TX4) (N := 16) hx hb hts hin_X4 hown hK.1 T.1 8 rfl rfl 7 (by decide) (hts _ (List.mem_of_getElem? (i := 3) rfl)) (fun _ h9 => h9) rfl dX4_copy_75 ?_
        refine lv_iload_n hx hb dX4_copy_78 rfl (lv_at hl 1 rfl) ?_
        obtain ⟨hin, hf⟩ := ck_inv hf
        refine va_iald hx hb hK.1 T.1 4 0 rfl rfl hin dX4_copy_79 ?_
        obtain ⟨hin, hf⟩ := ck_inv hf
        obtain ⟨S1, e_S1, hf⟩ := nm_inv hf
        refine va_iast hx hb hK.1 T.1 T.2.1 T.2.2 4 0 rfl rfl hin dX4_copy_80 (fun H locs hP hD hS => ?_)
        have T : ST D (wM cy ad Xr) A s S1 H locs := ⟨by rw [e_S1]; exact hP, by rw [e_S1]; exact hD, hS⟩
        refine lv_aload_n hx hb dX4_copy_81 rfl (lv_at hl 0 rfl) ?_
        refine va_get (D := D) (ci := 4) (v := .ref (ad 5)) (C := RX4) (T := TX4) (N := 16) hx hb hts hin_X4 hown hK.1 T.1 8 rfl rfl 8 (by decide) (hts _ (List.mem_of_getElem? (i := 4) rfl)) (fun _ h9 => h9) rfl dX4_copy_82 ?_
        refine lv_iload_n hx hb dX4_copy_85 rfl (lv_at hl 2 rfl) ?_
        refine lv_aload_n hx hb dX4_copy_86 rfl (lv_at hl 0 rfl) ?_
        refine va_get (D := D) (ci := 4) (v := .ref (ad 5)) (C := RX4) (T := TX4) (N := 16) hx hb hts hin_X4 hown hK.1 T.1 8 rfl rfl 8 (by decide) (hts _ (List.mem_of_getElem? (i := 4) rfl)) (fun _ h9 => h9) rfl dX4_copy_87 ?_
        refine lv_iload_n hx hb dX4_copy_90 rfl (lv_at hl 1 rfl) ?_
        obtain ⟨hin, hf⟩ := ck_inv hf
        refine va_zald hx hb hK.1 T.1 3 1 rfl rfl hin dX4_copy_91 ?_
        obtain ⟨hin, hf⟩ := ck_inv hf
        obtain ⟨S2, e_S2, hf⟩ := nm_inv hf
        refine va_zast hx hb hK.1 T.1 T.2.1 T.2.2 3 1 rfl rfl hin dX4_copy_92 (fun H locs hP hD hS => ?_)
        have T : ST D (wM cy ad Xr) A s S2 H locs := ⟨by rw [e_S2]; exact hP, by rw [e_S2]; exact hD, hS⟩
        exact rf_vw hf X T hr dX4_copy_93
      · replace hf := ifn hc hf
        refine lv_aload_n hx hb dX4_copy_43 rfl (lv_at hl 0 rfl) ?_
        refine va_get (D := D) (ci := 4) (v := .ref (ad 3)) (C := RX4) (T := TX4) (N := 16) hx hb hts hin_X4 hown hK.1 T.1 8 rfl rfl 6 (by decide) (hts _ (List.mem_of_getElem? (i := 2) rfl)) (fun _ h9 => h9) rfl dX4_copy_44 ?_
        refine lv_iconst (v := 4) hx hb dX4_copy_47 (by decide) ?_
        refine lv_iload_n hx hb dX4_copy_48 rfl (lv_at hl 2 rfl) ?_
        refine lv_imul hx hb dX4_copy_49 ?_
        refine lv_iload_n hx hb dX4_copy_50 rfl (lv_at hl 3 rfl) ?_
        refine lv_iadd hx hb dX4_copy_51 ?_
        refine lv_aload_n hx hb dX4_copy_52 rfl (lv_at hl 0 rfl) ?_
        refine va_get (D := D) (ci := 4) (v := .ref (ad 3)) (C := RX4) (T := TX4) (N := 16) hx hb hts hin_X4 hown hK.1 T.1 8 rfl rfl 6 (by decide) (hts _ (List.mem_of_getElem? (i := 2) rfl)) (fun _ h9 => h9) rfl dX4_copy_53 ?_
        refine lv_iconst (v := 4) hx hb dX4_copy_56 (by decide) ?_
        refine lv_iload_n hx hb dX4_copy_57 rfl (lv_at hl 1 rfl) ?_
        refine lv_imul hx hb dX4_copy_58 ?_
        refine lv_iload_n hx hb dX4_copy_59 rfl (lv_at hl 3 rfl) ?_
        refine lv_iadd hx hb dX4_copy_60 ?_
        obtain ⟨hin, hf⟩ := ck_inv hf
        refine va_iald hx hb hK.1 T.1 5 0 rfl rfl hin dX4_copy_61 ?_
        obtain ⟨hin, hf⟩ := ck_inv hf
        obtain ⟨S3, e_S3, hf⟩ := nm_inv hf
        refine va_iast hx hb hK.1 T.1 T.2.1 T.2.2 5 0 rfl rfl hin dX4_copy_62 (fun H locs hP hD hS => ?_)
        have T : ST D (wM cy ad Xr) A s S3 H locs := ⟨by rw [e_S3]; exact hP, by rw [e_S3]; exact hD, hS⟩
        obtain ⟨v4, e_v4, hf⟩ := nm_inv hf
        refine lv_iinc (v := v4) (lv' := [(3, .int v4), (0, .ref (ad 0)), (1, .int y1), (2, .int y2)]) hx hb dX4_copy_63 hl (k := 3) rfl (by rw [e_v4]; rfl) (by decide) rfl (fun ls hl => ?_)
        refine lv_goto (tgt := 38) hx hb dX4_copy_66 (by decide) ?_
        exact ih_38 v4 S3 _ _ _ (hin_38 _ (Option.some.inj hf).symm) T (lv_sub hl [1, 2, 3, 0] rfl)
  have l_2 : ∀ (y1 : Int32) (y2 : Int32) (n : Nat) (y3 : Int32) (S_2 : SC) (H : Heap) (locs : List Loc) (ls : Array Slot), loop (fX4_copy_b2 y1 y2) n (y3, S_2) = some r → ST D (wM cy ad Xr) A s S_2 H locs → lv_has ls 4 [(0, .ref (ad 0)), (1, .int y1), (2, .int y2), (3, .int y3)] → W p l e ({ frames := 0, cells := 0, slots := 0, locals := 0 } : Room) s m [.ref (ad 0), .int x1, .int x2].toArray below meth c H locs 0 0 (MQ below (QG D (wM cy ad Xr) A none r) [.ref (ad 0), .int x1, .int x2].toArray s 0 0 A) (F0 m 2 ls []) := by
    intro y1 y2 n
    induction n with
    | zero => intro _ _ _ _ _ hf; cases hf
    | succ n ih_2 =>
      intro y3 S_2 H locs ls hf T hl
      obtain ⟨z_2, hf, hin_2, hex_2⟩ := loop_inv hf
      unfold fX4_copy_b2 at hf
      dsimp only at hf
      refine lv_iload_n hx hb dX4_copy_2 rfl (lv_at hl 3 rfl) ?_
      refine lv_bipush (v := 25) hx hb dX4_copy_3 (by decide) ?_
      refine lv_icmp_ge (tgt := 36) hx hb dX4_copy_5 (by decide) (fun hc => ?_) (fun hc => ?_)
      · replace hf := ifp hc hf
        obtain ⟨r0, hf, hz⟩ := ex_inv hf
        rw [hex_2 r0 hz] at hf
        refine lv_iconst (v := 0) hx hb dX4_copy_36 (by decide) ?_
        refine lv_istore_n (lv' := [(3, .int 0), (0, .ref (ad 0)), (1, .int y1), (2, .int y2)]) hx hb dX4_copy_37 rfl hl (by decide) rfl (fun ls hl => ?_)
        exact l_38 y1 y2 FUEL 0 S_2 _ _ _ hf T (lv_sub hl [1, 2, 3, 0] rfl)
      · replace hf := ifn hc hf
        refine lv_aload_n hx hb dX4_copy_8 rfl (lv_at hl 0 rfl) ?_
        refine va_get (D := D) (ci := 4) (v := .ref (ad 2)) (C := RX4) (T := TX4) (N := 16) hx hb hts hin_X4 hown hK.1 T.1 8 rfl rfl 5 (by decide) (hts _ (List.mem_of_getElem? (i := 1) rfl)) (fun _ h9 => h9) rfl dX4_copy_9 ?_
        refine lv_bipush (v := 25) hx hb dX4_copy_12 (by decide) ?_
        refine lv_iload_n hx hb dX4_copy_14 rfl (lv_at hl 2 rfl) ?_
        refine lv_imul hx hb dX4_copy_15 ?_
        refine lv_iload_n hx hb dX4_copy_16 rfl (lv_at hl 3 rfl) ?_
        refine lv_iadd hx hb dX4_copy_17 ?_
        refine lv_aload_n hx hb dX4_copy_18 rfl (lv_at hl 0 rfl) ?_
        refine va_get (D := D) (ci := 4) (v := .ref (ad 2)) (C := RX4) (T := TX4) (N := 16) hx hb hts hin_X4 hown hK.1 T.1 8 rfl rfl 5 (by decide) (hts _ (List.mem_of_getElem? (i := 1) rfl)) (fun _ h9 => h9) rfl dX4_copy_19 ?_
        refine lv_bipush (v := 25) hx hb dX4_copy_22 (by decide) ?_
        refine lv_iload_n hx hb dX4_copy_24 rfl (lv_at hl 1 rfl) ?_
        refine lv_imul hx hb dX4_copy_25 ?_
        refine lv_iload_n hx hb dX4_copy_26 rfl (lv_at hl 3 rfl) ?_
        refine lv_iadd hx hb dX4_copy_27 ?_
        obtain ⟨hin, hf⟩ := ck_inv hf
        refine va_iald hx hb hK.1 T.1 6 0 rfl rfl hin dX4_copy_28 ?_
        obtain ⟨hin, hf⟩ := ck_inv hf
        obtain ⟨S5, e_S5, hf⟩ := nm_inv hf
        refine va_iast hx hb hK.1 T.1 T.2.1 T.2.2 6 0 rfl rfl hin dX4_copy_29 (fun H locs hP hD hS => ?_)
        have T : ST D (wM cy ad Xr) A s S5 H locs := ⟨by rw [e_S5]; exact hP, by rw [e_S5]; exact hD, hS⟩
        obtain ⟨v6, e_v6, hf⟩ := nm_inv hf
        refine lv_iinc (v := v6) (lv' := [(3, .int v6), (0, .ref (ad 0)), (1, .int y1), (2, .int y2)]) hx hb dX4_copy_30 hl (k := 3) rfl (by rw [e_v6]; rfl) (by decide) rfl (fun ls hl => ?_)
        refine lv_goto (tgt := 2) hx hb dX4_copy_33 (by decide) ?_
        exact ih_2 v6 S5 _ _ _ (hin_2 _ (Option.some.inj hf).symm) T (lv_sub hl [1, 2, 3, 0] rfl)
  refine lv_iconst (v := 0) hx hb dX4_copy_0 (by decide) ?_
  refine lv_istore_n (lv' := [(3, .int 0), (0, .ref (ad 0)), (1, .int x1), (2, .int x2)]) hx hb dX4_copy_1 rfl hl (by decide) rfl (fun ls hl => ?_)
  exact l_2 x1 x2 FUEL 0 S _ _ _ hf T (lv_sub hl [1, 2, 3, 0] rfl)

noncomputable def fX4_act_j198 (y1 : Int32) (y3 : Int32) (S_198 : SC) : Option SC :=
  ck y1 5 <|
  nm (setA S_198 3 y1 ((1 : Int32) - y3) : SC) fun S1 =>
  some S1
noncomputable def fX4_act_j175 (y1 : Int32) (y3 : Int32) (y8 : Int32) (S_175 : SC) : Option SC :=
  if y8 = 99 then
    fX4_act_j198 y1 y3 S_175
  else
    ck (((25 : Int32) * y1) + y8) 125 <|
    ck (((25 : Int32) * y1) + y8) 125 <|
    nm (setA S_175 1 (((25 : Int32) * y1) + y8) ((S_175.2 1 (((25 : Int32) * y1) + y8).toNatClampNeg) + 1) : SC) fun S2 =>
    fX4_act_j198 y1 y3 S2
noncomputable def fX4_act_j135 (y1 : Int32) (y2 : Int32) (y3 : Int32) (z1 : Int32) (z2 : Int32) (S_135 : SC) : Option SC :=
  ck z1 5 <|
  nm (setA S_135 4 z1 (vp_nar .boolean z2) : SC) fun S3 =>
  nm (y2 - y2 / 100 * 100 : Int32) fun v4 =>
  if v4 < 50 then
    fX4_act_j175 y1 y3 v4 S3
  else
    if v4 = 99 then
      fX4_act_j175 y1 y3 v4 S3
    else
      ck ((((25 : Int32) * y1) + v4) - 50) 125 <|
      nm (setA S3 1 ((((25 : Int32) * y1) + v4) - 50) 4 : SC) fun S5 =>
      fX4_act_j198 y1 y3 S5
noncomputable def fX4_act_j134 (y1 : Int32) (y2 : Int32) (y3 : Int32) (z1 : Int32) (S_134 : SC) : Option SC :=
  fX4_act_j135 y1 y2 y3 z1 0 S_134
noncomputable def fX4_act_j89 (y1 : Int32) (y2 : Int32) (y3 : Int32) (y4 : Int32) (y5 : Int32) (y6 : Int32) (S_89 : SC) : Option SC :=
  ck y4 20 <|
  nm (setA S_89 2 y4 y6 : SC) fun S6 =>
  ck y3 2 <|
  if S6.2 0 y3.toNatClampNeg = 4 then
    bnd (fX4_high S6 y1 y6) fun v8 =>
    bnd (fX4_high S6 y1 y5) fun v10 =>
    if v8 ≤ v10 then
      fX4_act_j134 y1 y2 y3 y1 S6
    else
      fX4_act_j135 y1 y2 y3 y1 1 S6
  else
    fX4_act_j134 y1 y2 y3 y1 S6
noncomputable def fX4_act_j88 (y1 : Int32) (y2 : Int32) (y3 : Int32) (y4 : Int32) (y5 : Int32) (y6 : Int32) (z1 : Int32) (z2 : Int32) (S_88 : SC) : Option SC :=
  ck z1 20 <|
  nm (setA S_88 2 z1 z2 : SC) fun S11 =>
  fX4_act_j89 y1 y2 y3 y4 y5 y6 S11
noncomputable def fX4_act (S : SC) (x1 : Int32) (x2 : Int32) : Option SC :=
  ck x1 5 <|
  nm (S.2 3 x1.toNatClampNeg : Int32) fun v12 =>
  nm ((((4 : Int32) * x1) + ((2 : Int32) * v12)) + (x2 / 10000) : Int32) fun v13 =>
  ck v13 20 <|
  nm (S.2 2 v13.toNatClampNeg : Int32) fun v14 =>
  nm ((x2 / 100) - (x2 / 100) / 100 * 100 : Int32) fun v15 =>
  bnd (fX4_builderIn S x1 v15) fun v17 =>
  if v17 = (-1) then
    fX4_act_j89 x1 x2 v12 v13 v14 v15 S
  else
    ck v12 2 <|
    if S.2 0 v12.toNatClampNeg = 2 then
      fX4_act_j88 x1 x2 v12 v13 v14 v15 (((4 : Int32) * x1) + v17) v14 S
    else
      bnd (fX4_beyond S v14 v15) fun v19 =>
      fX4_act_j88 x1 x2 v12 v13 v14 v15 (((4 : Int32) * x1) + v17) v19 S
set_option maxHeartbeats 4000000 in
set_option maxRecDepth 100000 in
theorem kX4_act (l : Launch) (D : va_G) (cy : Nat → ClassId) (ad : Nat → Nat) (Xr : va_W) (S : SC) (x1 : Int32) (x2 : Int32) (r : SC) (hf : fX4_act S x1 x2 = some r) : CG l D cy (wM cy ad Xr) yX4_act wsX4_act ({ frames := 2, cells := 0, slots := 0, locals := 46 } : Room) [.ref (ad 0), .int x1, .int x2] S none r := by
  refine CG.of (cc := cX4_act) (maxL := 9) (ret := none) (by decide +kernel) rfl (Nat.le_of_ble_eq_true rfl) ?_
  intro p e s m below meth c A ls X hr T hl
  obtain ⟨hx, hb, hml, hown, hts, hlk, hK, hA, hwA⟩ := id X
  have hl : lv_has ls 9 [(0, .ref (ad 0)), (1, .int x1), (2, .int x2)] := hl
  have hin_X4 : ∀ w ∈ u_ws RX4 TX4 16, w ∈ wsX4_act := fun w h => (List.mem_cons_of_mem _ (List.mem_append_right _ h))
  unfold fX4_act at hf
  have j_198 : ∀ (y1 : Int32) (y3 : Int32) (S_198 : SC) (H : Heap) (locs : List Loc) (ls : Array Slot), fX4_act_j198 y1 y3 S_198 = some r → ST D (wM cy ad Xr) A s S_198 H locs → lv_has ls 9 [(0, .ref (ad 0)), (1, .int y1), (3, .int y3)] → W p l e ({ frames := 2, cells := 0, slots := 0, locals := 46 } : Room) s m [.ref (ad 0), .int x1, .int x2].toArray below meth c H locs 0 0 (MQ below (QG D (wM cy ad Xr) A none r) [.ref (ad 0), .int x1, .int x2].toArray s 0 0 A) (F0 m 198 ls []) := by
    intro y1 y3 S_198 H locs ls hf T hl
    unfold fX4_act_j198 at hf
    refine lv_aload_n hx hb dX4_act_198 rfl (lv_at hl 0 rfl) ?_
    refine va_get (D := D) (ci := 4) (v := .ref (ad 4)) (C := RX4) (T := TX4) (N := 16) hx hb hts hin_X4 hown hK.1 T.1 8 rfl rfl 7 (by decide) (hts _ (List.mem_of_getElem? (i := 1) rfl)) (fun _ h9 => h9) rfl dX4_act_199 ?_
    refine lv_iload_n hx hb dX4_act_202 rfl (lv_at hl 1 rfl) ?_
    refine lv_iconst (v := 1) hx hb dX4_act_203 (by decide) ?_
    refine lv_iload_n hx hb dX4_act_204 rfl (lv_at hl 2 rfl) ?_
    refine lv_isub hx hb dX4_act_205 ?_
    obtain ⟨hin, hf⟩ := ck_inv hf
    obtain ⟨S1, e_S1, hf⟩ := nm_inv hf
    refine va_iast hx hb hK.1 T.1 T.2.1 T.2.2 4 0 rfl rfl hin dX4_act_206 (fun H locs hP hD hS => ?_)
    have T : ST D (wM cy ad Xr) A s S1 H locs := ⟨by rw [e_S1]; exact hP, by rw [e_S1]; exact hD, hS⟩
    exact rf_vw hf X T hr dX4_act_207
  have j_175 : ∀ (y1 : Int32) (y3 : Int32) (y8 : Int32) (S_175 : SC) (H : Heap) (locs : List Loc) (ls : Array Slot), fX4_act_j175 y1 y3 y8 S_175 = some r → ST D (wM cy ad Xr) A s S_175 H locs → lv_has ls 9 [(0, .ref (ad 0)), (1, .int y1), (3, .int y3), (8, .int y8)] → W p l e ({ frames := 2, cells := 0, slots := 0, locals := 46 } : Room) s m [.ref (ad 0), .int x1, .int x2].toArray below meth c H locs 0 0 (MQ below (QG D (wM cy ad Xr) A none r) [.ref (ad 0), .int x1, .int x2].toArray s 0 0 A) (F0 m 175 ls []) := by
    intro y1 y3 y8 S_175 H locs ls hf T hl
    unfold fX4_act_j175 at hf
    refine lv_iload hx hb dX4_act_175 (lv_at hl 3 rfl) ?_
    refine lv_bipush (v := 99) hx hb dX4_act_177 (by decide) ?_
    refine lv_icmp_eq (tgt := 198) hx hb dX4_act_179 (by decide) (fun hc => ?_) (fun hc => ?_)
    · replace hf := ifp hc hf
      exact j_198 y1 y3 S_175 _ _ _ hf T (lv_sub hl [0, 1, 2] rfl)
    · replace hf := ifn hc hf
      refine lv_aload_n hx hb dX4_act_182 rfl (lv_at hl 0 rfl) ?_
      refine va_get (D := D) (ci := 4) (v := .ref (ad 2)) (C := RX4) (T := TX4) (N := 16) hx hb hts hin_X4 hown hK.1 T.1 8 rfl rfl 5 (by decide) (hts _ (List.mem_of_getElem? (i := 5) rfl)) (fun _ h9 => h9) rfl dX4_act_183 ?_
      refine lv_bipush (v := 25) hx hb dX4_act_186 (by decide) ?_
      refine lv_iload_n hx hb dX4_act_188 rfl (lv_at hl 1 rfl) ?_
      refine lv_imul hx hb dX4_act_189 ?_
      refine lv_iload hx hb dX4_act_190 (lv_at hl 3 rfl) ?_
      refine lv_iadd hx hb dX4_act_192 ?_
      refine lv_dup2_11 hx hb dX4_act_193 rfl rfl ?_
      obtain ⟨hin, hf⟩ := ck_inv hf
      refine va_iald hx hb hK.1 T.1 6 0 rfl rfl hin dX4_act_194 ?_
      refine lv_iconst (v := 1) hx hb dX4_act_195 (by decide) ?_
      refine lv_iadd hx hb dX4_act_196 ?_
      obtain ⟨hin, hf⟩ := ck_inv hf
      obtain ⟨S2, e_S2, hf⟩ := nm_inv hf
      refine va_iast hx hb hK.1 T.1 T.2.1 T.2.2 6 0 rfl rfl hin dX4_act_197 (fun H locs hP hD hS => ?_)
      have T : ST D (wM cy ad Xr) A s S2 H locs := ⟨by rw [e_S2]; exact hP, by rw [e_S2]; exact hD, hS⟩
      exact j_198 y1 y3 S2 _ _ _ hf T (lv_sub hl [0, 1, 2] rfl)
  have j_135 : ∀ (y1 : Int32) (y2 : Int32) (y3 : Int32) (z1 : Int32) (z2 : Int32) (S_135 : SC) (H : Heap) (locs : List Loc) (ls : Array Slot), fX4_act_j135 y1 y2 y3 z1 z2 S_135 = some r → ST D (wM cy ad Xr) A s S_135 H locs → lv_has ls 9 [(0, .ref (ad 0)), (1, .int y1), (2, .int y2), (3, .int y3)] → W p l e ({ frames := 2, cells := 0, slots := 0, locals := 46 } : Room) s m [.ref (ad 0), .int x1, .int x2].toArray below meth c H locs 0 0 (MQ below (QG D (wM cy ad Xr) A none r) [.ref (ad 0), .int x1, .int x2].toArray s 0 0 A) (F0 m 135 ls [.int z2, .int z1, .ref (ad 5)]) := by
    intro y1 y2 y3 z1 z2 S_135 H locs ls hf T hl
    unfold fX4_act_j135 at hf
    obtain ⟨hin, hf⟩ := ck_inv hf
    obtain ⟨S3, e_S3, hf⟩ := nm_inv hf
    refine va_zast hx hb hK.1 T.1 T.2.1 T.2.2 3 1 rfl rfl hin dX4_act_135 (fun H locs hP hD hS => ?_)
    have T : ST D (wM cy ad Xr) A s S3 H locs := ⟨by rw [e_S3]; exact hP, by rw [e_S3]; exact hD, hS⟩
    refine lv_iload_n hx hb dX4_act_136 rfl (lv_at hl 2 rfl) ?_
    refine lv_bipush (v := 100) hx hb dX4_act_137 (by decide) ?_
    refine lv_irem hx hb dX4_act_139 (by decide) ?_
    refine lv_topi (fun v4 e_v4 => ?_)
    replace hf := nm_use hf e_v4
    refine lv_istore (lv' := [(8, .int v4), (0, .ref (ad 0)), (1, .int y1), (2, .int y2), (3, .int y3)]) hx hb dX4_act_140 hl (by decide) rfl (fun ls hl => ?_)
    refine lv_iload hx hb dX4_act_142 (lv_at hl 0 rfl) ?_
    refine lv_bipush (v := 50) hx hb dX4_act_144 (by decide) ?_
    refine lv_icmp_lt (tgt := 175) hx hb dX4_act_146 (by decide) (fun hc => ?_) (fun hc => ?_)
    · replace hf := ifp hc hf
      exact j_175 y1 y3 v4 S3 _ _ _ hf T (lv_sub hl [1, 2, 4, 0] rfl)
    · replace hf := ifn hc hf
      refine lv_iload hx hb dX4_act_149 (lv_at hl 0 rfl) ?_
      refine lv_bipush (v := 99) hx hb dX4_act_151 (by decide) ?_
      refine lv_icmp_eq (tgt := 175) hx hb dX4_act_153 (by decide) (fun hc => ?_) (fun hc => ?_)
      · replace hf := ifp hc hf
        exact j_175 y1 y3 v4 S3 _ _ _ hf T (lv_sub hl [1, 2, 4, 0] rfl)
      · replace hf := ifn hc hf
        refine lv_aload_n hx hb dX4_act_156 rfl (lv_at hl 1 rfl) ?_
        refine va_get (D := D) (ci := 4) (v := .ref (ad 2)) (C := RX4) (T := TX4) (N := 16) hx hb hts hin_X4 hown hK.1 T.1 8 rfl rfl 5 (by decide) (hts _ (List.mem_of_getElem? (i := 5) rfl)) (fun _ h9 => h9) rfl dX4_act_157 ?_
        refine lv_bipush (v := 25) hx hb dX4_act_160 (by decide) ?_
        refine lv_iload_n hx hb dX4_act_162 rfl (lv_at hl 2 rfl) ?_
        refine lv_imul hx hb dX4_act_163 ?_
        refine lv_iload hx hb dX4_act_164 (lv_at hl 0 rfl) ?_
        refine lv_iadd hx hb dX4_act_166 ?_
        refine lv_bipush (v := 50) hx hb dX4_act_167 (by decide) ?_
        refine lv_isub hx hb dX4_act_169 ?_
        refine lv_iconst (v := 4) hx hb dX4_act_170 (by decide) ?_
        obtain ⟨hin, hf⟩ := ck_inv hf
        obtain ⟨S5, e_S5, hf⟩ := nm_inv hf
        refine va_iast hx hb hK.1 T.1 T.2.1 T.2.2 6 0 rfl rfl hin dX4_act_171 (fun H locs hP hD hS => ?_)
        have T : ST D (wM cy ad Xr) A s S5 H locs := ⟨by rw [e_S5]; exact hP, by rw [e_S5]; exact hD, hS⟩
        refine lv_goto (tgt := 198) hx hb dX4_act_172 (by decide) ?_
        exact j_198 y1 y3 S5 _ _ _ hf T (lv_sub hl [1, 2, 4] rfl)
  have j_134 : ∀ (y1 : Int32) (y2 : Int32) (y3 : Int32) (z1 : Int32) (S_134 : SC) (H : Heap) (locs : List Loc) (ls : Array Slot), fX4_act_j134 y1 y2 y3 z1 S_134 = some r → ST D (wM cy ad Xr) A s S_134 H locs → lv_has ls 9 [(0, .ref (ad 0)), (1, .int y1), (2, .int y2), (3, .int y3)] → W p l e ({ frames := 2, cells := 0, slots := 0, locals := 46 } : Room) s m [.ref (ad 0), .int x1, .int x2].toArray below meth c H locs 0 0 (MQ below (QG D (wM cy ad Xr) A none r) [.ref (ad 0), .int x1, .int x2].toArray s 0 0 A) (F0 m 134 ls [.int z1, .ref (ad 5)]) := by
    intro y1 y2 y3 z1 S_134 H locs ls hf T hl
    unfold fX4_act_j134 at hf
    refine lv_iconst (v := 0) hx hb dX4_act_134 (by decide) ?_
    exact j_135 y1 y2 y3 z1 0 S_134 _ _ _ hf T (lv_sub hl [0, 1, 2, 3] rfl)
  have j_89 : ∀ (y1 : Int32) (y2 : Int32) (y3 : Int32) (y4 : Int32) (y5 : Int32) (y6 : Int32) (S_89 : SC) (H : Heap) (locs : List Loc) (ls : Array Slot), fX4_act_j89 y1 y2 y3 y4 y5 y6 S_89 = some r → ST D (wM cy ad Xr) A s S_89 H locs → lv_has ls 9 [(0, .ref (ad 0)), (1, .int y1), (2, .int y2), (3, .int y3), (4, .int y4), (5, .int y5), (6, .int y6)] → W p l e ({ frames := 2, cells := 0, slots := 0, locals := 46 } : Room) s m [.ref (ad 0), .int x1, .int x2].toArray below meth c H locs 0 0 (MQ below (QG D (wM cy ad Xr) A none r) [.ref (ad 0), .int x1, .int x2].toArray s 0 0 A) (F0 m 89 ls []) := by
    intro y1 y2 y3 y4 y5 y6 S_89 H locs ls hf T hl
    unfold fX4_act_j89 at hf
    refine lv_aload_n hx hb dX4_act_89 rfl (lv_at hl 0 rfl) ?_
    refine va_get (D := D) (ci := 4) (v := .ref (ad 3)) (C := RX4) (T := TX4) (N := 16) hx hb hts hin_X4 hown hK.1 T.1 8 rfl rfl 6 (by decide) (hts _ (List.mem_of_getElem? (i := 2) rfl)) (fun _ h9 => h9) rfl dX4_act_90 ?_
    refine lv_iload hx hb dX4_act_93 (lv_at hl 4 rfl) ?_
    refine lv_iload hx hb dX4_act_95 (lv_at hl 6 rfl) ?_
    obtain ⟨hin, hf⟩ := ck_inv hf
    obtain ⟨S6, e_S6, hf⟩ := nm_inv hf
    refine va_iast hx hb hK.1 T.1 T.2.1 T.2.2 5 0 rfl rfl hin dX4_act_97 (fun H locs hP hD hS => ?_)
    have T : ST D (wM cy ad Xr) A s S6 H locs := ⟨by rw [e_S6]; exact hP, by rw [e_S6]; exact hD, hS⟩
    refine lv_aload_n hx hb dX4_act_98 rfl (lv_at hl 0 rfl) ?_
    refine va_get (D := D) (ci := 4) (v := .ref (ad 5)) (C := RX4) (T := TX4) (N := 16) hx hb hts hin_X4 hown hK.1 T.1 8 rfl rfl 8 (by decide) (hts _ (List.mem_of_getElem? (i := 4) rfl)) (fun _ h9 => h9) rfl dX4_act_99 ?_
    refine lv_iload_n hx hb dX4_act_102 rfl (lv_at hl 1 rfl) ?_
    refine lv_aload_n hx hb dX4_act_103 rfl (lv_at hl 0 rfl) ?_
    refine va_get (D := D) (ci := 4) (v := .ref (ad 1)) (C := RX4) (T := TX4) (N := 16) hx hb hts hin_X4 hown hK.1 T.1 8 rfl rfl 4 (by decide) (hts _ (List.mem_of_getElem? (i := 3) rfl)) (fun _ h9 => h9) rfl dX4_act_104 ?_
    refine lv_iload_n hx hb dX4_act_107 rfl (lv_at hl 3 rfl) ?_
    obtain ⟨hin, hf⟩ := ck_inv hf
    refine va_iald hx hb hK.1 T.1 7 0 rfl rfl hin dX4_act_108 ?_
    refine lv_iconst (v := 4) hx hb dX4_act_109 (by decide) ?_
    refine lv_icmp_ne (tgt := 134) hx hb dX4_act_110 (by decide) (fun hc => ?_) (fun hc => ?_)
    · replace hf := ifn hc hf
      exact j_134 y1 y2 y3 y1 S6 _ _ _ hf T (lv_sub hl [0, 1, 2, 3] rfl)
    · replace hf := ifp hc hf
      refine lv_aload_n hx hb dX4_act_113 rfl (lv_at hl 0 rfl) ?_
      refine lv_iload_n hx hb dX4_act_114 rfl (lv_at hl 1 rfl) ?_
      refine lv_iload hx hb dX4_act_115 (lv_at hl 6 rfl) ?_
      obtain ⟨v8, h7, hf⟩ := bnd_inv hf
      refine cg_V (q0 := 8) (ci := 4) (As := [.int y1, .int y6]) (rest := [.int y1, .ref (ad 5)]) X T (kX4_high l D cy ad Xr S6 y1 y6 v8 h7) (cwV 2 hts gX4_act_X4_high rfl rfl rfl (by decide +kernel) ⟨Nat.le_of_ble_eq_true rfl, Nat.le_of_ble_eq_true rfl⟩) rfl rfl rfl hl.1 rfl (Nat.le_of_ble_eq_true rfl) dX4_act_117 ⟨Nat.zero_le _, Nat.zero_le _⟩ (st2 := [.int v8, .int y1, .ref (ad 5)]) (pc2 := 120) rfl rfl (fun H locs T => ?_)
      refine lv_aload_n hx hb dX4_act_120 rfl (lv_at hl 0 rfl) ?_
      refine lv_iload_n hx hb dX4_act_121 rfl (lv_at hl 1 rfl) ?_
      refine lv_iload hx hb dX4_act_122 (lv_at hl 5 rfl) ?_
      obtain ⟨v10, h9, hf⟩ := bnd_inv hf
      refine cg_V (q0 := 8) (ci := 4) (As := [.int y1, .int y5]) (rest := [.int v8, .int y1, .ref (ad 5)]) X T (kX4_high l D cy ad Xr S6 y1 y5 v10 h9) (cwV 2 hts gX4_act_X4_high rfl rfl rfl (by decide +kernel) ⟨Nat.le_of_ble_eq_true rfl, Nat.le_of_ble_eq_true rfl⟩) rfl rfl rfl hl.1 rfl (Nat.le_of_ble_eq_true rfl) dX4_act_124 ⟨Nat.zero_le _, Nat.zero_le _⟩ (st2 := [.int v10, .int v8, .int y1, .ref (ad 5)]) (pc2 := 127) rfl rfl (fun H locs T => ?_)
      refine lv_icmp_le (tgt := 134) hx hb dX4_act_127 (by decide) (fun hc => ?_) (fun hc => ?_)
      · replace hf := ifp hc hf
        exact j_134 y1 y2 y3 y1 S6 _ _ _ hf T (lv_sub hl [0, 1, 2, 3] rfl)
      · replace hf := ifn hc hf
        refine lv_iconst (v := 1) hx hb dX4_act_130 (by decide) ?_
        refine lv_goto (tgt := 135) hx hb dX4_act_131 (by decide) ?_
        exact j_135 y1 y2 y3 y1 1 S6 _ _ _ hf T (lv_sub hl [0, 1, 2, 3] rfl)
  have j_88 : ∀ (y1 : Int32) (y2 : Int32) (y3 : Int32) (y4 : Int32) (y5 : Int32) (y6 : Int32) (z1 : Int32) (z2 : Int32) (S_88 : SC) (H : Heap) (locs : List Loc) (ls : Array Slot), fX4_act_j88 y1 y2 y3 y4 y5 y6 z1 z2 S_88 = some r → ST D (wM cy ad Xr) A s S_88 H locs → lv_has ls 9 [(0, .ref (ad 0)), (1, .int y1), (2, .int y2), (3, .int y3), (4, .int y4), (5, .int y5), (6, .int y6)] → W p l e ({ frames := 2, cells := 0, slots := 0, locals := 46 } : Room) s m [.ref (ad 0), .int x1, .int x2].toArray below meth c H locs 0 0 (MQ below (QG D (wM cy ad Xr) A none r) [.ref (ad 0), .int x1, .int x2].toArray s 0 0 A) (F0 m 88 ls [.int z2, .int z1, .ref (ad 3)]) := by
    intro y1 y2 y3 y4 y5 y6 z1 z2 S_88 H locs ls hf T hl
    unfold fX4_act_j88 at hf
    obtain ⟨hin, hf⟩ := ck_inv hf
    obtain ⟨S11, e_S11, hf⟩ := nm_inv hf
    refine va_iast hx hb hK.1 T.1 T.2.1 T.2.2 5 0 rfl rfl hin dX4_act_88 (fun H locs hP hD hS => ?_)
    have T : ST D (wM cy ad Xr) A s S11 H locs := ⟨by rw [e_S11]; exact hP, by rw [e_S11]; exact hD, hS⟩
    exact j_89 y1 y2 y3 y4 y5 y6 S11 _ _ _ hf T (lv_sub hl [0, 1, 2, 3, 4, 5, 6] rfl)
  refine lv_aload_n hx hb dX4_act_0 rfl (lv_at hl 0 rfl) ?_
  refine va_get (D := D) (ci := 4) (v := .ref (ad 4)) (C := RX4) (T := TX4) (N := 16) hx hb hts hin_X4 hown hK.1 T.1 8 rfl rfl 7 (by decide) (hts _ (List.mem_of_getElem? (i := 1) rfl)) (fun _ h9 => h9) rfl dX4_act_1 ?_
  refine lv_iload_n hx hb dX4_act_4 rfl (lv_at hl 1 rfl) ?_
  obtain ⟨hin, hf⟩ := ck_inv hf
  refine va_iald hx hb hK.1 T.1 4 0 rfl rfl hin dX4_act_5 ?_
  refine lv_topi (fun v12 e_v12 => ?_)
  replace hf := nm_use hf e_v12
  refine lv_istore_n (lv' := [(3, .int v12), (0, .ref (ad 0)), (1, .int x1), (2, .int x2)]) hx hb dX4_act_6 rfl hl (by decide) rfl (fun ls hl => ?_)
  refine lv_iconst (v := 4) hx hb dX4_act_7 (by decide) ?_
  refine lv_iload_n hx hb dX4_act_8 rfl (lv_at hl 2 rfl) ?_
  refine lv_imul hx hb dX4_act_9 ?_
  refine lv_iconst (v := 2) hx hb dX4_act_10 (by decide) ?_
  refine lv_iload_n hx hb dX4_act_11 rfl (lv_at hl 0 rfl) ?_
  refine lv_imul hx hb dX4_act_12 ?_
  refine lv_iadd hx hb dX4_act_13 ?_
  refine lv_iload_n hx hb dX4_act_14 rfl (lv_at hl 3 rfl) ?_
  refine lv_sipush (v := 10000) hx hb dX4_act_15 (by decide) ?_
  refine lv_idiv hx hb dX4_act_18 (by decide) ?_
  refine lv_iadd hx hb dX4_act_19 ?_
  refine lv_topi (fun v13 e_v13 => ?_)
  replace hf := nm_use hf e_v13
  refine lv_istore (lv' := [(4, .int v13), (3, .int v12), (0, .ref (ad 0)), (1, .int x1), (2, .int x2)]) hx hb dX4_act_20 hl (by decide) rfl (fun ls hl => ?_)
  refine lv_aload_n hx hb dX4_act_22 rfl (lv_at hl 2 rfl) ?_
  refine va_get (D := D) (ci := 4) (v := .ref (ad 3)) (C := RX4) (T := TX4) (N := 16) hx hb hts hin_X4 hown hK.1 T.1 8 rfl rfl 6 (by decide) (hts _ (List.mem_of_getElem? (i := 2) rfl)) (fun _ h9 => h9) rfl dX4_act_23 ?_
  refine lv_iload hx hb dX4_act_26 (lv_at hl 0 rfl) ?_
  obtain ⟨hin, hf⟩ := ck_inv hf
  refine va_iald hx hb hK.1 T.1 5 0 rfl rfl hin dX4_act_28 ?_
  refine lv_topi (fun v14 e_v14 => ?_)
  replace hf := nm_use hf e_v14
  refine lv_istore (lv' := [(5, .int v14), (4, .int v13), (3, .int v12), (0, .ref (ad 0)), (1, .int x1), (2, .int x2)]) hx hb dX4_act_29 hl (by decide) rfl (fun ls hl => ?_)
  refine lv_iload_n hx hb dX4_act_31 rfl (lv_at hl 5 rfl) ?_
  refine lv_bipush (v := 100) hx hb dX4_act_32 (by decide) ?_
  refine lv_idiv hx hb dX4_act_34 (by decide) ?_
  refine lv_bipush (v := 100) hx hb dX4_act_35 (by decide) ?_
  refine lv_irem hx hb dX4_act_37 (by decide) ?_
  refine lv_topi (fun v15 e_v15 => ?_)
  replace hf := nm_use hf e_v15
  refine lv_istore (lv' := [(6, .int v15), (5, .int v14), (4, .int v13), (3, .int v12), (0, .ref (ad 0)), (1, .int x1), (2, .int x2)]) hx hb dX4_act_38 hl (by decide) rfl (fun ls hl => ?_)
  refine lv_aload_n hx hb dX4_act_40 rfl (lv_at hl 4 rfl) ?_
  refine lv_iload_n hx hb dX4_act_41 rfl (lv_at hl 5 rfl) ?_
  refine lv_iload hx hb dX4_act_42 (lv_at hl 0 rfl) ?_
  obtain ⟨v17, h16, hf⟩ := bnd_inv hf
  refine cg_V (q0 := 8) (ci := 4) (As := [.int x1, .int v15]) (rest := []) X T (kX4_builderIn l D cy ad Xr S x1 v15 v17 h16) (cwV 2 hts gX4_act_X4_builderIn rfl rfl rfl (by decide +kernel) ⟨Nat.le_of_ble_eq_true rfl, Nat.le_of_ble_eq_true rfl⟩) rfl rfl rfl hl.1 rfl (Nat.le_of_ble_eq_true rfl) dX4_act_44 ⟨Nat.zero_le _, Nat.zero_le _⟩ (st2 := [.int v17]) (pc2 := 47) rfl rfl (fun H locs T => ?_)
  refine lv_istore (lv' := [(7, .int v17), (6, .int v15), (5, .int v14), (4, .int v13), (3, .int v12), (0, .ref (ad 0)), (1, .int x1), (2, .int x2)]) hx hb dX4_act_47 hl (by decide) rfl (fun ls hl => ?_)
  refine lv_iload hx hb dX4_act_49 (lv_at hl 0 rfl) ?_
  refine lv_iconst (v := (-1)) hx hb dX4_act_51 (by decide) ?_
  refine lv_icmp_eq (tgt := 89) hx hb dX4_act_52 (by decide) (fun hc => ?_) (fun hc => ?_)
  · replace hf := ifp hc hf
    exact j_89 x1 x2 v12 v13 v14 v15 S _ _ _ hf T (lv_sub hl [5, 6, 7, 4, 3, 2, 1] rfl)
  · replace hf := ifn hc hf
    refine lv_aload_n hx hb dX4_act_55 rfl (lv_at hl 5 rfl) ?_
    refine va_get (D := D) (ci := 4) (v := .ref (ad 3)) (C := RX4) (T := TX4) (N := 16) hx hb hts hin_X4 hown hK.1 T.1 8 rfl rfl 6 (by decide) (hts _ (List.mem_of_getElem? (i := 2) rfl)) (fun _ h9 => h9) rfl dX4_act_56 ?_
    refine lv_iconst (v := 4) hx hb dX4_act_59 (by decide) ?_
    refine lv_iload_n hx hb dX4_act_60 rfl (lv_at hl 6 rfl) ?_
    refine lv_imul hx hb dX4_act_61 ?_
    refine lv_iload hx hb dX4_act_62 (lv_at hl 0 rfl) ?_
    refine lv_iadd hx hb dX4_act_64 ?_
    refine lv_aload_n hx hb dX4_act_65 rfl (lv_at hl 5 rfl) ?_
    refine va_get (D := D) (ci := 4) (v := .ref (ad 1)) (C := RX4) (T := TX4) (N := 16) hx hb hts hin_X4 hown hK.1 T.1 8 rfl rfl 4 (by decide) (hts _ (List.mem_of_getElem? (i := 3) rfl)) (fun _ h9 => h9) rfl dX4_act_66 ?_
    refine lv_iload_n hx hb dX4_act_69 rfl (lv_at hl 4 rfl) ?_
    obtain ⟨hin, hf⟩ := ck_inv hf
    refine va_iald hx hb hK.1 T.1 7 0 rfl rfl hin dX4_act_70 ?_
    refine lv_iconst (v := 2) hx hb dX4_act_71 (by decide) ?_
    refine lv_icmp_ne (tgt := 80) hx hb dX4_act_72 (by decide) (fun hc => ?_) (fun hc => ?_)
    · replace hf := ifn hc hf
      refine lv_aload_n hx hb dX4_act_80 rfl (lv_at hl 5 rfl) ?_
      refine lv_iload hx hb dX4_act_81 (lv_at hl 2 rfl) ?_
      refine lv_iload hx hb dX4_act_83 (lv_at hl 1 rfl) ?_
      obtain ⟨v19, h18, hf⟩ := bnd_inv hf
      refine cg_V (q0 := 8) (ci := 4) (As := [.int v14, .int v15]) (rest := [.int (((4 : Int32) * x1) + v17), .ref (ad 3)]) X T (kX4_beyond l D cy ad Xr S v14 v15 v19 h18) (cwV 2 hts gX4_act_X4_beyond rfl rfl rfl (by decide +kernel) ⟨Nat.le_of_ble_eq_true rfl, Nat.le_of_ble_eq_true rfl⟩) rfl rfl rfl hl.1 rfl (Nat.le_of_ble_eq_true rfl) dX4_act_85 ⟨Nat.zero_le _, Nat.zero_le _⟩ (st2 := [.int v19, .int (((4 : Int32) * x1) + v17), .ref (ad 3)]) (pc2 := 88) rfl rfl (fun H locs T => ?_)
      exact j_88 x1 x2 v12 v13 v14 v15 (((4 : Int32) * x1) + v17) v19 S _ _ _ hf T (lv_sub hl [5, 6, 7, 4, 3, 2, 1] rfl)
    · replace hf := ifp hc hf
      refine lv_iload hx hb dX4_act_75 (lv_at hl 2 rfl) ?_
      refine lv_goto (tgt := 88) hx hb dX4_act_77 (by decide) ?_
      exact j_88 x1 x2 v12 v13 v14 v15 (((4 : Int32) * x1) + v17) v14 S _ _ _ hf T (lv_sub hl [5, 6, 7, 4, 3, 2, 1] rfl)

noncomputable def fX4_judge_j30 (z1 : Int32) (S_30 : SC) : Option SC :=
  nm (setS S_30 5 z1 : SC) fun S1 =>
  some S1
noncomputable def fX4_judge_j29 (S_29 : SC) : Option SC :=
  fX4_judge_j30 (-1) S_29
noncomputable def fX4_judge (S : SC) : Option SC :=
  bnd (fX4_isPlaced S) fun v3 =>
  if v3 = 0 then
    fX4_judge_j29 S
  else
    bnd (fX4_nextTurn S 0 (-1)) fun v5 =>
    if v5 = (-1) then
      ck 0 5 <|
      fX4_judge_j30 ((1 : Int32) - (S.2 3 (0 : Int32).toNatClampNeg)) S
    else
      fX4_judge_j29 S
set_option maxHeartbeats 4000000 in
set_option maxRecDepth 100000 in
theorem kX4_judge (l : Launch) (D : va_G) (cy : Nat → ClassId) (ad : Nat → Nat) (Xr : va_W) (S : SC) (r : SC) (hf : fX4_judge S = some r) : CG l D cy (wM cy ad Xr) yX4_judge wsX4_judge ({ frames := 6, cells := 0, slots := 0, locals := 152 } : Room) [.ref (ad 0)] S none r := by
  refine CG.of (cc := cX4_judge) (maxL := 1) (ret := none) (by decide +kernel) rfl (Nat.le_of_ble_eq_true rfl) ?_
  intro p e s m below meth c A ls X hr T hl
  obtain ⟨hx, hb, hml, hown, hts, hlk, hK, hA, hwA⟩ := id X
  have hl : lv_has ls 1 [(0, .ref (ad 0))] := hl
  have hin_X4 : ∀ w ∈ u_ws RX4 TX4 16, w ∈ wsX4_judge := fun w h => (List.mem_cons_of_mem _ (List.mem_append_right _ h))
  unfold fX4_judge at hf
  have j_30 : ∀ (z1 : Int32) (S_30 : SC) (H : Heap) (locs : List Loc) (ls : Array Slot), fX4_judge_j30 z1 S_30 = some r → ST D (wM cy ad Xr) A s S_30 H locs → lv_has ls 1 [] → W p l e ({ frames := 6, cells := 0, slots := 0, locals := 152 } : Room) s m [.ref (ad 0)].toArray below meth c H locs 0 0 (MQ below (QG D (wM cy ad Xr) A none r) [.ref (ad 0)].toArray s 0 0 A) (F0 m 30 ls [.int z1, .ref (ad 0)]) := by
    intro z1 S_30 H locs ls hf T hl
    unfold fX4_judge_j30 at hf
    obtain ⟨S1, e_S1, hf⟩ := nm_inv hf
    refine va_put (D := D) (ci := 4) (v := .int z1) (ty := .int) (C := RX4) (T := TX4) (N := 16) hx hb hts hin_X4 tyX4 tyX4_ok nmX4 hown hK.1 T.1 T.2.1 T.2.2 8 rfl rfl 10 (by decide) (hts _ (List.mem_of_getElem? (i := 2) rfl)) (fun _ h9 => h9) rfl (by decide +kernel) rfl rfl (Nat.le_of_ble_eq_true rfl) dX4_judge_30 (fun H locs hP hD hS => ?_)
    have T : ST D (wM cy ad Xr) A s S1 H locs := ⟨by rw [e_S1]; exact hP, by rw [e_S1]; exact hD, hS⟩
    exact rf_vw hf X T hr dX4_judge_33
  have j_29 : ∀ (S_29 : SC) (H : Heap) (locs : List Loc) (ls : Array Slot), fX4_judge_j29 S_29 = some r → ST D (wM cy ad Xr) A s S_29 H locs → lv_has ls 1 [] → W p l e ({ frames := 6, cells := 0, slots := 0, locals := 152 } : Room) s m [.ref (ad 0)].toArray below meth c H locs 0 0 (MQ below (QG D (wM cy ad Xr) A none r) [.ref (ad 0)].toArray s 0 0 A) (F0 m 29 ls [.ref (ad 0)]) := by
    intro S_29 H locs ls hf T hl
    unfold fX4_judge_j29 at hf
    refine lv_iconst (v := (-1)) hx hb dX4_judge_29 (by decide) ?_
    exact j_30 (-1) S_29 _ _ _ hf T (lv_sub hl [] rfl)
  refine lv_aload_n hx hb dX4_judge_0 rfl (lv_at hl 0 rfl) ?_
  refine lv_aload_n hx hb dX4_judge_1 rfl (lv_at hl 0 rfl) ?_
  obtain ⟨v3, h2, hf⟩ := bnd_inv hf
  refine cg_V (q0 := 8) (ci := 4) (As := []) (rest := [.ref (ad 0)]) X T (kX4_isPlaced l D cy ad Xr S v3 h2) (cwV 0 hts gX4_judge_X4_isPlaced rfl rfl rfl (by decide +kernel) ⟨Nat.le_of_ble_eq_true rfl, Nat.le_of_ble_eq_true rfl⟩) rfl rfl rfl hl.1 rfl (Nat.le_of_ble_eq_true rfl) dX4_judge_2 ⟨Nat.zero_le _, Nat.zero_le _⟩ (st2 := [.int v3, .ref (ad 0)]) (pc2 := 5) rfl rfl (fun H locs T => ?_)
  refine lv_if_eq (tgt := 29) hx hb dX4_judge_5 (by decide) (fun hc => ?_) (fun hc => ?_)
  · replace hf := ifp hc hf
    exact j_29 S _ _ _ hf T (lv_sub hl [] rfl)
  · replace hf := ifn hc hf
    refine lv_aload_n hx hb dX4_judge_8 rfl (lv_at hl 0 rfl) ?_
    refine lv_iconst (v := 0) hx hb dX4_judge_9 (by decide) ?_
    refine lv_iconst (v := (-1)) hx hb dX4_judge_10 (by decide) ?_
    obtain ⟨v5, h4, hf⟩ := bnd_inv hf
    refine cg_V (q0 := 8) (ci := 4) (As := [.int 0, .int (-1)]) (rest := [.ref (ad 0)]) X T (kX4_nextTurn l D cy ad Xr S 0 (-1) v5 h4) (cwV 2 hts gX4_judge_X4_nextTurn rfl rfl rfl (by decide +kernel) ⟨Nat.le_of_ble_eq_true rfl, Nat.le_of_ble_eq_true rfl⟩) rfl rfl rfl hl.1 rfl (Nat.le_of_ble_eq_true rfl) dX4_judge_11 ⟨Nat.zero_le _, Nat.zero_le _⟩ (st2 := [.int v5, .ref (ad 0)]) (pc2 := 14) rfl rfl (fun H locs T => ?_)
    refine lv_iconst (v := (-1)) hx hb dX4_judge_14 (by decide) ?_
    refine lv_icmp_ne (tgt := 29) hx hb dX4_judge_15 (by decide) (fun hc => ?_) (fun hc => ?_)
    · replace hf := ifn hc hf
      exact j_29 S _ _ _ hf T (lv_sub hl [] rfl)
    · replace hf := ifp hc hf
      refine lv_iconst (v := 1) hx hb dX4_judge_18 (by decide) ?_
      refine lv_aload_n hx hb dX4_judge_19 rfl (lv_at hl 0 rfl) ?_
      refine va_get (D := D) (ci := 4) (v := .ref (ad 4)) (C := RX4) (T := TX4) (N := 16) hx hb hts hin_X4 hown hK.1 T.1 8 rfl rfl 7 (by decide) (hts _ (List.mem_of_getElem? (i := 1) rfl)) (fun _ h9 => h9) rfl dX4_judge_20 ?_
      refine lv_iconst (v := 0) hx hb dX4_judge_23 (by decide) ?_
      obtain ⟨hin, hf⟩ := ck_inv hf
      refine va_iald hx hb hK.1 T.1 4 0 rfl rfl hin dX4_judge_24 ?_
      refine lv_isub hx hb dX4_judge_25 ?_
      refine lv_goto (tgt := 30) hx hb dX4_judge_26 (by decide) ?_
      exact j_30 ((1 : Int32) - (S.2 3 (0 : Int32).toNatClampNeg)) S _ _ _ hf T (lv_sub hl [] rfl)

noncomputable def fX4_onTurnNow (S : SC) : Option Int32 :=
  if S.1 5 = (-1) then
    bnd (fX4_isPlaced S) fun v2 =>
    if v2 = 0 then
      cp (¬ S.1 3 = 0) <|
      some ((S.1 4) / (S.1 3))
    else
      ck 0 5 <|
      some (S.2 3 (0 : Int32).toNatClampNeg)
  else
    some (-1)
set_option maxHeartbeats 4000000 in
set_option maxRecDepth 100000 in
theorem kX4_onTurnNow (l : Launch) (D : va_G) (cy : Nat → ClassId) (ad : Nat → Nat) (Xr : va_W) (S : SC) (r : Int32) (hf : fX4_onTurnNow S = some r) : CG l D cy (wM cy ad Xr) yX4_onTurnNow wsX4_onTurnNow ({ frames := 1, cells := 0, slots := 0, locals := 20 } : Room) [.ref (ad 0)] S (some (.int r)) S := by
  refine CG.of (cc := cX4_onTurnNow) (maxL := 1) (ret := (some .int)) (by decide +kernel) rfl (Nat.le_of_ble_eq_true rfl) ?_
  intro p e s m below meth c A ls X hr T hl
  obtain ⟨hx, hb, hml, hown, hts, hlk, hK, hA, hwA⟩ := id X
  have hl : lv_has ls 1 [(0, .ref (ad 0))] := hl
  have hin_X4 : ∀ w ∈ u_ws RX4 TX4 16, w ∈ wsX4_onTurnNow := fun w h => (List.mem_cons_of_mem _ (List.mem_append_right _ h))
  unfold fX4_onTurnNow at hf
  refine lv_aload_n hx hb dX4_onTurnNow_0 rfl (lv_at hl 0 rfl) ?_
  refine va_get (D := D) (ci := 4) (v := .int (S.1 5)) (C := RX4) (T := TX4) (N := 16) hx hb hts hin_X4 hown hK.1 T.1 8 rfl rfl 10 (by decide) (hts _ (List.mem_of_getElem? (i := 1) rfl)) (fun _ h9 => h9) rfl dX4_onTurnNow_1 ?_
  refine lv_iconst (v := (-1)) hx hb dX4_onTurnNow_4 (by decide) ?_
  refine lv_icmp_eq (tgt := 12) hx hb dX4_onTurnNow_5 (by decide) (fun hc => ?_) (fun hc => ?_)
  · replace hf := ifp hc hf
    refine lv_aload_n hx hb dX4_onTurnNow_12 rfl (lv_at hl 0 rfl) ?_
    obtain ⟨v2, h1, hf⟩ := bnd_inv hf
    refine cg_V (q0 := 8) (ci := 4) (As := []) (rest := []) X T (kX4_isPlaced l D cy ad Xr S v2 h1) (cwV 0 hts gX4_onTurnNow_X4_isPlaced rfl rfl rfl (by decide +kernel) ⟨Nat.le_of_ble_eq_true rfl, Nat.le_of_ble_eq_true rfl⟩) rfl rfl rfl hl.1 rfl (Nat.le_of_ble_eq_true rfl) dX4_onTurnNow_13 ⟨Nat.zero_le _, Nat.zero_le _⟩ (st2 := [.int v2]) (pc2 := 16) rfl rfl (fun H locs T => ?_)
    refine lv_if_eq (tgt := 28) hx hb dX4_onTurnNow_16 (by decide) (fun hc => ?_) (fun hc => ?_)
    · replace hf := ifp hc hf
      refine lv_aload_n hx hb dX4_onTurnNow_28 rfl (lv_at hl 0 rfl) ?_
      refine va_get (D := D) (ci := 4) (v := .int (S.1 4)) (C := RX4) (T := TX4) (N := 16) hx hb hts hin_X4 hown hK.1 T.1 8 rfl rfl 9 (by decide) (hts _ (List.mem_of_getElem? (i := 3) rfl)) (fun _ h9 => h9) rfl dX4_onTurnNow_29 ?_
      refine lv_aload_n hx hb dX4_onTurnNow_32 rfl (lv_at hl 0 rfl) ?_
      refine va_get (D := D) (ci := 4) (v := .int (S.1 3)) (C := RX4) (T := TX4) (N := 16) hx hb hts hin_X4 hown hK.1 T.1 8 rfl rfl 3 (by decide) (hts _ (List.mem_of_getElem? (i := 4) rfl)) (fun _ h9 => h9) rfl dX4_onTurnNow_33 ?_
      obtain ⟨hne, hf⟩ := cp_inv hf
      refine lv_idiv hx hb dX4_onTurnNow_36 hne ?_
      exact rf_i hf X T hr dX4_onTurnNow_37
    · replace hf := ifn hc hf
      refine lv_aload_n hx hb dX4_onTurnNow_19 rfl (lv_at hl 0 rfl) ?_
      refine va_get (D := D) (ci := 4) (v := .ref (ad 4)) (C := RX4) (T := TX4) (N := 16) hx hb hts hin_X4 hown hK.1 T.1 8 rfl rfl 7 (by decide) (hts _ (List.mem_of_getElem? (i := 2) rfl)) (fun _ h9 => h9) rfl dX4_onTurnNow_20 ?_
      refine lv_iconst (v := 0) hx hb dX4_onTurnNow_23 (by decide) ?_
      obtain ⟨hin, hf⟩ := ck_inv hf
      refine va_iald hx hb hK.1 T.1 4 0 rfl rfl hin dX4_onTurnNow_24 ?_
      refine lv_goto (tgt := 37) hx hb dX4_onTurnNow_25 (by decide) ?_
      exact rf_i hf X T hr dX4_onTurnNow_37
  · replace hf := ifn hc hf
    refine lv_iconst (v := (-1)) hx hb dX4_onTurnNow_8 (by decide) ?_
    refine lv_goto (tgt := 37) hx hb dX4_onTurnNow_9 (by decide) ?_
    exact rf_i hf X T hr dX4_onTurnNow_37
