noncomputable def fX4_canCome_j187 (S : SC) (y1 : Int32) (y3 : Int32) (y4 : Int32) (y5 : Int32) (y7 : Int32) (z0 : Int32) : Option ((Int32 × Int32) ⊕ Int32) :=
  nm (y7 + 1 : Int32) fun v1 =>
  some (.inl (z0, v1))
noncomputable def fX4_canCome_j182 (S : SC) (y1 : Int32) (y3 : Int32) (y4 : Int32) (y5 : Int32) (y7 : Int32) : Option ((Int32 × Int32) ⊕ Int32) :=
  fX4_canCome_j187 S y1 y3 y4 y5 y7 1
noncomputable def fX4_canCome_j186 (S : SC) (y1 : Int32) (y3 : Int32) (y4 : Int32) (y5 : Int32) (y7 : Int32) : Option ((Int32 × Int32) ⊕ Int32) :=
  fX4_canCome_j187 S y1 y3 y4 y5 y7 0
noncomputable def fX4_canCome_j136 (S : SC) (y1 : Int32) (y3 : Int32) (y4 : Int32) (y5 : Int32) (y6 : Int32) (y7 : Int32) (z0 : Int32) : Option ((Int32 × Int32) ⊕ Int32) :=
  if y6 = 0 then
    if z0 = 0 then
      fX4_canCome_j186 S y1 y3 y4 y5 y7
    else
      bnd (fX4_isStep S y1 y7 y3) fun v3 =>
      if v3 = 0 then
        fX4_canCome_j186 S y1 y3 y4 y5 y7
      else
        bnd (fX4_builderIn S y1 y3) fun v5 =>
        if v5 = (-1) then
          bnd (fX4_isWinning S y1 y7 y3) fun v7 =>
          if v7 = y4 then
            fX4_canCome_j182 S y1 y3 y4 y5 y7
          else
            fX4_canCome_j186 S y1 y3 y4 y5 y7
        else
          fX4_canCome_j186 S y1 y3 y4 y5 y7
  else
    fX4_canCome_j182 S y1 y3 y4 y5 y7
noncomputable def fX4_canCome_j135 (S : SC) (y1 : Int32) (y3 : Int32) (y4 : Int32) (y5 : Int32) (y6 : Int32) (y7 : Int32) : Option ((Int32 × Int32) ⊕ Int32) :=
  fX4_canCome_j136 S y1 y3 y4 y5 y6 y7 0
noncomputable def fX4_canCome_b72 (S : SC) (y1 : Int32) (y3 : Int32) (y4 : Int32) (y5 : Int32) : (Int32 × Int32) → Option ((Int32 × Int32) ⊕ Int32) :=
  fun st => match st with
    | (y6, y7) =>
      bnd (fX4_cells S) fun v9 =>
      if v9 ≤ y7 then
        ex <|
        cp (y6 = 0 ∨ y6 = 1) <|
        some y6
      else
        ck y1 5 <|
        ck (S.2 3 y1.toNatClampNeg) 2 <|
        if S.2 0 (S.2 3 y1.toNatClampNeg).toNatClampNeg = 1 then
          bnd (fX4_isStep S y1 y5 y7) fun v11 =>
          if v11 = 0 then
            fX4_canCome_j135 S y1 y3 y4 y5 y6 y7
          else
            bnd (fX4_builderIn S y1 y7) fun v13 =>
            if v13 = (-1) then
              bnd (fX4_isWinning S y1 y5 y7) fun v15 =>
              if v15 = 0 then
                fX4_canCome_j136 S y1 y3 y4 y5 y6 y7 1
              else
                fX4_canCome_j135 S y1 y3 y4 y5 y6 y7
            else
              fX4_canCome_j135 S y1 y3 y4 y5 y6 y7
        else
          ex <|
          cp (y6 = 0 ∨ y6 = 1) <|
          some y6
noncomputable def fX4_canCome_j66 (S : SC) (y1 : Int32) (y3 : Int32) (y4 : Int32) (y5 : Int32) : Option Int32 :=
  loop (fX4_canCome_b72 S y1 y3 y4 y5) FUEL (0, 0)
noncomputable def fX4_canCome (S : SC) (x1 : Int32) (x2 : Int32) (x3 : Int32) (x4 : Int32) : Option Int32 :=
  ck x1 5 <|
  ck ((((4 : Int32) * x1) + ((2 : Int32) * (S.2 3 x1.toNatClampNeg))) + x2) 20 <|
  nm (S.2 2 ((((4 : Int32) * x1) + ((2 : Int32) * (S.2 3 x1.toNatClampNeg))) + x2).toNatClampNeg : Int32) fun v16 =>
  if v16 = x3 then
    some 0
  else
    bnd (fX4_isStep S x1 v16 x3) fun v18 =>
    if v18 = 0 then
      fX4_canCome_j66 S x1 x3 x4 v16
    else
      bnd (fX4_mayEnter S x1 v16 x3) fun v20 =>
      if v20 = 0 then
        fX4_canCome_j66 S x1 x3 x4 v16
      else
        bnd (fX4_isWinning S x1 v16 x3) fun v22 =>
        if v22 = x4 then
          some 1
        else
          fX4_canCome_j66 S x1 x3 x4 v16
set_option maxHeartbeats 4000000 in
set_option maxRecDepth 100000 in
theorem kX4_canCome (l : Launch) (D : va_G) (cy : Nat → ClassId) (ad : Nat → Nat) (S : SC) (x1 : Int32) (x2 : Int32) (x3 : Int32) (x4 : Int32) (r : Int32) (hf : fX4_canCome S x1 x2 x3 x4 = some r) : CG l D cy (wM cy ad) yX4_canCome wsX4_canCome ({ frames := 3, cells := 0, slots := 0, locals := 72 } : Room) [.ref (ad 0), .int x1, .int x2, .int x3, .int x4] S (some (.int r)) S := by
  refine CG.of (cc := cX4_canCome) (maxL := 9) (ret := (some .boolean)) (by decide +kernel) rfl (Nat.le_of_ble_eq_true rfl) ?_
  intro p e s m below meth c A ls X hr T hl
  obtain ⟨hx, hb, hml, hown, hts, hlk, hK, hA, hwA⟩ := id X
  have hl : lv_has ls 9 [(0, .ref (ad 0)), (1, .int x1), (2, .int x2), (3, .int x3), (4, .int x4)] := hl
  have hin_X4 : ∀ w ∈ u_ws RX4 TX4 16, w ∈ wsX4_canCome := by decide +kernel
  unfold fX4_canCome at hf
  have l_72 : ∀ (y1 : Int32) (y3 : Int32) (y4 : Int32) (y5 : Int32) (n : Nat) (y6 : Int32) (y7 : Int32) (H : Heap) (locs : List Loc) (ls : Array Slot), loop (fX4_canCome_b72 S y1 y3 y4 y5) n (y6, y7) = some r → ST D (wM cy ad) A s S H locs → lv_has ls 9 [(0, .ref (ad 0)), (1, .int y1), (3, .int y3), (4, .int y4), (5, .int y5), (6, .int y6), (7, .int y7)] → W p l e ({ frames := 3, cells := 0, slots := 0, locals := 72 } : Room) s m [.ref (ad 0), .int x1, .int x2, .int x3, .int x4].toArray below meth c H locs 0 0 (MQ below (QG D (wM cy ad) A (some (.int r)) S) [.ref (ad 0), .int x1, .int x2, .int x3, .int x4].toArray s 0 0 A) (F0 m 72 ls []) := by
    intro y1 y3 y4 y5 n
    induction n with
    | zero => intro _ _ _ _ _ hf; cases hf
    | succ n ih_72 =>
      intro y6 y7 H locs ls hf T hl
      obtain ⟨z_72, hf, hin_72, hex_72⟩ := loop_inv hf
      unfold fX4_canCome_b72 at hf
      dsimp only at hf
      have j_187 : ∀ (y7 : Int32) (z0 : Int32) (H : Heap) (locs : List Loc) (ls : Array Slot), fX4_canCome_j187 S y1 y3 y4 y5 y7 z0 = some z_72 → ST D (wM cy ad) A s S H locs → lv_has ls 9 [(0, .ref (ad 0)), (1, .int y1), (3, .int y3), (4, .int y4), (5, .int y5), (7, .int y7)] → W p l e ({ frames := 3, cells := 0, slots := 0, locals := 72 } : Room) s m [.ref (ad 0), .int x1, .int x2, .int x3, .int x4].toArray below meth c H locs 0 0 (MQ below (QG D (wM cy ad) A (some (.int r)) S) [.ref (ad 0), .int x1, .int x2, .int x3, .int x4].toArray s 0 0 A) (F0 m 187 ls [.int z0]) := by
        intro y7 z0 H locs ls hf T hl
        unfold fX4_canCome_j187 at hf
        refine lv_istore (lv' := [(6, .int z0), (0, .ref (ad 0)), (1, .int y1), (3, .int y3), (4, .int y4), (5, .int y5), (7, .int y7)]) hx hb dX4_canCome_187 hl (by decide) rfl (fun ls hl => ?_)
        obtain ⟨v1, e_v1, hf⟩ := nm_inv hf
        refine lv_iinc (v := v1) (lv' := [(7, .int v1), (6, .int z0), (0, .ref (ad 0)), (1, .int y1), (3, .int y3), (4, .int y4), (5, .int y5)]) hx hb dX4_canCome_189 hl (k := 6) rfl (by rw [e_v1]; rfl) (by decide) rfl (fun ls hl => ?_)
        refine lv_goto (tgt := 72) hx hb dX4_canCome_192 (by decide) ?_
        exact ih_72 z0 v1 _ _ _ (hin_72 _ (Option.some.inj hf).symm) T (lv_sub hl [2, 3, 4, 5, 6, 1, 0] rfl)
      have j_182 : ∀ (y7 : Int32) (H : Heap) (locs : List Loc) (ls : Array Slot), fX4_canCome_j182 S y1 y3 y4 y5 y7 = some z_72 → ST D (wM cy ad) A s S H locs → lv_has ls 9 [(0, .ref (ad 0)), (1, .int y1), (3, .int y3), (4, .int y4), (5, .int y5), (7, .int y7)] → W p l e ({ frames := 3, cells := 0, slots := 0, locals := 72 } : Room) s m [.ref (ad 0), .int x1, .int x2, .int x3, .int x4].toArray below meth c H locs 0 0 (MQ below (QG D (wM cy ad) A (some (.int r)) S) [.ref (ad 0), .int x1, .int x2, .int x3, .int x4].toArray s 0 0 A) (F0 m 182 ls []) := by
        intro y7 H locs ls hf T hl
        unfold fX4_canCome_j182 at hf
        refine lv_iconst (v := 1) hx hb dX4_canCome_182 (by decide) ?_
        refine lv_goto (tgt := 187) hx hb dX4_canCome_183 (by decide) ?_
        exact j_187 y7 1 _ _ _ hf T (lv_sub hl [0, 1, 2, 3, 4, 5] rfl)
      have j_186 : ∀ (y7 : Int32) (H : Heap) (locs : List Loc) (ls : Array Slot), fX4_canCome_j186 S y1 y3 y4 y5 y7 = some z_72 → ST D (wM cy ad) A s S H locs → lv_has ls 9 [(0, .ref (ad 0)), (1, .int y1), (3, .int y3), (4, .int y4), (5, .int y5), (7, .int y7)] → W p l e ({ frames := 3, cells := 0, slots := 0, locals := 72 } : Room) s m [.ref (ad 0), .int x1, .int x2, .int x3, .int x4].toArray below meth c H locs 0 0 (MQ below (QG D (wM cy ad) A (some (.int r)) S) [.ref (ad 0), .int x1, .int x2, .int x3, .int x4].toArray s 0 0 A) (F0 m 186 ls []) := by
        intro y7 H locs ls hf T hl
        unfold fX4_canCome_j186 at hf
        refine lv_iconst (v := 0) hx hb dX4_canCome_186 (by decide) ?_
        exact j_187 y7 0 _ _ _ hf T (lv_sub hl [0, 1, 2, 3, 4, 5] rfl)
      have j_136 : ∀ (y6 : Int32) (y7 : Int32) (z0 : Int32) (H : Heap) (locs : List Loc) (ls : Array Slot), fX4_canCome_j136 S y1 y3 y4 y5 y6 y7 z0 = some z_72 → ST D (wM cy ad) A s S H locs → lv_has ls 9 [(0, .ref (ad 0)), (1, .int y1), (3, .int y3), (4, .int y4), (5, .int y5), (6, .int y6), (7, .int y7)] → W p l e ({ frames := 3, cells := 0, slots := 0, locals := 72 } : Room) s m [.ref (ad 0), .int x1, .int x2, .int x3, .int x4].toArray below meth c H locs 0 0 (MQ below (QG D (wM cy ad) A (some (.int r)) S) [.ref (ad 0), .int x1, .int x2, .int x3, .int x4].toArray s 0 0 A) (F0 m 136 ls [.int z0]) := by
        intro y6 y7 z0 H locs ls hf T hl
        unfold fX4_canCome_j136 at hf
        refine lv_istore (lv' := [(8, .int z0), (0, .ref (ad 0)), (1, .int y1), (3, .int y3), (4, .int y4), (5, .int y5), (6, .int y6), (7, .int y7)]) hx hb dX4_canCome_136 hl (by decide) rfl (fun ls hl => ?_)
        refine lv_iload hx hb dX4_canCome_138 (lv_at hl 6 rfl) ?_
        refine lv_if_ne (tgt := 182) hx hb dX4_canCome_140 (by decide) (fun hc => ?_) (fun hc => ?_)
        · replace hf := ifn hc hf
          exact j_182 y7 _ _ _ hf T (lv_sub hl [1, 2, 3, 4, 5, 7] rfl)
        · replace hf := ifp hc hf
          refine lv_iload hx hb dX4_canCome_143 (lv_at hl 0 rfl) ?_
          refine lv_if_eq (tgt := 186) hx hb dX4_canCome_145 (by decide) (fun hc => ?_) (fun hc => ?_)
          · replace hf := ifp hc hf
            exact j_186 y7 _ _ _ hf T (lv_sub hl [1, 2, 3, 4, 5, 7] rfl)
          · replace hf := ifn hc hf
            refine lv_aload_n hx hb dX4_canCome_148 rfl (lv_at hl 1 rfl) ?_
            refine lv_iload_n hx hb dX4_canCome_149 rfl (lv_at hl 2 rfl) ?_
            refine lv_iload hx hb dX4_canCome_150 (lv_at hl 7 rfl) ?_
            refine lv_iload_n hx hb dX4_canCome_152 rfl (lv_at hl 3 rfl) ?_
            obtain ⟨v3, h2, hf⟩ := bnd_inv hf
            refine cg_V (q0 := 0) (ci := 4) (As := [.int y1, .int y7, .int y3]) (rest := []) X T (kX4_isStep l D cy ad S y1 y7 y3 v3 h2) (cwV 3 hts gX4_canCome_X4_isStep rfl rfl rfl (by decide +kernel) ⟨Nat.le_of_ble_eq_true rfl, Nat.le_of_ble_eq_true rfl⟩) rfl rfl rfl hl.1 rfl (Nat.le_of_ble_eq_true rfl) dX4_canCome_153 ⟨Nat.zero_le _, Nat.zero_le _⟩ (st2 := [.int v3]) (pc2 := 156) rfl rfl (fun H locs T => ?_)
            refine lv_if_eq (tgt := 186) hx hb dX4_canCome_156 (by decide) (fun hc => ?_) (fun hc => ?_)
            · replace hf := ifp hc hf
              exact j_186 y7 _ _ _ hf T (lv_sub hl [1, 2, 3, 4, 5, 7] rfl)
            · replace hf := ifn hc hf
              refine lv_aload_n hx hb dX4_canCome_159 rfl (lv_at hl 1 rfl) ?_
              refine lv_iload_n hx hb dX4_canCome_160 rfl (lv_at hl 2 rfl) ?_
              refine lv_iload_n hx hb dX4_canCome_161 rfl (lv_at hl 3 rfl) ?_
              obtain ⟨v5, h4, hf⟩ := bnd_inv hf
              refine cg_V (q0 := 0) (ci := 4) (As := [.int y1, .int y3]) (rest := []) X T (kX4_builderIn l D cy ad S y1 y3 v5 h4) (cwV 2 hts gX4_canCome_X4_builderIn rfl rfl rfl (by decide +kernel) ⟨Nat.le_of_ble_eq_true rfl, Nat.le_of_ble_eq_true rfl⟩) rfl rfl rfl hl.1 rfl (Nat.le_of_ble_eq_true rfl) dX4_canCome_162 ⟨Nat.zero_le _, Nat.zero_le _⟩ (st2 := [.int v5]) (pc2 := 165) rfl rfl (fun H locs T => ?_)
              refine lv_iconst (v := (-1)) hx hb dX4_canCome_165 (by decide) ?_
              refine lv_icmp_ne (tgt := 186) hx hb dX4_canCome_166 (by decide) (fun hc => ?_) (fun hc => ?_)
              · replace hf := ifn hc hf
                exact j_186 y7 _ _ _ hf T (lv_sub hl [1, 2, 3, 4, 5, 7] rfl)
              · replace hf := ifp hc hf
                refine lv_aload_n hx hb dX4_canCome_169 rfl (lv_at hl 1 rfl) ?_
                refine lv_iload_n hx hb dX4_canCome_170 rfl (lv_at hl 2 rfl) ?_
                refine lv_iload hx hb dX4_canCome_171 (lv_at hl 7 rfl) ?_
                refine lv_iload_n hx hb dX4_canCome_173 rfl (lv_at hl 3 rfl) ?_
                obtain ⟨v7, h6, hf⟩ := bnd_inv hf
                refine cg_V (q0 := 0) (ci := 4) (As := [.int y1, .int y7, .int y3]) (rest := []) X T (kX4_isWinning l D cy ad S y1 y7 y3 v7 h6) (cwV 3 hts gX4_canCome_X4_isWinning rfl rfl rfl (by decide +kernel) ⟨Nat.le_of_ble_eq_true rfl, Nat.le_of_ble_eq_true rfl⟩) rfl rfl rfl hl.1 rfl (Nat.le_of_ble_eq_true rfl) dX4_canCome_174 ⟨Nat.zero_le _, Nat.zero_le _⟩ (st2 := [.int v7]) (pc2 := 177) rfl rfl (fun H locs T => ?_)
                refine lv_iload hx hb dX4_canCome_177 (lv_at hl 4 rfl) ?_
                refine lv_icmp_ne (tgt := 186) hx hb dX4_canCome_179 (by decide) (fun hc => ?_) (fun hc => ?_)
                · replace hf := ifn hc hf
                  exact j_186 y7 _ _ _ hf T (lv_sub hl [1, 2, 3, 4, 5, 7] rfl)
                · replace hf := ifp hc hf
                  exact j_182 y7 _ _ _ hf T (lv_sub hl [1, 2, 3, 4, 5, 7] rfl)
      have j_135 : ∀ (y6 : Int32) (y7 : Int32) (H : Heap) (locs : List Loc) (ls : Array Slot), fX4_canCome_j135 S y1 y3 y4 y5 y6 y7 = some z_72 → ST D (wM cy ad) A s S H locs → lv_has ls 9 [(0, .ref (ad 0)), (1, .int y1), (3, .int y3), (4, .int y4), (5, .int y5), (6, .int y6), (7, .int y7)] → W p l e ({ frames := 3, cells := 0, slots := 0, locals := 72 } : Room) s m [.ref (ad 0), .int x1, .int x2, .int x3, .int x4].toArray below meth c H locs 0 0 (MQ below (QG D (wM cy ad) A (some (.int r)) S) [.ref (ad 0), .int x1, .int x2, .int x3, .int x4].toArray s 0 0 A) (F0 m 135 ls []) := by
        intro y6 y7 H locs ls hf T hl
        unfold fX4_canCome_j135 at hf
        refine lv_iconst (v := 0) hx hb dX4_canCome_135 (by decide) ?_
        exact j_136 y6 y7 0 _ _ _ hf T (lv_sub hl [0, 1, 2, 3, 4, 5, 6] rfl)
      refine lv_iload hx hb dX4_canCome_72 (lv_at hl 6 rfl) ?_
      refine lv_aload_n hx hb dX4_canCome_74 rfl (lv_at hl 0 rfl) ?_
      obtain ⟨v9, h8, hf⟩ := bnd_inv hf
      refine cg_V (q0 := 0) (ci := 4) (As := []) (rest := [.int y7]) X T (kX4_cells l D cy ad S  v9 h8) (cwV 0 hts gX4_canCome_X4_cells rfl rfl rfl (by decide +kernel) ⟨Nat.le_of_ble_eq_true rfl, Nat.le_of_ble_eq_true rfl⟩) rfl rfl rfl hl.1 rfl (Nat.le_of_ble_eq_true rfl) dX4_canCome_75 ⟨Nat.zero_le _, Nat.zero_le _⟩ (st2 := [.int v9, .int y7]) (pc2 := 78) rfl rfl (fun H locs T => ?_)
      refine lv_icmp_ge (tgt := 195) hx hb dX4_canCome_78 (by decide) (fun hc => ?_) (fun hc => ?_)
      · replace hf := ifp hc hf
        obtain ⟨r0, hf, hz⟩ := ex_inv hf
        rw [hex_72 r0 hz] at hf
        refine lv_iload hx hb dX4_canCome_195 (lv_at hl 5 rfl) ?_
        obtain ⟨hz1, hf⟩ := cp_inv hf
        obtain rfl := Option.some.inj hf
        exact rt_z X T hr hz1 dX4_canCome_197
      · replace hf := ifn hc hf
        refine lv_aload_n hx hb dX4_canCome_81 rfl (lv_at hl 0 rfl) ?_
        refine va_get (D := D) (ci := 4) (v := .ref (ad 1)) (C := RX4) (T := TX4) (N := 16) hx hb hts hin_X4 hown hK.1 T.1 0 rfl rfl 4 (by decide) (hts _ (List.mem_of_getElem? (i := 3) rfl)) (fun _ h9 => h9) rfl dX4_canCome_82 ?_
        refine lv_aload_n hx hb dX4_canCome_85 rfl (lv_at hl 0 rfl) ?_
        refine va_get (D := D) (ci := 4) (v := .ref (ad 4)) (C := RX4) (T := TX4) (N := 16) hx hb hts hin_X4 hown hK.1 T.1 0 rfl rfl 7 (by decide) (hts _ (List.mem_of_getElem? (i := 2) rfl)) (fun _ h9 => h9) rfl dX4_canCome_86 ?_
        refine lv_iload_n hx hb dX4_canCome_89 rfl (lv_at hl 1 rfl) ?_
        obtain ⟨hin, hf⟩ := ck_inv hf
        refine va_iald hx hb hK.1 T.1 4 0 rfl rfl hin dX4_canCome_90 ?_
        obtain ⟨hin, hf⟩ := ck_inv hf
        refine va_iald hx hb hK.1 T.1 1 0 rfl rfl hin dX4_canCome_91 ?_
        refine lv_iconst (v := 1) hx hb dX4_canCome_92 (by decide) ?_
        refine lv_icmp_ne (tgt := 195) hx hb dX4_canCome_93 (by decide) (fun hc => ?_) (fun hc => ?_)
        · replace hf := ifn hc hf
          obtain ⟨r0, hf, hz⟩ := ex_inv hf
          rw [hex_72 r0 hz] at hf
          refine lv_iload hx hb dX4_canCome_195 (lv_at hl 5 rfl) ?_
          obtain ⟨hz1, hf⟩ := cp_inv hf
          obtain rfl := Option.some.inj hf
          exact rt_z X T hr hz1 dX4_canCome_197
        · replace hf := ifp hc hf
          refine lv_aload_n hx hb dX4_canCome_96 rfl (lv_at hl 0 rfl) ?_
          refine lv_iload_n hx hb dX4_canCome_97 rfl (lv_at hl 1 rfl) ?_
          refine lv_iload hx hb dX4_canCome_98 (lv_at hl 4 rfl) ?_
          refine lv_iload hx hb dX4_canCome_100 (lv_at hl 6 rfl) ?_
          obtain ⟨v11, h10, hf⟩ := bnd_inv hf
          refine cg_V (q0 := 0) (ci := 4) (As := [.int y1, .int y5, .int y7]) (rest := []) X T (kX4_isStep l D cy ad S y1 y5 y7 v11 h10) (cwV 3 hts gX4_canCome_X4_isStep rfl rfl rfl (by decide +kernel) ⟨Nat.le_of_ble_eq_true rfl, Nat.le_of_ble_eq_true rfl⟩) rfl rfl rfl hl.1 rfl (Nat.le_of_ble_eq_true rfl) dX4_canCome_102 ⟨Nat.zero_le _, Nat.zero_le _⟩ (st2 := [.int v11]) (pc2 := 105) rfl rfl (fun H locs T => ?_)
          refine lv_if_eq (tgt := 135) hx hb dX4_canCome_105 (by decide) (fun hc => ?_) (fun hc => ?_)
          · replace hf := ifp hc hf
            exact j_135 y6 y7 _ _ _ hf T (lv_sub hl [0, 1, 2, 3, 4, 5, 6] rfl)
          · replace hf := ifn hc hf
            refine lv_aload_n hx hb dX4_canCome_108 rfl (lv_at hl 0 rfl) ?_
            refine lv_iload_n hx hb dX4_canCome_109 rfl (lv_at hl 1 rfl) ?_
            refine lv_iload hx hb dX4_canCome_110 (lv_at hl 6 rfl) ?_
            obtain ⟨v13, h12, hf⟩ := bnd_inv hf
            refine cg_V (q0 := 0) (ci := 4) (As := [.int y1, .int y7]) (rest := []) X T (kX4_builderIn l D cy ad S y1 y7 v13 h12) (cwV 2 hts gX4_canCome_X4_builderIn rfl rfl rfl (by decide +kernel) ⟨Nat.le_of_ble_eq_true rfl, Nat.le_of_ble_eq_true rfl⟩) rfl rfl rfl hl.1 rfl (Nat.le_of_ble_eq_true rfl) dX4_canCome_112 ⟨Nat.zero_le _, Nat.zero_le _⟩ (st2 := [.int v13]) (pc2 := 115) rfl rfl (fun H locs T => ?_)
            refine lv_iconst (v := (-1)) hx hb dX4_canCome_115 (by decide) ?_
            refine lv_icmp_ne (tgt := 135) hx hb dX4_canCome_116 (by decide) (fun hc => ?_) (fun hc => ?_)
            · replace hf := ifn hc hf
              exact j_135 y6 y7 _ _ _ hf T (lv_sub hl [0, 1, 2, 3, 4, 5, 6] rfl)
            · replace hf := ifp hc hf
              refine lv_aload_n hx hb dX4_canCome_119 rfl (lv_at hl 0 rfl) ?_
              refine lv_iload_n hx hb dX4_canCome_120 rfl (lv_at hl 1 rfl) ?_
              refine lv_iload hx hb dX4_canCome_121 (lv_at hl 4 rfl) ?_
              refine lv_iload hx hb dX4_canCome_123 (lv_at hl 6 rfl) ?_
              obtain ⟨v15, h14, hf⟩ := bnd_inv hf
              refine cg_V (q0 := 0) (ci := 4) (As := [.int y1, .int y5, .int y7]) (rest := []) X T (kX4_isWinning l D cy ad S y1 y5 y7 v15 h14) (cwV 3 hts gX4_canCome_X4_isWinning rfl rfl rfl (by decide +kernel) ⟨Nat.le_of_ble_eq_true rfl, Nat.le_of_ble_eq_true rfl⟩) rfl rfl rfl hl.1 rfl (Nat.le_of_ble_eq_true rfl) dX4_canCome_125 ⟨Nat.zero_le _, Nat.zero_le _⟩ (st2 := [.int v15]) (pc2 := 128) rfl rfl (fun H locs T => ?_)
              refine lv_if_ne (tgt := 135) hx hb dX4_canCome_128 (by decide) (fun hc => ?_) (fun hc => ?_)
              · replace hf := ifn hc hf
                exact j_135 y6 y7 _ _ _ hf T (lv_sub hl [0, 1, 2, 3, 4, 5, 6] rfl)
              · replace hf := ifp hc hf
                refine lv_iconst (v := 1) hx hb dX4_canCome_131 (by decide) ?_
                refine lv_goto (tgt := 136) hx hb dX4_canCome_132 (by decide) ?_
                exact j_136 y6 y7 1 _ _ _ hf T (lv_sub hl [0, 1, 2, 3, 4, 5, 6] rfl)
  have j_66 : ∀ (y1 : Int32) (y3 : Int32) (y4 : Int32) (y5 : Int32) (H : Heap) (locs : List Loc) (ls : Array Slot), fX4_canCome_j66 S y1 y3 y4 y5 = some r → ST D (wM cy ad) A s S H locs → lv_has ls 9 [(0, .ref (ad 0)), (1, .int y1), (3, .int y3), (4, .int y4), (5, .int y5)] → W p l e ({ frames := 3, cells := 0, slots := 0, locals := 72 } : Room) s m [.ref (ad 0), .int x1, .int x2, .int x3, .int x4].toArray below meth c H locs 0 0 (MQ below (QG D (wM cy ad) A (some (.int r)) S) [.ref (ad 0), .int x1, .int x2, .int x3, .int x4].toArray s 0 0 A) (F0 m 66 ls []) := by
    intro y1 y3 y4 y5 H locs ls hf T hl
    unfold fX4_canCome_j66 at hf
    refine lv_iconst (v := 0) hx hb dX4_canCome_66 (by decide) ?_
    refine lv_istore (lv' := [(6, .int 0), (0, .ref (ad 0)), (1, .int y1), (3, .int y3), (4, .int y4), (5, .int y5)]) hx hb dX4_canCome_67 hl (by decide) rfl (fun ls hl => ?_)
    refine lv_iconst (v := 0) hx hb dX4_canCome_69 (by decide) ?_
    refine lv_istore (lv' := [(7, .int 0), (6, .int 0), (0, .ref (ad 0)), (1, .int y1), (3, .int y3), (4, .int y4), (5, .int y5)]) hx hb dX4_canCome_70 hl (by decide) rfl (fun ls hl => ?_)
    exact l_72 y1 y3 y4 y5 FUEL 0 0 _ _ _ hf T (lv_sub hl [2, 3, 4, 5, 6, 1, 0] rfl)
  refine lv_aload_n hx hb dX4_canCome_0 rfl (lv_at hl 0 rfl) ?_
  refine va_get (D := D) (ci := 4) (v := .ref (ad 3)) (C := RX4) (T := TX4) (N := 16) hx hb hts hin_X4 hown hK.1 T.1 0 rfl rfl 6 (by decide) (hts _ (List.mem_of_getElem? (i := 1) rfl)) (fun _ h9 => h9) rfl dX4_canCome_1 ?_
  refine lv_iconst (v := 4) hx hb dX4_canCome_4 (by decide) ?_
  refine lv_iload_n hx hb dX4_canCome_5 rfl (lv_at hl 1 rfl) ?_
  refine lv_imul hx hb dX4_canCome_6 ?_
  refine lv_iconst (v := 2) hx hb dX4_canCome_7 (by decide) ?_
  refine lv_aload_n hx hb dX4_canCome_8 rfl (lv_at hl 0 rfl) ?_
  refine va_get (D := D) (ci := 4) (v := .ref (ad 4)) (C := RX4) (T := TX4) (N := 16) hx hb hts hin_X4 hown hK.1 T.1 0 rfl rfl 7 (by decide) (hts _ (List.mem_of_getElem? (i := 2) rfl)) (fun _ h9 => h9) rfl dX4_canCome_9 ?_
  refine lv_iload_n hx hb dX4_canCome_12 rfl (lv_at hl 1 rfl) ?_
  obtain ⟨hin, hf⟩ := ck_inv hf
  refine va_iald hx hb hK.1 T.1 4 0 rfl rfl hin dX4_canCome_13 ?_
  refine lv_imul hx hb dX4_canCome_14 ?_
  refine lv_iadd hx hb dX4_canCome_15 ?_
  refine lv_iload_n hx hb dX4_canCome_16 rfl (lv_at hl 2 rfl) ?_
  refine lv_iadd hx hb dX4_canCome_17 ?_
  obtain ⟨hin, hf⟩ := ck_inv hf
  refine va_iald hx hb hK.1 T.1 3 0 rfl rfl hin dX4_canCome_18 ?_
  refine lv_topi (fun v16 e_v16 => ?_)
  replace hf := nm_use hf e_v16
  refine lv_istore (lv' := [(5, .int v16), (0, .ref (ad 0)), (1, .int x1), (2, .int x2), (3, .int x3), (4, .int x4)]) hx hb dX4_canCome_19 hl (by decide) rfl (fun ls hl => ?_)
  refine lv_iload hx hb dX4_canCome_21 (lv_at hl 0 rfl) ?_
  refine lv_iload_n hx hb dX4_canCome_23 rfl (lv_at hl 4 rfl) ?_
  refine lv_icmp_ne (tgt := 29) hx hb dX4_canCome_24 (by decide) (fun hc => ?_) (fun hc => ?_)
  · replace hf := ifn hc hf
    refine lv_aload_n hx hb dX4_canCome_29 rfl (lv_at hl 1 rfl) ?_
    refine lv_iload_n hx hb dX4_canCome_30 rfl (lv_at hl 2 rfl) ?_
    refine lv_iload hx hb dX4_canCome_31 (lv_at hl 0 rfl) ?_
    refine lv_iload_n hx hb dX4_canCome_33 rfl (lv_at hl 4 rfl) ?_
    obtain ⟨v18, h17, hf⟩ := bnd_inv hf
    refine cg_V (q0 := 0) (ci := 4) (As := [.int x1, .int v16, .int x3]) (rest := []) X T (kX4_isStep l D cy ad S x1 v16 x3 v18 h17) (cwV 3 hts gX4_canCome_X4_isStep rfl rfl rfl (by decide +kernel) ⟨Nat.le_of_ble_eq_true rfl, Nat.le_of_ble_eq_true rfl⟩) rfl rfl rfl hl.1 rfl (Nat.le_of_ble_eq_true rfl) dX4_canCome_34 ⟨Nat.zero_le _, Nat.zero_le _⟩ (st2 := [.int v18]) (pc2 := 37) rfl rfl (fun H locs T => ?_)
    refine lv_if_eq (tgt := 66) hx hb dX4_canCome_37 (by decide) (fun hc => ?_) (fun hc => ?_)
    · replace hf := ifp hc hf
      exact j_66 x1 x3 x4 v16 _ _ _ hf T (lv_sub hl [1, 2, 4, 5, 0] rfl)
    · replace hf := ifn hc hf
      refine lv_aload_n hx hb dX4_canCome_40 rfl (lv_at hl 1 rfl) ?_
      refine lv_iload_n hx hb dX4_canCome_41 rfl (lv_at hl 2 rfl) ?_
      refine lv_iload hx hb dX4_canCome_42 (lv_at hl 0 rfl) ?_
      refine lv_iload_n hx hb dX4_canCome_44 rfl (lv_at hl 4 rfl) ?_
      obtain ⟨v20, h19, hf⟩ := bnd_inv hf
      refine cg_V (q0 := 0) (ci := 4) (As := [.int x1, .int v16, .int x3]) (rest := []) X T (kX4_mayEnter l D cy ad S x1 v16 x3 v20 h19) (cwV 3 hts gX4_canCome_X4_mayEnter rfl rfl rfl (by decide +kernel) ⟨Nat.le_of_ble_eq_true rfl, Nat.le_of_ble_eq_true rfl⟩) rfl rfl rfl hl.1 rfl (Nat.le_of_ble_eq_true rfl) dX4_canCome_45 ⟨Nat.zero_le _, Nat.zero_le _⟩ (st2 := [.int v20]) (pc2 := 48) rfl rfl (fun H locs T => ?_)
      refine lv_if_eq (tgt := 66) hx hb dX4_canCome_48 (by decide) (fun hc => ?_) (fun hc => ?_)
      · replace hf := ifp hc hf
        exact j_66 x1 x3 x4 v16 _ _ _ hf T (lv_sub hl [1, 2, 4, 5, 0] rfl)
      · replace hf := ifn hc hf
        refine lv_aload_n hx hb dX4_canCome_51 rfl (lv_at hl 1 rfl) ?_
        refine lv_iload_n hx hb dX4_canCome_52 rfl (lv_at hl 2 rfl) ?_
        refine lv_iload hx hb dX4_canCome_53 (lv_at hl 0 rfl) ?_
        refine lv_iload_n hx hb dX4_canCome_55 rfl (lv_at hl 4 rfl) ?_
        obtain ⟨v22, h21, hf⟩ := bnd_inv hf
        refine cg_V (q0 := 0) (ci := 4) (As := [.int x1, .int v16, .int x3]) (rest := []) X T (kX4_isWinning l D cy ad S x1 v16 x3 v22 h21) (cwV 3 hts gX4_canCome_X4_isWinning rfl rfl rfl (by decide +kernel) ⟨Nat.le_of_ble_eq_true rfl, Nat.le_of_ble_eq_true rfl⟩) rfl rfl rfl hl.1 rfl (Nat.le_of_ble_eq_true rfl) dX4_canCome_56 ⟨Nat.zero_le _, Nat.zero_le _⟩ (st2 := [.int v22]) (pc2 := 59) rfl rfl (fun H locs T => ?_)
        refine lv_iload hx hb dX4_canCome_59 (lv_at hl 5 rfl) ?_
        refine lv_icmp_ne (tgt := 66) hx hb dX4_canCome_61 (by decide) (fun hc => ?_) (fun hc => ?_)
        · replace hf := ifn hc hf
          exact j_66 x1 x3 x4 v16 _ _ _ hf T (lv_sub hl [1, 2, 4, 5, 0] rfl)
        · replace hf := ifp hc hf
          refine lv_iconst (v := 1) hx hb dX4_canCome_64 (by decide) ?_
          obtain rfl := Option.some.inj hf
          exact rt_z X T hr (Or.inr rfl) dX4_canCome_65
  · replace hf := ifp hc hf
    refine lv_iconst (v := 0) hx hb dX4_canCome_27 (by decide) ?_
    obtain rfl := Option.some.inj hf
    exact rt_z X T hr (Or.inl rfl) dX4_canCome_28

