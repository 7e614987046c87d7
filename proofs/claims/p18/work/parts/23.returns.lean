/-! the class's methods where they return: they make nothing -/
section NF
variable {p : Program} {l : Launch} {e : Env} {R : Room} {s : State} {m : MethodId} {args : Array Value} {below : List Frame} {meth : Method} {c : Code} {H : Heap} {locs : List Loc} {cells slots : Nat}
variable {D : va_G} {cy : Nat → ClassId} {σ : Type} {w : σ → va_W} {A : Nat → Prop} {pc nL : Nat} {ls : Array Slot} {S S' : σ} {cc : ByteArray} {own : String} {Ts : List Cond}
theorem nf_x {G : Prop} {α : Type} {k : Nat} {v : α} {r : α ⊕ Nat} (hf : some (Sum.inr k) = some r) (er : r = .inl v) : G := by subst er; cases hf
theorem nf_xw {G : Prop} {α : Type} {k : Nat} {v : α} {r : (α ⊕ Nat) × σ} (hf : some (Sum.inr k, S) = some r) (er : r = (.inl v, S')) : G := by subst er; cases hf
theorem nf_y {G : Prop} {α : Type} {k : Nat} {v : α} {r : α ⊕ Nat} (hf : r = .inr k) (er : r = .inl v) : G := by subst er; cases hf
theorem nf_yw {G : Prop} {α : Type} {k : Nat} {v : α} {r : (α ⊕ Nat) × σ} (hf : r = (.inr k, S)) (er : r = (.inl v, S')) : G := by subst er; cases hf
theorem nf_v {x : Unit} {r : Unit ⊕ Nat} (hf : some (Sum.inl x) = some r) (er : r = .inl ()) (X : CX p s m args meth c cc nL own Ts D cy w A) (T : ST D w A s S H locs) (hr : meth.sig.returnType = none) (hdg : decode cc pc = .ok (.return_, 1)) : W p l e R s m args below meth c H locs 0 0 (MQ below (QG D w A none S) args s 0 0 A) (F0 m pc ls []) := rt_v X T hr hdg
theorem nf_i {x v : Int32} {r : Int32 ⊕ Nat} (hf : some (Sum.inl x) = some r) (er : r = .inl v) (X : CX p s m args meth c cc nL own Ts D cy w A) (T : ST D w A s S H locs) (hr : meth.sig.returnType = some .int) (hdg : decode cc pc = .ok (.ireturn, 1)) : W p l e R s m args below meth c H locs 0 0 (MQ below (QG D w A (some (.int v)) S) args s 0 0 A) (F0 m pc ls [.int x]) := by
  subst er; cases hf; exact rt_i X T hr hdg
theorem nf_iw {x v : Int32} {r : (Int32 ⊕ Nat) × σ} (hf : some (Sum.inl x, S) = some r) (er : r = (.inl v, S')) (X : CX p s m args meth c cc nL own Ts D cy w A) (T : ST D w A s S H locs) (hr : meth.sig.returnType = some .int) (hdg : decode cc pc = .ok (.ireturn, 1)) : W p l e R s m args below meth c H locs 0 0 (MQ below (QG D w A (some (.int v)) S') args s 0 0 A) (F0 m pc ls [.int x]) := by
  subst er; cases hf; exact rt_i X T hr hdg
end NF
set_option maxHeartbeats 4000000 in
set_option maxRecDepth 100000 in
theorem kN_X3_requireCell (l : Launch) (t1 t2 : Nat) (D : va_G) (cy : Nat → ClassId) (ad : Nat → Nat) (Xr : va_W) (S : SC) (x1 : Int32) (r : (Unit ⊕ Nat)) (hf : fX3_requireCell S x1 = some r) (er : r = .inl ()) : CGs l t1 t2 D cy (wC cy ad Xr) yX3_requireCell wsX3_requireCell ({ frames := 1, cells := 0, slots := 0, locals := 22 } : Room) [.ref (ad 0), .int x1] S none S := by
  refine CGs.of (cc := cX3_requireCell) (maxL := 2) (ret := none) (by decide +kernel) rfl (Nat.le_of_ble_eq_true rfl) ?_
  intro p e s m below meth c A ls X hr T hl hX
  obtain ⟨hx, hb, hml, hown, hts, hlk, hK, hA, hwA⟩ := id X
  have hl : lv_has ls 2 [(0, .ref (ad 0)), (1, .int x1)] := hl
  have hin_X0 : ∀ w ∈ u_ws RX0 TX0 13, w ∈ wsX3_requireCell := fun w h => (List.mem_cons_of_mem _ (List.mem_append_left _ (List.mem_append_right _ h)))
  have hin_X3 : ∀ w ∈ u_ws RX3 TX3 3, w ∈ wsX3_requireCell := fun w h => (List.mem_cons_of_mem _ (List.mem_append_left _ (List.mem_append_left _ (List.mem_append_right _ h))))
  unfold fX3_requireCell at hf
  refine lv_iload_n hx hb dX3_requireCell_0 rfl (lv_at hl 1 rfl) ?_
  refine lv_iconst (v := 0) hx hb dX3_requireCell_1 (by decide) ?_
  refine lv_aload_n hx hb dX3_requireCell_2 rfl (lv_at hl 0 rfl) ?_
  refine va_get (D := D) (ci := 3) (v := .ref (ad 1)) (C := RX3) (T := TX3) (N := 3) hx hb hts hin_X3 hown hK.1 T.1 15 rfl rfl 0 (by decide) (hts _ (List.mem_of_getElem? (i := 3) rfl)) (fun _ h9 => h9) rfl dX3_requireCell_3 ?_
  refine va_getN (D := D) (ci := 0) (v := .int (S.1 0)) (C := RX0) (T := TX0) (N := 13) hx hb hts hin_X0 hown hK.1 T.1 14 rfl rfl 5 (by decide) (va_Nw.use rfl (hK.2 _ (List.mem_of_getElem? (i := 1) rfl))) (fun _ h9 => h9) rfl dX3_requireCell_6 ?_
  refine lv_iconst (v := 1) hx hb dX3_requireCell_9 (by decide) ?_
  refine lv_isub hx hb dX3_requireCell_10 ?_
  obtain ⟨v2, h1, hf⟩ := bnd_inv hf
  refine cg_S (As := [.int x1, .int 0, .int ((S.1 0) - 1)]) (rest := []) X T (kX3_isOutside l D cy ad Xr S x1 0 ((S.1 0) - 1) v2 h1) (va_cwS 3 hts gX3_requireCell_X3_isOutside rfl rfl rfl (by decide +kernel) ⟨Nat.le_of_ble_eq_true rfl, Nat.le_of_ble_eq_true rfl⟩) rfl hl.1 rfl (Nat.le_of_ble_eq_true rfl) dX3_requireCell_11 ⟨Nat.le_of_ble_eq_true rfl, Nat.le_of_ble_eq_true rfl⟩ (st2 := [.int v2]) (pc2 := 14) rfl rfl (fun H locs T => ?_)
  refine lv_if_eq (tgt := 27) hx hb dX3_requireCell_14 (by decide) (fun hc => ?_) (fun hc => ?_)
  · replace hf := ifp hc hf
    exact nf_v hf er X T hr dX3_requireCell_27
  · replace hf := ifn hc hf
    exact nf_x hf er

set_option maxHeartbeats 4000000 in
set_option maxRecDepth 100000 in
theorem kN_X3_requireAllPlaced (l : Launch) (t1 t2 : Nat) (D : va_G) (cy : Nat → ClassId) (ad : Nat → Nat) (Xr : va_W) (S : SC) (r : (Unit ⊕ Nat)) (hf : fX3_requireAllPlaced S = some r) (er : r = .inl ()) : CGs l t1 t2 D cy (wC cy ad Xr) yX3_requireAllPlaced wsX3_requireAllPlaced ({ frames := 1, cells := 0, slots := 0, locals := 20 } : Room) [.ref (ad 0)] S none S := by
  refine CGs.of (cc := cX3_requireAllPlaced) (maxL := 1) (ret := none) (by decide +kernel) rfl (Nat.le_of_ble_eq_true rfl) ?_
  intro p e s m below meth c A ls X hr T hl hX
  obtain ⟨hx, hb, hml, hown, hts, hlk, hK, hA, hwA⟩ := id X
  have hl : lv_has ls 1 [(0, .ref (ad 0))] := hl
  have hin_X3 : ∀ w ∈ u_ws RX3 TX3 3, w ∈ wsX3_requireAllPlaced := fun w h => (List.mem_cons_of_mem _ (List.mem_append_left _ (List.mem_append_left _ (List.mem_append_right _ h))))
  unfold fX3_requireAllPlaced at hf
  refine lv_aload_n hx hb dX3_requireAllPlaced_0 rfl (lv_at hl 0 rfl) ?_
  refine va_get (D := D) (ci := 3) (v := .ref (ad 1)) (C := RX3) (T := TX3) (N := 3) hx hb hts hin_X3 hown hK.1 T.1 15 rfl rfl 0 (by decide) (hts _ (List.mem_of_getElem? (i := 3) rfl)) (fun _ h9 => h9) rfl dX3_requireAllPlaced_1 ?_
  obtain ⟨v2, h1, hf⟩ := bnd_inv hf
  refine cg_V (q0 := 14) (ci := 0) (As := []) (rest := []) X T (kX0_isSet l D cy ad Xr S v2 h1) (cwV 0 hts gX3_requireAllPlaced_X0_isSet rfl rfl rfl (by decide +kernel) ⟨Nat.le_of_ble_eq_true rfl, Nat.le_of_ble_eq_true rfl⟩) rfl rfl rfl hl.1 rfl (Nat.le_of_ble_eq_true rfl) dX3_requireAllPlaced_4 ⟨Nat.le_of_ble_eq_true rfl, Nat.le_of_ble_eq_true rfl⟩ (st2 := [.int v2]) (pc2 := 7) rfl rfl (fun H locs T => ?_)
  refine lv_if_ne (tgt := 20) hx hb dX3_requireAllPlaced_7 (by decide) (fun hc => ?_) (fun hc => ?_)
  · replace hf := ifn hc hf
    exact nf_v hf er X T hr dX3_requireAllPlaced_20
  · replace hf := ifp hc hf
    exact nf_x hf er

set_option maxHeartbeats 4000000 in
set_option maxRecDepth 100000 in
theorem kN_X3_requireAhead (l : Launch) (t1 t2 : Nat) (D : va_G) (cy : Nat → ClassId) (ad : Nat → Nat) (Xr : va_W) (S : SC) (x1 : Int32) (x2 : Int32) (r : (Unit ⊕ Nat)) (hf : fX3_requireAhead S x1 x2 = some r) (er : r = .inl ()) : CGs l t1 t2 D cy (wC cy ad Xr) yX3_requireAhead wsX3_requireAhead ({ frames := 2, cells := 0, slots := 0, locals := 40 } : Room) [.ref (ad 0), .int x1, .int x2] S none S := by
  refine CGs.of (cc := cX3_requireAhead) (maxL := 3) (ret := none) (by decide +kernel) rfl (Nat.le_of_ble_eq_true rfl) ?_
  intro p e s m below meth c A ls X hr T hl hX
  obtain ⟨hx, hb, hml, hown, hts, hlk, hK, hA, hwA⟩ := id X
  have hl : lv_has ls 3 [(0, .ref (ad 0)), (1, .int x1), (2, .int x2)] := hl
  have hin_X0 : ∀ w ∈ u_ws RX0 TX0 13, w ∈ wsX3_requireAhead := fun w h => (List.mem_cons_of_mem _ (List.mem_append_left _ (List.mem_append_left _ (List.mem_append_right _ h))))
  have hin_X3 : ∀ w ∈ u_ws RX3 TX3 3, w ∈ wsX3_requireAhead := fun w h => (List.mem_cons_of_mem _ (List.mem_append_left _ (List.mem_append_left _ (List.mem_append_left _ (List.mem_append_right _ h)))))
  unfold fX3_requireAhead at hf
  refine lv_iload_n hx hb dX3_requireAhead_0 rfl (lv_at hl 1 rfl) ?_
  refine lv_iload_n hx hb dX3_requireAhead_1 rfl (lv_at hl 2 rfl) ?_
  refine lv_iconst (v := 3) hx hb dX3_requireAhead_2 (by decide) ?_
  obtain ⟨v2, h1, hf⟩ := bnd_inv hf
  refine cg_S (As := [.int x1, .int x2, .int 3]) (rest := []) X T (kX3_isOutside l D cy ad Xr S x1 x2 3 v2 h1) (va_cwS 3 hts gX3_requireAhead_X3_isOutside rfl rfl rfl (by decide +kernel) ⟨Nat.le_of_ble_eq_true rfl, Nat.le_of_ble_eq_true rfl⟩) rfl hl.1 rfl (Nat.le_of_ble_eq_true rfl) dX3_requireAhead_3 ⟨Nat.le_of_ble_eq_true rfl, Nat.le_of_ble_eq_true rfl⟩ (st2 := [.int v2]) (pc2 := 6) rfl rfl (fun H locs T => ?_)
  refine lv_if_eq (tgt := 19) hx hb dX3_requireAhead_6 (by decide) (fun hc => ?_) (fun hc => ?_)
  · replace hf := ifp hc hf
    refine lv_aload_n hx hb dX3_requireAhead_19 rfl (lv_at hl 0 rfl) ?_
    rcases (bndx_inv hf).symm with ⟨e9, h3, hf⟩ | ⟨v4, h3, hf⟩
    · exact nf_y hf er
    refine cgs_V (q0 := 15) (ci := 3) (As := []) (rest := []) X hX T (kN_X3_requireAllPlaced l t1 t2 D cy ad Xr S _ h3 rfl) (cwV 0 hts gX3_requireAhead_X3_requireAllPlaced rfl rfl rfl (by decide +kernel) ⟨(Nat.le_of_ble_eq_true rfl), (Nat.le_of_ble_eq_true rfl)⟩) rfl rfl rfl hl.1 rfl (Nat.le_of_ble_eq_true rfl) dX3_requireAhead_20 ⟨Nat.zero_le _, Nat.zero_le _⟩ (st2 := []) (pc2 := 23) rfl rfl (fun H locs T => ?_)
    refine lv_aload_n hx hb dX3_requireAhead_23 rfl (lv_at hl 0 rfl) ?_
    refine va_get (D := D) (ci := 3) (v := .ref (ad 1)) (C := RX3) (T := TX3) (N := 3) hx hb hts hin_X3 hown hK.1 T.1 15 rfl rfl 0 (by decide) (hts _ (List.mem_of_getElem? (i := 5) rfl)) (fun _ h9 => h9) rfl dX3_requireAhead_24 ?_
    refine va_getN (D := D) (ci := 0) (v := .int (S.1 6)) (C := RX0) (T := TX0) (N := 13) hx hb hts hin_X0 hown hK.1 T.1 14 rfl rfl 11 (by decide) (va_Nw.use rfl (hK.2 _ (List.mem_of_getElem? (i := 2) rfl))) (fun _ h9 => h9) rfl dX3_requireAhead_27 ?_
    refine lv_iconst (v := (-1)) hx hb dX3_requireAhead_30 (by decide) ?_
    refine lv_icmp_eq (tgt := 44) hx hb dX3_requireAhead_31 (by decide) (fun hc => ?_) (fun hc => ?_)
    · replace hf := ifp hc hf
      refine lv_iload_n hx hb dX3_requireAhead_44 rfl (lv_at hl 1 rfl) ?_
      refine lv_iconst (v := 3) hx hb dX3_requireAhead_45 (by decide) ?_
      refine lv_icmp_ne (tgt := 71) hx hb dX3_requireAhead_46 (by decide) (fun hc => ?_) (fun hc => ?_)
      · replace hf := ifn hc hf
        exact nf_v hf er X T hr dX3_requireAhead_71
      · replace hf := ifp hc hf
        refine lv_aload_n hx hb dX3_requireAhead_49 rfl (lv_at hl 0 rfl) ?_
        refine va_get (D := D) (ci := 3) (v := .ref (ad 1)) (C := RX3) (T := TX3) (N := 3) hx hb hts hin_X3 hown hK.1 T.1 15 rfl rfl 0 (by decide) (hts _ (List.mem_of_getElem? (i := 5) rfl)) (fun _ h9 => h9) rfl dX3_requireAhead_50 ?_
        refine va_getN (D := D) (ci := 0) (v := .int (S.1 0)) (C := RX0) (T := TX0) (N := 13) hx hb hts hin_X0 hown hK.1 T.1 14 rfl rfl 5 (by decide) (va_Nw.use rfl (hK.2 _ (List.mem_of_getElem? (i := 1) rfl))) (fun _ h9 => h9) rfl dX3_requireAhead_53 ?_
        refine lv_bipush (v := 8) hx hb dX3_requireAhead_56 (by decide) ?_
        refine lv_icmp_le (tgt := 71) hx hb dX3_requireAhead_58 (by decide) (fun hc => ?_) (fun hc => ?_)
        · replace hf := ifp hc hf
          exact nf_v hf er X T hr dX3_requireAhead_71
        · replace hf := ifn hc hf
          exact nf_x hf er
    · replace hf := ifn hc hf
      exact nf_x hf er
  · replace hf := ifn hc hf
    exact nf_x hf er

set_option maxHeartbeats 4000000 in
set_option maxRecDepth 100000 in
theorem kN_X3_height (l : Launch) (t1 t2 : Nat) (D : va_G) (cy : Nat → ClassId) (ad : Nat → Nat) (Xr : va_W) (S : SC) (x1 : Int32) (r : (Int32 ⊕ Nat)) (hf : fX3_height S x1 = some r) {v : Int32} (er : r = .inl v) : CGs l t1 t2 D cy (wC cy ad Xr) yX3_height wsX3_height ({ frames := 2, cells := 0, slots := 0, locals := 43 } : Room) [.ref (ad 0), .int x1] S (some (.int v)) S := by
  refine CGs.of (cc := cX3_height) (maxL := 2) (ret := (some .int)) (by decide +kernel) rfl (Nat.le_of_ble_eq_true rfl) ?_
  intro p e s m below meth c A ls X hr T hl hX
  obtain ⟨hx, hb, hml, hown, hts, hlk, hK, hA, hwA⟩ := id X
  have hl : lv_has ls 2 [(0, .ref (ad 0)), (1, .int x1)] := hl
  have hin_X3 : ∀ w ∈ u_ws RX3 TX3 3, w ∈ wsX3_height := fun w h => (List.mem_cons_of_mem _ (List.mem_append_left _ (List.mem_append_left _ (List.mem_append_right _ h))))
  unfold fX3_height at hf
  refine lv_aload_n hx hb dX3_height_0 rfl (lv_at hl 0 rfl) ?_
  refine lv_iload_n hx hb dX3_height_1 rfl (lv_at hl 1 rfl) ?_
  rcases (bndx_inv hf).symm with ⟨e9, h1, hf⟩ | ⟨v2, h1, hf⟩
  · exact nf_y hf er
  refine cgs_V (q0 := 15) (ci := 3) (As := [.int x1]) (rest := []) X hX T (kN_X3_requireCell l t1 t2 D cy ad Xr S x1 _ h1 rfl) (cwV 1 hts gX3_height_X3_requireCell rfl rfl rfl (by decide +kernel) ⟨(Nat.le_of_ble_eq_true rfl), (Nat.le_of_ble_eq_true rfl)⟩) rfl rfl rfl hl.1 rfl (Nat.le_of_ble_eq_true rfl) dX3_height_2 ⟨Nat.zero_le _, Nat.zero_le _⟩ (st2 := []) (pc2 := 5) rfl rfl (fun H locs T => ?_)
  refine lv_aload_n hx hb dX3_height_5 rfl (lv_at hl 0 rfl) ?_
  refine va_get (D := D) (ci := 3) (v := .ref (ad 1)) (C := RX3) (T := TX3) (N := 3) hx hb hts hin_X3 hown hK.1 T.1 15 rfl rfl 0 (by decide) (hts _ (List.mem_of_getElem? (i := 1) rfl)) (fun _ h9 => h9) rfl dX3_height_6 ?_
  refine lv_iload_n hx hb dX3_height_9 rfl (lv_at hl 1 rfl) ?_
  obtain ⟨v4, h3, hf⟩ := bnd_inv hf
  refine cg_V (q0 := 14) (ci := 0) (As := [.int x1]) (rest := []) X T (kX0_storeysOf l D cy ad Xr S x1 v4 h3) (cwV 1 hts gX3_height_X0_storeysOf rfl rfl rfl (by decide +kernel) ⟨Nat.le_of_ble_eq_true rfl, Nat.le_of_ble_eq_true rfl⟩) rfl rfl rfl hl.1 rfl (Nat.le_of_ble_eq_true rfl) dX3_height_10 ⟨Nat.le_of_ble_eq_true rfl, Nat.le_of_ble_eq_true rfl⟩ (st2 := [.int v4]) (pc2 := 13) rfl rfl (fun H locs T => ?_)
  exact nf_i hf er X T hr dX3_height_13

set_option maxHeartbeats 4000000 in
set_option maxRecDepth 100000 in
theorem kN_X3_builderAt (l : Launch) (t1 t2 : Nat) (D : va_G) (cy : Nat → ClassId) (ad : Nat → Nat) (Xr : va_W) (S : SC) (x1 : Int32) (r : (Int32 ⊕ Nat)) (hf : fX3_builderAt S x1 = some r) {v : Int32} (er : r = .inl v) : CGs l t1 t2 D cy (wC cy ad Xr) yX3_builderAt wsX3_builderAt ({ frames := 2, cells := 0, slots := 0, locals := 43 } : Room) [.ref (ad 0), .int x1] S (some (.int v)) S := by
  refine CGs.of (cc := cX3_builderAt) (maxL := 2) (ret := (some .int)) (by decide +kernel) rfl (Nat.le_of_ble_eq_true rfl) ?_
  intro p e s m below meth c A ls X hr T hl hX
  obtain ⟨hx, hb, hml, hown, hts, hlk, hK, hA, hwA⟩ := id X
  have hl : lv_has ls 2 [(0, .ref (ad 0)), (1, .int x1)] := hl
  have hin_X3 : ∀ w ∈ u_ws RX3 TX3 3, w ∈ wsX3_builderAt := fun w h => (List.mem_cons_of_mem _ (List.mem_append_left _ (List.mem_append_left _ (List.mem_append_right _ h))))
  unfold fX3_builderAt at hf
  refine lv_aload_n hx hb dX3_builderAt_0 rfl (lv_at hl 0 rfl) ?_
  refine lv_iload_n hx hb dX3_builderAt_1 rfl (lv_at hl 1 rfl) ?_
  rcases (bndx_inv hf).symm with ⟨e9, h1, hf⟩ | ⟨v2, h1, hf⟩
  · exact nf_y hf er
  refine cgs_V (q0 := 15) (ci := 3) (As := [.int x1]) (rest := []) X hX T (kN_X3_requireCell l t1 t2 D cy ad Xr S x1 _ h1 rfl) (cwV 1 hts gX3_builderAt_X3_requireCell rfl rfl rfl (by decide +kernel) ⟨(Nat.le_of_ble_eq_true rfl), (Nat.le_of_ble_eq_true rfl)⟩) rfl rfl rfl hl.1 rfl (Nat.le_of_ble_eq_true rfl) dX3_builderAt_2 ⟨Nat.zero_le _, Nat.zero_le _⟩ (st2 := []) (pc2 := 5) rfl rfl (fun H locs T => ?_)
  refine lv_aload_n hx hb dX3_builderAt_5 rfl (lv_at hl 0 rfl) ?_
  refine va_get (D := D) (ci := 3) (v := .ref (ad 1)) (C := RX3) (T := TX3) (N := 3) hx hb hts hin_X3 hown hK.1 T.1 15 rfl rfl 0 (by decide) (hts _ (List.mem_of_getElem? (i := 1) rfl)) (fun _ h9 => h9) rfl dX3_builderAt_6 ?_
  refine lv_iload_n hx hb dX3_builderAt_9 rfl (lv_at hl 1 rfl) ?_
  obtain ⟨v4, h3, hf⟩ := bnd_inv hf
  refine cg_V (q0 := 14) (ci := 0) (As := [.int x1]) (rest := []) X T (kX0_holderOf l D cy ad Xr S x1 v4 h3) (cwV 1 hts gX3_builderAt_X0_holderOf rfl rfl rfl (by decide +kernel) ⟨Nat.le_of_ble_eq_true rfl, Nat.le_of_ble_eq_true rfl⟩) rfl rfl rfl hl.1 rfl (Nat.le_of_ble_eq_true rfl) dX3_builderAt_10 ⟨Nat.le_of_ble_eq_true rfl, Nat.le_of_ble_eq_true rfl⟩ (st2 := [.int v4]) (pc2 := 13) rfl rfl (fun H locs T => ?_)
  exact nf_i hf er X T hr dX3_builderAt_13

set_option maxHeartbeats 4000000 in
set_option maxRecDepth 100000 in
theorem kN_X3_reached (l : Launch) (t1 t2 : Nat) (D : va_G) (cy : Nat → ClassId) (ad : Nat → Nat) (Xr : va_W) (S : SC) (x1 : Int32) (r : (Int32 ⊕ Nat)) (hf : fX3_reached S x1 = some r) {v : Int32} (er : r = .inl v) : CGs l t1 t2 D cy (wC cy ad Xr) yX3_reached wsX3_reached ({ frames := 2, cells := 0, slots := 0, locals := 46 } : Room) [.ref (ad 0), .int x1] S (some (.int v)) S := by
  refine CGs.of (cc := cX3_reached) (maxL := 2) (ret := (some .int)) (by decide +kernel) rfl (Nat.le_of_ble_eq_true rfl) ?_
  intro p e s m below meth c A ls X hr T hl hX
  obtain ⟨hx, hb, hml, hown, hts, hlk, hK, hA, hwA⟩ := id X
  have hl : lv_has ls 2 [(0, .ref (ad 0)), (1, .int x1)] := hl
  have hin_X3 : ∀ w ∈ u_ws RX3 TX3 3, w ∈ wsX3_reached := fun w h => (List.mem_cons_of_mem _ (List.mem_append_left _ (List.mem_append_left _ (List.mem_append_right _ h))))
  unfold fX3_reached at hf
  refine lv_iload_n hx hb dX3_reached_0 rfl (lv_at hl 1 rfl) ?_
  refine lv_iconst (v := 0) hx hb dX3_reached_1 (by decide) ?_
  refine lv_iconst (v := 1) hx hb dX3_reached_2 (by decide) ?_
  obtain ⟨v2, h1, hf⟩ := bnd_inv hf
  refine cg_S (As := [.int x1, .int 0, .int 1]) (rest := []) X T (kX3_isOutside l D cy ad Xr S x1 0 1 v2 h1) (va_cwS 3 hts gX3_reached_X3_isOutside rfl rfl rfl (by decide +kernel) ⟨Nat.le_of_ble_eq_true rfl, Nat.le_of_ble_eq_true rfl⟩) rfl hl.1 rfl (Nat.le_of_ble_eq_true rfl) dX3_reached_3 ⟨Nat.le_of_ble_eq_true rfl, Nat.le_of_ble_eq_true rfl⟩ (st2 := [.int v2]) (pc2 := 6) rfl rfl (fun H locs T => ?_)
  refine lv_if_eq (tgt := 19) hx hb dX3_reached_6 (by decide) (fun hc => ?_) (fun hc => ?_)
  · replace hf := ifp hc hf
    refine lv_aload_n hx hb dX3_reached_19 rfl (lv_at hl 0 rfl) ?_
    refine va_get (D := D) (ci := 3) (v := .ref (ad 1)) (C := RX3) (T := TX3) (N := 3) hx hb hts hin_X3 hown hK.1 T.1 15 rfl rfl 0 (by decide) (hts _ (List.mem_of_getElem? (i := 3) rfl)) (fun _ h9 => h9) rfl dX3_reached_20 ?_
    refine lv_iload_n hx hb dX3_reached_23 rfl (lv_at hl 1 rfl) ?_
    obtain ⟨v4, h3, hf⟩ := bnd_inv hf
    refine cg_V (q0 := 14) (ci := 0) (As := [.int x1]) (rest := []) X T (kX0_storeysUnder l D cy ad Xr S x1 v4 h3) (cwV 1 hts gX3_reached_X0_storeysUnder rfl rfl rfl (by decide +kernel) ⟨Nat.le_of_ble_eq_true rfl, Nat.le_of_ble_eq_true rfl⟩) rfl rfl rfl hl.1 rfl (Nat.le_of_ble_eq_true rfl) dX3_reached_24 ⟨Nat.le_of_ble_eq_true rfl, Nat.le_of_ble_eq_true rfl⟩ (st2 := [.int v4]) (pc2 := 27) rfl rfl (fun H locs T => ?_)
    exact nf_i hf er X T hr dX3_reached_27
  · replace hf := ifn hc hf
    exact nf_x hf er

set_option maxHeartbeats 4000000 in
set_option maxRecDepth 100000 in
theorem kN_X3_begin (l : Launch) (t1 t2 : Nat) (D : va_G) (cy : Nat → ClassId) (ad : Nat → Nat) (Xr : va_W) (S : SC) (x1 : Int32) (x2 : Int32) (x3 : Int32) (x4 : Int32) (x5 : Int32) (r : ((Int32 ⊕ Nat) × SC)) (hf : fX3_begin S x1 x2 x3 x4 x5 = some r) {v : Int32} {S' : SC} (er : r = (.inl v, S')) : CGs l t1 t2 D cy (wC cy ad Xr) yX3_begin wsX3_begin ({ frames := 2, cells := 0, slots := 0, locals := 56 } : Room) [.ref (ad 0), .int x1, .int x2, .int x3, .int x4, .int x5] S (some (.int v)) S' := by
  refine CGs.of (cc := cX3_begin) (maxL := 6) (ret := (some .int)) (by decide +kernel) rfl (Nat.le_of_ble_eq_true rfl) ?_
  intro p e s m below meth c A ls X hr T hl hX
  obtain ⟨hx, hb, hml, hown, hts, hlk, hK, hA, hwA⟩ := id X
  have hl : lv_has ls 6 [(0, .ref (ad 0)), (1, .int x1), (2, .int x2), (3, .int x3), (4, .int x4), (5, .int x5)] := hl
  have hin_X0 : ∀ w ∈ u_ws RX0 TX0 13, w ∈ wsX3_begin := fun w h => (List.mem_cons_of_mem _ (List.mem_append_left _ (List.mem_append_right _ h)))
  have hin_X3 : ∀ w ∈ u_ws RX3 TX3 3, w ∈ wsX3_begin := fun w h => (List.mem_cons_of_mem _ (List.mem_append_left _ (List.mem_append_left _ (List.mem_append_right _ h))))
  unfold fX3_begin at hf
  refine lv_iload_n hx hb dX3_begin_0 rfl (lv_at hl 1 rfl) ?_
  refine lv_iconst (v := 2) hx hb dX3_begin_1 (by decide) ?_
  refine lv_iconst (v := 5) hx hb dX3_begin_2 (by decide) ?_
  obtain ⟨v2, h1, hf⟩ := bnd_inv hf
  refine cg_S (As := [.int x1, .int 2, .int 5]) (rest := []) X T (kX3_isOutside l D cy ad Xr S x1 2 5 v2 h1) (va_cwS 3 hts gX3_begin_X3_isOutside rfl rfl rfl (by decide +kernel) ⟨Nat.le_of_ble_eq_true rfl, Nat.le_of_ble_eq_true rfl⟩) rfl hl.1 rfl (Nat.le_of_ble_eq_true rfl) dX3_begin_3 ⟨Nat.le_of_ble_eq_true rfl, Nat.le_of_ble_eq_true rfl⟩ (st2 := [.int v2]) (pc2 := 6) rfl rfl (fun H locs T => ?_)
  refine lv_if_ne (tgt := 18) hx hb dX3_begin_6 (by decide) (fun hc => ?_) (fun hc => ?_)
  · replace hf := ifn hc hf
    exact nf_xw hf er
  · replace hf := ifp hc hf
    refine lv_iload_n hx hb dX3_begin_9 rfl (lv_at hl 2 rfl) ?_
    refine lv_iconst (v := 2) hx hb dX3_begin_10 (by decide) ?_
    refine lv_iconst (v := 5) hx hb dX3_begin_11 (by decide) ?_
    obtain ⟨v4, h3, hf⟩ := bnd_inv hf
    refine cg_S (As := [.int x2, .int 2, .int 5]) (rest := []) X T (kX3_isOutside l D cy ad Xr S x2 2 5 v4 h3) (va_cwS 3 hts gX3_begin_X3_isOutside rfl rfl rfl (by decide +kernel) ⟨Nat.le_of_ble_eq_true rfl, Nat.le_of_ble_eq_true rfl⟩) rfl hl.1 rfl (Nat.le_of_ble_eq_true rfl) dX3_begin_12 ⟨Nat.le_of_ble_eq_true rfl, Nat.le_of_ble_eq_true rfl⟩ (st2 := [.int v4]) (pc2 := 15) rfl rfl (fun H locs T => ?_)
    refine lv_if_eq (tgt := 28) hx hb dX3_begin_15 (by decide) (fun hc => ?_) (fun hc => ?_)
    · replace hf := ifp hc hf
      refine lv_iload_n hx hb dX3_begin_28 rfl (lv_at hl 3 rfl) ?_
      refine lv_iconst (v := 1) hx hb dX3_begin_29 (by decide) ?_
      refine lv_iconst (v := 2) hx hb dX3_begin_30 (by decide) ?_
      obtain ⟨v6, h5, hf⟩ := bnd_inv hf
      refine cg_S (As := [.int x3, .int 1, .int 2]) (rest := []) X T (kX3_isOutside l D cy ad Xr S x3 1 2 v6 h5) (va_cwS 3 hts gX3_begin_X3_isOutside rfl rfl rfl (by decide +kernel) ⟨Nat.le_of_ble_eq_true rfl, Nat.le_of_ble_eq_true rfl⟩) rfl hl.1 rfl (Nat.le_of_ble_eq_true rfl) dX3_begin_31 ⟨Nat.le_of_ble_eq_true rfl, Nat.le_of_ble_eq_true rfl⟩ (st2 := [.int v6]) (pc2 := 34) rfl rfl (fun H locs T => ?_)
      refine lv_if_ne (tgt := 46) hx hb dX3_begin_34 (by decide) (fun hc => ?_) (fun hc => ?_)
      · replace hf := ifn hc hf
        exact nf_xw hf er
      · replace hf := ifp hc hf
        refine lv_iconst (v := 2) hx hb dX3_begin_37 (by decide) ?_
        refine lv_iload_n hx hb dX3_begin_38 rfl (lv_at hl 3 rfl) ?_
        refine lv_imul hx hb dX3_begin_39 ?_
        refine lv_iload_n hx hb dX3_begin_40 rfl (lv_at hl 1 rfl) ?_
        refine lv_iload_n hx hb dX3_begin_41 rfl (lv_at hl 2 rfl) ?_
        refine lv_imul hx hb dX3_begin_42 ?_
        refine lv_icmp_lt (tgt := 56) hx hb dX3_begin_43 (by decide) (fun hc => ?_) (fun hc => ?_)
        · replace hf := ifp hc hf
          refine lv_iload hx hb dX3_begin_56 (lv_at hl 4 rfl) ?_
          refine lv_iconst (v := 0) hx hb dX3_begin_58 (by decide) ?_
          refine lv_bipush (v := 6) hx hb dX3_begin_59 (by decide) ?_
          obtain ⟨v8, h7, hf⟩ := bnd_inv hf
          refine cg_S (As := [.int x4, .int 0, .int 6]) (rest := []) X T (kX3_isOutside l D cy ad Xr S x4 0 6 v8 h7) (va_cwS 3 hts gX3_begin_X3_isOutside rfl rfl rfl (by decide +kernel) ⟨Nat.le_of_ble_eq_true rfl, Nat.le_of_ble_eq_true rfl⟩) rfl hl.1 rfl (Nat.le_of_ble_eq_true rfl) dX3_begin_61 ⟨Nat.le_of_ble_eq_true rfl, Nat.le_of_ble_eq_true rfl⟩ (st2 := [.int v8]) (pc2 := 64) rfl rfl (fun H locs T => ?_)
          refine lv_if_ne (tgt := 78) hx hb dX3_begin_64 (by decide) (fun hc => ?_) (fun hc => ?_)
          · replace hf := ifn hc hf
            exact nf_xw hf er
          · replace hf := ifp hc hf
            refine lv_iload hx hb dX3_begin_67 (lv_at hl 5 rfl) ?_
            refine lv_iconst (v := 0) hx hb dX3_begin_69 (by decide) ?_
            refine lv_bipush (v := 6) hx hb dX3_begin_70 (by decide) ?_
            obtain ⟨v10, h9, hf⟩ := bnd_inv hf
            refine cg_S (As := [.int x5, .int 0, .int 6]) (rest := []) X T (kX3_isOutside l D cy ad Xr S x5 0 6 v10 h9) (va_cwS 3 hts gX3_begin_X3_isOutside rfl rfl rfl (by decide +kernel) ⟨Nat.le_of_ble_eq_true rfl, Nat.le_of_ble_eq_true rfl⟩) rfl hl.1 rfl (Nat.le_of_ble_eq_true rfl) dX3_begin_72 ⟨Nat.le_of_ble_eq_true rfl, Nat.le_of_ble_eq_true rfl⟩ (st2 := [.int v10]) (pc2 := 75) rfl rfl (fun H locs T => ?_)
            refine lv_if_eq (tgt := 88) hx hb dX3_begin_75 (by decide) (fun hc => ?_) (fun hc => ?_)
            · replace hf := ifp hc hf
              refine lv_aload_n hx hb dX3_begin_88 rfl (lv_at hl 0 rfl) ?_
              refine va_get (D := D) (ci := 3) (v := .ref (ad 1)) (C := RX3) (T := TX3) (N := 3) hx hb hts hin_X3 hown hK.1 T.1 15 rfl rfl 0 (by decide) (hts _ (List.mem_of_getElem? (i := 3) rfl)) (fun _ h9 => h9) rfl dX3_begin_89 ?_
              refine lv_iload_n hx hb dX3_begin_92 rfl (lv_at hl 1 rfl) ?_
              refine lv_iload_n hx hb dX3_begin_93 rfl (lv_at hl 2 rfl) ?_
              refine lv_iload_n hx hb dX3_begin_94 rfl (lv_at hl 3 rfl) ?_
              refine lv_iload hx hb dX3_begin_95 (lv_at hl 4 rfl) ?_
              refine lv_iload hx hb dX3_begin_97 (lv_at hl 5 rfl) ?_
              obtain ⟨S12, h11, hf⟩ := bnd_inv hf
              refine cgs_V (q0 := 14) (ci := 0) (As := [.int x1, .int x2, .int x3, .int x4, .int x5]) (rest := []) X hX T (kX0_start l t1 t2 D cy ad Xr S x1 x2 x3 x4 x5 S12 h11) (cwV 5 hts gX3_begin_X0_start rfl rfl rfl (by decide +kernel) ⟨Nat.le_of_ble_eq_true rfl, Nat.le_of_ble_eq_true rfl⟩) rfl rfl rfl hl.1 rfl (Nat.le_of_ble_eq_true rfl) dX3_begin_99 ⟨Nat.le_of_ble_eq_true rfl, Nat.le_of_ble_eq_true rfl⟩ (st2 := []) (pc2 := 102) rfl rfl (fun H locs T => ?_)
              refine lv_aload_n hx hb dX3_begin_102 rfl (lv_at hl 0 rfl) ?_
              refine va_get (D := D) (ci := 3) (v := .ref (ad 1)) (C := RX3) (T := TX3) (N := 3) hx hb hts hin_X3 hown hK.1 T.1 15 rfl rfl 0 (by decide) (hts _ (List.mem_of_getElem? (i := 3) rfl)) (fun _ h9 => h9) rfl dX3_begin_103 ?_
              refine va_getN (D := D) (ci := 0) (v := .int (S12.1 0)) (C := RX0) (T := TX0) (N := 13) hx hb hts hin_X0 hown hK.1 T.1 14 rfl rfl 5 (by decide) (va_Nw.use rfl (hK.2 _ (List.mem_of_getElem? (i := 1) rfl))) (fun _ h9 => h9) rfl dX3_begin_106 ?_
              exact nf_iw hf er X T hr dX3_begin_109
            · replace hf := ifn hc hf
              exact nf_xw hf er
        · replace hf := ifn hc hf
          exact nf_xw hf er
    · replace hf := ifn hc hf
      exact nf_xw hf er

set_option maxHeartbeats 4000000 in
set_option maxRecDepth 100000 in
theorem kN_X3_turnAt (l : Launch) (t1 t2 : Nat) (D : va_G) (cy : Nat → ClassId) (ad : Nat → Nat) (Xr : va_W) (S : SC) (x1 : Int32) (r : ((Int32 ⊕ Nat) × SC)) (hf : fX3_turnAt S x1 = some r) {v : Int32} {S' : SC} (er : r = (.inl v, S')) : CGs l t1 t2 D cy (wC cy ad Xr) yX3_turnAt wsX3_turnAt ({ frames := 5, cells := 0, slots := 0, locals := 130 } : Room) [.ref (ad 0), .int x1] S (some (.int v)) S' := by
  refine CGs.of (cc := cX3_turnAt) (maxL := 2) (ret := (some .int)) (by decide +kernel) rfl (Nat.le_of_ble_eq_true rfl) ?_
  intro p e s m below meth c A ls X hr T hl hX
  obtain ⟨hx, hb, hml, hown, hts, hlk, hK, hA, hwA⟩ := id X
  have hl : lv_has ls 2 [(0, .ref (ad 0)), (1, .int x1)] := hl
  have hin_X2 : ∀ w ∈ u_ws RX2 TX2 2, w ∈ wsX3_turnAt := fun w h => (List.mem_cons_of_mem _ (List.mem_append_left _ (List.mem_append_left _ (List.mem_append_left _ (List.mem_append_right _ h)))))
  have hin_X3 : ∀ w ∈ u_ws RX3 TX3 3, w ∈ wsX3_turnAt := fun w h => (List.mem_cons_of_mem _ (List.mem_append_left _ (List.mem_append_left _ (List.mem_append_left _ (List.mem_append_left _ (List.mem_append_right _ h))))))
  unfold fX3_turnAt at hf
  refine lv_aload_n hx hb dX3_turnAt_0 rfl (lv_at hl 0 rfl) ?_
  rcases (bndxS_inv hf).symm with ⟨e9, h1, hf⟩ | ⟨v2, h1, hf⟩
  · exact nf_yw hf er
  refine cgs_V (q0 := 15) (ci := 3) (As := []) (rest := []) X hX T (kN_X3_requireAllPlaced l t1 t2 D cy ad Xr S _ h1 rfl) (cwV 0 hts gX3_turnAt_X3_requireAllPlaced rfl rfl rfl (by decide +kernel) ⟨(Nat.le_of_ble_eq_true rfl), (Nat.le_of_ble_eq_true rfl)⟩) rfl rfl rfl hl.1 rfl (Nat.le_of_ble_eq_true rfl) dX3_turnAt_1 ⟨Nat.zero_le _, Nat.zero_le _⟩ (st2 := []) (pc2 := 4) rfl rfl (fun H locs T => ?_)
  refine lv_aload_n hx hb dX3_turnAt_4 rfl (lv_at hl 0 rfl) ?_
  refine va_get (D := D) (ci := 3) (v := .ref (ad 1)) (C := RX3) (T := TX3) (N := 3) hx hb hts hin_X3 hown hK.1 T.1 15 rfl rfl 0 (by decide) (hts _ (List.mem_of_getElem? (i := 3) rfl)) (fun _ h9 => h9) rfl dX3_turnAt_5 ?_
  refine lv_aload_n hx hb dX3_turnAt_8 rfl (lv_at hl 0 rfl) ?_
  refine va_get (D := D) (ci := 3) (v := .ref (ad 7)) (C := RX3) (T := TX3) (N := 3) hx hb hts hin_X3 hown hK.1 T.1 15 rfl rfl 1 (by decide) (hts _ (List.mem_of_getElem? (i := 4) rfl)) (fun _ h9 => h9) rfl dX3_turnAt_9 ?_
  obtain ⟨S4, h3, hf⟩ := bnd_inv hf
  refine cg_V (q0 := 14) (ci := 0) (As := [.ref (ad 7)]) (rest := []) X T (kX0_listTurns l D cy ad Xr S 0 S4 h3 (by decide)) (cwV 1 hts gX3_turnAt_X0_listTurns rfl rfl rfl (by decide +kernel) ⟨Nat.le_of_ble_eq_true rfl, Nat.le_of_ble_eq_true rfl⟩) rfl rfl rfl hl.1 rfl (Nat.le_of_ble_eq_true rfl) dX3_turnAt_12 ⟨Nat.le_of_ble_eq_true rfl, Nat.le_of_ble_eq_true rfl⟩ (st2 := []) (pc2 := 15) rfl rfl (fun H locs T => ?_)
  refine lv_iload_n hx hb dX3_turnAt_15 rfl (lv_at hl 1 rfl) ?_
  refine lv_iconst (v := 0) hx hb dX3_turnAt_16 (by decide) ?_
  refine lv_aload_n hx hb dX3_turnAt_17 rfl (lv_at hl 0 rfl) ?_
  refine va_get (D := D) (ci := 3) (v := .ref (ad 7)) (C := RX3) (T := TX3) (N := 3) hx hb hts hin_X3 hown hK.1 T.1 15 rfl rfl 1 (by decide) (hts _ (List.mem_of_getElem? (i := 4) rfl)) (fun _ h9 => h9) rfl dX3_turnAt_18 ?_
  refine va_getN (D := D) (ci := 2) (v := .int (S4.1 8)) (C := RX2) (T := TX2) (N := 2) hx hb hts hin_X2 hown hK.1 T.1 8 rfl rfl 1 (by decide) (va_Nw.use rfl (hK.2 _ (List.mem_of_getElem? (i := 0) rfl))) (fun _ h9 => h9) rfl dX3_turnAt_21 ?_
  refine lv_iconst (v := 1) hx hb dX3_turnAt_24 (by decide) ?_
  refine lv_isub hx hb dX3_turnAt_25 ?_
  obtain ⟨v6, h5, hf⟩ := bnd_inv hf
  refine cg_S (As := [.int x1, .int 0, .int ((S4.1 8) - 1)]) (rest := []) X T (kX3_isOutside l D cy ad Xr S4 x1 0 ((S4.1 8) - 1) v6 h5) (va_cwS 3 hts gX3_turnAt_X3_isOutside rfl rfl rfl (by decide +kernel) ⟨Nat.le_of_ble_eq_true rfl, Nat.le_of_ble_eq_true rfl⟩) rfl hl.1 rfl (Nat.le_of_ble_eq_true rfl) dX3_turnAt_26 ⟨Nat.le_of_ble_eq_true rfl, Nat.le_of_ble_eq_true rfl⟩ (st2 := [.int v6]) (pc2 := 29) rfl rfl (fun H locs T => ?_)
  refine lv_if_eq (tgt := 42) hx hb dX3_turnAt_29 (by decide) (fun hc => ?_) (fun hc => ?_)
  · replace hf := ifp hc hf
    refine lv_aload_n hx hb dX3_turnAt_42 rfl (lv_at hl 0 rfl) ?_
    refine va_get (D := D) (ci := 3) (v := .ref (ad 7)) (C := RX3) (T := TX3) (N := 3) hx hb hts hin_X3 hown hK.1 T.1 15 rfl rfl 1 (by decide) (hts _ (List.mem_of_getElem? (i := 4) rfl)) (fun _ h9 => h9) rfl dX3_turnAt_43 ?_
    refine lv_iload_n hx hb dX3_turnAt_46 rfl (lv_at hl 1 rfl) ?_
    obtain ⟨v8, h7, hf⟩ := bnd_inv hf
    refine cg_V (q0 := 8) (ci := 2) (As := [.int x1]) (rest := []) X T (kX2_at l D cy ad Xr S4 0 x1 v8 h7 (by decide)) (cwV 1 hts gX3_turnAt_X2_at rfl rfl rfl (by decide +kernel) ⟨Nat.le_of_ble_eq_true rfl, Nat.le_of_ble_eq_true rfl⟩) rfl rfl rfl hl.1 rfl (Nat.le_of_ble_eq_true rfl) dX3_turnAt_47 ⟨Nat.le_of_ble_eq_true rfl, Nat.le_of_ble_eq_true rfl⟩ (st2 := [.int v8]) (pc2 := 50) rfl rfl (fun H locs T => ?_)
    exact nf_iw hf er X T hr dX3_turnAt_50
  · replace hf := ifn hc hf
    exact nf_xw hf er

set_option maxHeartbeats 4000000 in
set_option maxRecDepth 100000 in
theorem kN_X3_play (l : Launch) (t1 t2 : Nat) (D : va_G) (cy : Nat → ClassId) (ad : Nat → Nat) (Xr : va_W) (S : SC) (x1 : Int32) (r : ((Int32 ⊕ Nat) × SC)) (hf : fX3_play S x1 = some r) {v : Int32} {S' : SC} (er : r = (.inl v, S')) : CGs l t1 t2 D cy (wC cy ad Xr) yX3_play wsX3_play ({ frames := 5, cells := 0, slots := 0, locals := 130 } : Room) [.ref (ad 0), .int x1] S (some (.int v)) S' := by
  refine CGs.of (cc := cX3_play) (maxL := 2) (ret := (some .int)) (by decide +kernel) rfl (Nat.le_of_ble_eq_true rfl) ?_
  intro p e s m below meth c A ls X hr T hl hX
  obtain ⟨hx, hb, hml, hown, hts, hlk, hK, hA, hwA⟩ := id X
  have hl : lv_has ls 2 [(0, .ref (ad 0)), (1, .int x1)] := hl
  have hin_X0 : ∀ w ∈ u_ws RX0 TX0 13, w ∈ wsX3_play := fun w h => (List.mem_cons_of_mem _ (List.mem_append_left _ (List.mem_append_left _ (List.mem_append_right _ h))))
  have hin_X3 : ∀ w ∈ u_ws RX3 TX3 3, w ∈ wsX3_play := fun w h => (List.mem_cons_of_mem _ (List.mem_append_left _ (List.mem_append_left _ (List.mem_append_left _ (List.mem_append_right _ h)))))
  unfold fX3_play at hf
  refine lv_aload_n hx hb dX3_play_0 rfl (lv_at hl 0 rfl) ?_
  rcases (bndxS_inv hf).symm with ⟨e9, h1, hf⟩ | ⟨v2, h1, hf⟩
  · exact nf_yw hf er
  refine cgs_V (q0 := 15) (ci := 3) (As := []) (rest := []) X hX T (kN_X3_requireAllPlaced l t1 t2 D cy ad Xr S _ h1 rfl) (cwV 0 hts gX3_play_X3_requireAllPlaced rfl rfl rfl (by decide +kernel) ⟨(Nat.le_of_ble_eq_true rfl), (Nat.le_of_ble_eq_true rfl)⟩) rfl rfl rfl hl.1 rfl (Nat.le_of_ble_eq_true rfl) dX3_play_1 ⟨Nat.zero_le _, Nat.zero_le _⟩ (st2 := []) (pc2 := 4) rfl rfl (fun H locs T => ?_)
  refine lv_aload_n hx hb dX3_play_4 rfl (lv_at hl 0 rfl) ?_
  refine va_get (D := D) (ci := 3) (v := .ref (ad 1)) (C := RX3) (T := TX3) (N := 3) hx hb hts hin_X3 hown hK.1 T.1 15 rfl rfl 0 (by decide) (hts _ (List.mem_of_getElem? (i := 3) rfl)) (fun _ h9 => h9) rfl dX3_play_5 ?_
  refine lv_aload_n hx hb dX3_play_8 rfl (lv_at hl 0 rfl) ?_
  refine va_get (D := D) (ci := 3) (v := .ref (ad 7)) (C := RX3) (T := TX3) (N := 3) hx hb hts hin_X3 hown hK.1 T.1 15 rfl rfl 1 (by decide) (hts _ (List.mem_of_getElem? (i := 4) rfl)) (fun _ h9 => h9) rfl dX3_play_9 ?_
  obtain ⟨S4, h3, hf⟩ := bnd_inv hf
  refine cg_V (q0 := 14) (ci := 0) (As := [.ref (ad 7)]) (rest := []) X T (kX0_listTurns l D cy ad Xr S 0 S4 h3 (by decide)) (cwV 1 hts gX3_play_X0_listTurns rfl rfl rfl (by decide +kernel) ⟨Nat.le_of_ble_eq_true rfl, Nat.le_of_ble_eq_true rfl⟩) rfl rfl rfl hl.1 rfl (Nat.le_of_ble_eq_true rfl) dX3_play_12 ⟨Nat.le_of_ble_eq_true rfl, Nat.le_of_ble_eq_true rfl⟩ (st2 := []) (pc2 := 15) rfl rfl (fun H locs T => ?_)
  refine lv_aload_n hx hb dX3_play_15 rfl (lv_at hl 0 rfl) ?_
  refine va_get (D := D) (ci := 3) (v := .ref (ad 7)) (C := RX3) (T := TX3) (N := 3) hx hb hts hin_X3 hown hK.1 T.1 15 rfl rfl 1 (by decide) (hts _ (List.mem_of_getElem? (i := 4) rfl)) (fun _ h9 => h9) rfl dX3_play_16 ?_
  refine lv_iload_n hx hb dX3_play_19 rfl (lv_at hl 1 rfl) ?_
  obtain ⟨v6, h5, hf⟩ := bnd_inv hf
  refine cg_V (q0 := 8) (ci := 2) (As := [.int x1]) (rest := []) X T (kX2_holds l D cy ad Xr S4 0 x1 v6 h5 (by decide)) (cwV 1 hts gX3_play_X2_holds rfl rfl rfl (by decide +kernel) ⟨Nat.le_of_ble_eq_true rfl, Nat.le_of_ble_eq_true rfl⟩) rfl rfl rfl hl.1 rfl (Nat.le_of_ble_eq_true rfl) dX3_play_20 ⟨Nat.le_of_ble_eq_true rfl, Nat.le_of_ble_eq_true rfl⟩ (st2 := [.int v6]) (pc2 := 23) rfl rfl (fun H locs T => ?_)
  refine lv_if_ne (tgt := 36) hx hb dX3_play_23 (by decide) (fun hc => ?_) (fun hc => ?_)
  · replace hf := ifn hc hf
    refine lv_aload_n hx hb dX3_play_36 rfl (lv_at hl 0 rfl) ?_
    refine va_get (D := D) (ci := 3) (v := .ref (ad 1)) (C := RX3) (T := TX3) (N := 3) hx hb hts hin_X3 hown hK.1 T.1 15 rfl rfl 0 (by decide) (hts _ (List.mem_of_getElem? (i := 3) rfl)) (fun _ h9 => h9) rfl dX3_play_37 ?_
    refine lv_iload_n hx hb dX3_play_40 rfl (lv_at hl 1 rfl) ?_
    obtain ⟨S8, h7, hf⟩ := bnd_inv hf
    refine cg_V (q0 := 14) (ci := 0) (As := [.int x1]) (rest := []) X T (kX0_perform l D cy ad Xr S4 x1 S8 h7) (cwV 1 hts gX3_play_X0_perform rfl rfl rfl (by decide +kernel) ⟨Nat.le_of_ble_eq_true rfl, Nat.le_of_ble_eq_true rfl⟩) rfl rfl rfl hl.1 rfl (Nat.le_of_ble_eq_true rfl) dX3_play_41 ⟨Nat.le_of_ble_eq_true rfl, Nat.le_of_ble_eq_true rfl⟩ (st2 := []) (pc2 := 44) rfl rfl (fun H locs T => ?_)
    refine lv_aload_n hx hb dX3_play_44 rfl (lv_at hl 0 rfl) ?_
    refine va_get (D := D) (ci := 3) (v := .ref (ad 1)) (C := RX3) (T := TX3) (N := 3) hx hb hts hin_X3 hown hK.1 T.1 15 rfl rfl 0 (by decide) (hts _ (List.mem_of_getElem? (i := 3) rfl)) (fun _ h9 => h9) rfl dX3_play_45 ?_
    refine va_getN (D := D) (ci := 0) (v := .int (S8.1 6)) (C := RX0) (T := TX0) (N := 13) hx hb hts hin_X0 hown hK.1 T.1 14 rfl rfl 11 (by decide) (va_Nw.use rfl (hK.2 _ (List.mem_of_getElem? (i := 2) rfl))) (fun _ h9 => h9) rfl dX3_play_48 ?_
    exact nf_iw hf er X T hr dX3_play_51
  · replace hf := ifp hc hf
    exact nf_xw hf er

set_option maxHeartbeats 4000000 in
set_option maxRecDepth 100000 in
theorem kN_X3_takeBack (l : Launch) (t1 t2 : Nat) (D : va_G) (cy : Nat → ClassId) (ad : Nat → Nat) (Xr : va_W) (S : SC) (r : ((Int32 ⊕ Nat) × SC)) (hf : fX3_takeBack S = some r) {v : Int32} {S' : SC} (er : r = (.inl v, S')) : CGs l t1 t2 D cy (wC cy ad Xr) yX3_takeBack wsX3_takeBack ({ frames := 3, cells := 0, slots := 0, locals := 70 } : Room) [.ref (ad 0)] S (some (.int v)) S' := by
  refine CGs.of (cc := cX3_takeBack) (maxL := 1) (ret := (some .int)) (by decide +kernel) rfl (Nat.le_of_ble_eq_true rfl) ?_
  intro p e s m below meth c A ls X hr T hl hX
  obtain ⟨hx, hb, hml, hown, hts, hlk, hK, hA, hwA⟩ := id X
  have hl : lv_has ls 1 [(0, .ref (ad 0))] := hl
  have hin_X0 : ∀ w ∈ u_ws RX0 TX0 13, w ∈ wsX3_takeBack := fun w h => (List.mem_cons_of_mem _ (List.mem_append_left _ (List.mem_append_right _ h)))
  have hin_X3 : ∀ w ∈ u_ws RX3 TX3 3, w ∈ wsX3_takeBack := fun w h => (List.mem_cons_of_mem _ (List.mem_append_left _ (List.mem_append_left _ (List.mem_append_right _ h))))
  unfold fX3_takeBack at hf
  refine lv_aload_n hx hb dX3_takeBack_0 rfl (lv_at hl 0 rfl) ?_
  refine va_get (D := D) (ci := 3) (v := .ref (ad 1)) (C := RX3) (T := TX3) (N := 3) hx hb hts hin_X3 hown hK.1 T.1 15 rfl rfl 0 (by decide) (hts _ (List.mem_of_getElem? (i := 3) rfl)) (fun _ h9 => h9) rfl dX3_takeBack_1 ?_
  refine va_getN (D := D) (ci := 0) (v := .int (S.1 5)) (C := RX0) (T := TX0) (N := 13) hx hb hts hin_X0 hown hK.1 T.1 14 rfl rfl 10 (by decide) (va_Nw.use rfl (hK.2 _ (List.mem_of_getElem? (i := 3) rfl))) (fun _ h9 => h9) rfl dX3_takeBack_4 ?_
  refine lv_if_ne (tgt := 20) hx hb dX3_takeBack_7 (by decide) (fun hc => ?_) (fun hc => ?_)
  · replace hf := ifn hc hf
    refine lv_aload_n hx hb dX3_takeBack_20 rfl (lv_at hl 0 rfl) ?_
    refine va_get (D := D) (ci := 3) (v := .ref (ad 1)) (C := RX3) (T := TX3) (N := 3) hx hb hts hin_X3 hown hK.1 T.1 15 rfl rfl 0 (by decide) (hts _ (List.mem_of_getElem? (i := 3) rfl)) (fun _ h9 => h9) rfl dX3_takeBack_21 ?_
    obtain ⟨S2, h1, hf⟩ := bnd_inv hf
    refine cg_V (q0 := 14) (ci := 0) (As := []) (rest := []) X T (kX0_undo l D cy ad Xr S S2 h1) (cwV 0 hts gX3_takeBack_X0_undo rfl rfl rfl (by decide +kernel) ⟨Nat.le_of_ble_eq_true rfl, Nat.le_of_ble_eq_true rfl⟩) rfl rfl rfl hl.1 rfl (Nat.le_of_ble_eq_true rfl) dX3_takeBack_24 ⟨Nat.le_of_ble_eq_true rfl, Nat.le_of_ble_eq_true rfl⟩ (st2 := []) (pc2 := 27) rfl rfl (fun H locs T => ?_)
    refine lv_aload_n hx hb dX3_takeBack_27 rfl (lv_at hl 0 rfl) ?_
    refine va_get (D := D) (ci := 3) (v := .ref (ad 1)) (C := RX3) (T := TX3) (N := 3) hx hb hts hin_X3 hown hK.1 T.1 15 rfl rfl 0 (by decide) (hts _ (List.mem_of_getElem? (i := 3) rfl)) (fun _ h9 => h9) rfl dX3_takeBack_28 ?_
    refine va_getN (D := D) (ci := 0) (v := .int (S2.1 5)) (C := RX0) (T := TX0) (N := 13) hx hb hts hin_X0 hown hK.1 T.1 14 rfl rfl 10 (by decide) (va_Nw.use rfl (hK.2 _ (List.mem_of_getElem? (i := 3) rfl))) (fun _ h9 => h9) rfl dX3_takeBack_31 ?_
    exact nf_iw hf er X T hr dX3_takeBack_34
  · replace hf := ifp hc hf
    exact nf_xw hf er

set_option maxHeartbeats 4000000 in
set_option maxRecDepth 100000 in
theorem kN_X3_best (l : Launch) (t1 t2 : Nat) (D : va_G) (cy : Nat → ClassId) (ad : Nat → Nat) (Xr : va_W) (S : SC) (x1 : Int32) (r : ((Int32 ⊕ Nat) × SC)) (hf : fX3_best S x1 = some r) {v : Int32} {S' : SC} (er : r = (.inl v, S')) : CGs l t1 t2 D cy (wC cy ad Xr) yX3_best wsX3_best ({ frames := 181, cells := 0, slots := 0, locals := 9024 } : Room) [.ref (ad 0), .int x1] S (some (.int v)) S' := by
  refine CGs.of (cc := cX3_best) (maxL := 5) (ret := (some .int)) (by decide +kernel) rfl (Nat.le_of_ble_eq_true rfl) ?_
  intro p e s m below meth c A ls X hr T hl hX
  obtain ⟨hx, hb, hml, hown, hts, hlk, hK, hA, hwA⟩ := id X
  have hl : lv_has ls 5 [(0, .ref (ad 0)), (1, .int x1)] := hl
  have hin_X2 : ∀ w ∈ u_ws RX2 TX2 2, w ∈ wsX3_best := fun w h => (List.mem_cons_of_mem _ (List.mem_append_left _ (List.mem_append_left _ (List.mem_append_left _ (List.mem_append_left _ (List.mem_append_right _ h))))))
  have hin_X3 : ∀ w ∈ u_ws RX3 TX3 3, w ∈ wsX3_best := fun w h => (List.mem_cons_of_mem _ (List.mem_append_left _ (List.mem_append_left _ (List.mem_append_left _ (List.mem_append_left _ (List.mem_append_left _ (List.mem_append_right _ h)))))))
  unfold fX3_best at hf
  have l_32 : ∀ (y1 : Int32) (y2 : Int32) (n : Nat) (y3 : Int32) (S_32 : SC) (H : Heap) (locs : List Loc) (ls : Array Slot), loop (fX3_best_b32 y1 y2) n (y3, S_32) = some r → ST D (wC cy ad Xr) A s S_32 H locs → lv_has ls 5 [(0, .ref (ad 0)), (1, .int y1), (2, .int y2), (3, .int y3)] → W p l e ({ frames := 181, cells := 0, slots := 0, locals := 9024 } : Room) s m [.ref (ad 0), .int x1].toArray below meth c H locs 0 0 (MQ below (QG D (wC cy ad Xr) A (some (.int v)) S') [.ref (ad 0), .int x1].toArray s 0 0 A) (F0 m 32 ls []) := by
    intro y1 y2 n
    induction n with
    | zero => intro _ _ _ _ _ hf; cases hf
    | succ n ih_32 =>
      intro y3 S_32 H locs ls hf T hl
      obtain ⟨z_32, hf, hin_32, hex_32⟩ := loop_inv hf
      unfold fX3_best_b32 at hf
      dsimp only at hf
      refine lv_iload_n hx hb dX3_best_32 rfl (lv_at hl 3 rfl) ?_
      refine lv_aload_n hx hb dX3_best_33 rfl (lv_at hl 0 rfl) ?_
      refine va_get (D := D) (ci := 3) (v := .ref (ad 7)) (C := RX3) (T := TX3) (N := 3) hx hb hts hin_X3 hown hK.1 T.1 15 rfl rfl 1 (by decide) (hts _ (List.mem_of_getElem? (i := 3) rfl)) (fun _ h9 => h9) rfl dX3_best_34 ?_
      refine va_getN (D := D) (ci := 2) (v := .int (S_32.1 8)) (C := RX2) (T := TX2) (N := 2) hx hb hts hin_X2 hown hK.1 T.1 8 rfl rfl 1 (by decide) (va_Nw.use rfl (hK.2 _ (List.mem_of_getElem? (i := 0) rfl))) (fun _ h9 => h9) rfl dX3_best_37 ?_
      refine lv_icmp_ge (tgt := 80) hx hb dX3_best_40 (by decide) (fun hc => ?_) (fun hc => ?_)
      · replace hf := ifp hc hf
        obtain ⟨r0, hf, hz⟩ := ex_inv hf
        rw [hex_32 r0 hz] at hf
        refine lv_iconst (v := (-1)) hx hb dX3_best_80 (by decide) ?_
        exact nf_iw hf er X T hr dX3_best_81
      · replace hf := ifn hc hf
        refine lv_aload_n hx hb dX3_best_43 rfl (lv_at hl 0 rfl) ?_
        refine va_get (D := D) (ci := 3) (v := .ref (ad 7)) (C := RX3) (T := TX3) (N := 3) hx hb hts hin_X3 hown hK.1 T.1 15 rfl rfl 1 (by decide) (hts _ (List.mem_of_getElem? (i := 3) rfl)) (fun _ h9 => h9) rfl dX3_best_44 ?_
        refine lv_iload_n hx hb dX3_best_47 rfl (lv_at hl 3 rfl) ?_
        obtain ⟨v2, h1, hf⟩ := bnd_inv hf
        refine cg_V (q0 := 8) (ci := 2) (As := [.int y3]) (rest := []) X T (kX2_at l D cy ad Xr S_32 0 y3 v2 h1 (by decide)) (cwV 1 hts gX3_best_X2_at rfl rfl rfl (by decide +kernel) ⟨Nat.le_of_ble_eq_true rfl, Nat.le_of_ble_eq_true rfl⟩) rfl rfl rfl hl.1 rfl (Nat.le_of_ble_eq_true rfl) dX3_best_48 ⟨Nat.le_of_ble_eq_true rfl, Nat.le_of_ble_eq_true rfl⟩ (st2 := [.int v2]) (pc2 := 51) rfl rfl (fun H locs T => ?_)
        refine lv_istore (lv' := [(4, .int v2), (0, .ref (ad 0)), (1, .int y1), (2, .int y2), (3, .int y3)]) hx hb dX3_best_51 hl (by decide) rfl (fun ls hl => ?_)
        refine lv_aload_n hx hb dX3_best_53 rfl (lv_at hl 1 rfl) ?_
        refine va_get (D := D) (ci := 3) (v := .ref (ad 15)) (C := RX3) (T := TX3) (N := 3) hx hb hts hin_X3 hown hK.1 T.1 15 rfl rfl 2 (by decide) (hts _ (List.mem_of_getElem? (i := 1) rfl)) (fun _ h9 => h9) rfl dX3_best_54 ?_
        refine lv_aload_n hx hb dX3_best_57 rfl (lv_at hl 1 rfl) ?_
        refine va_get (D := D) (ci := 3) (v := .ref (ad 1)) (C := RX3) (T := TX3) (N := 3) hx hb hts hin_X3 hown hK.1 T.1 15 rfl rfl 0 (by decide) (hts _ (List.mem_of_getElem? (i := 2) rfl)) (fun _ h9 => h9) rfl dX3_best_58 ?_
        refine lv_iload hx hb dX3_best_61 (lv_at hl 0 rfl) ?_
        refine lv_iload_n hx hb dX3_best_63 rfl (lv_at hl 2 rfl) ?_
        obtain ⟨v4, h3, hf⟩ := bnd_inv hf
        refine cg_VN (q0 := 6) (ci := 1) (As := [.ref (ad 1), .int v2, .int y1]) (rest := []) X T (kX1_worthOf l D cy ad Xr (fX1_lookN 4) 160 8000 (kX1_lookN l D cy ad Xr 4) S_32 v2 y1 v4 h3) (va_cnB 3 hts ggX3_best_X1_worthOf rfl rfl rfl (hK.2 _ (List.mem_of_getElem? (i := 8) rfl)) (hts _ (List.mem_of_getElem? (i := 28) rfl)) (by decide +kernel) ⟨Nat.le_of_ble_eq_true rfl, Nat.le_of_ble_eq_true rfl⟩) (hts _ (List.mem_of_getElem? (i := 120) rfl)) (hts _ (List.mem_of_getElem? (i := 121) rfl)) rfl rfl rfl hl.1 rfl (Nat.le_of_ble_eq_true rfl) dX3_best_64 ⟨Nat.le_of_ble_eq_true rfl, Nat.le_of_ble_eq_true rfl⟩ (st2 := [.int v4.1]) (pc2 := 67) rfl rfl (fun H locs T => ?_)
        refine lv_iload_n hx hb dX3_best_67 rfl (lv_at hl 3 rfl) ?_
        refine lv_icmp_ne (tgt := 74) hx hb dX3_best_68 (by decide) (fun hc => ?_) (fun hc => ?_)
        · replace hf := ifn hc hf
          obtain ⟨v5, e_v5, hf⟩ := nm_inv hf
          refine lv_iinc (v := v5) (lv' := [(3, .int v5), (4, .int v2), (0, .ref (ad 0)), (1, .int y1), (2, .int y2)]) hx hb dX3_best_74 hl (k := 4) rfl (by rw [e_v5]; rfl) (by decide) rfl (fun ls hl => ?_)
          refine lv_goto (tgt := 32) hx hb dX3_best_77 (by decide) ?_
          exact ih_32 v5 v4.2 _ _ _ (hin_32 _ (Option.some.inj hf).symm) T (lv_sub hl [2, 3, 4, 0] rfl)
        · replace hf := ifp hc hf
          obtain ⟨r0, hf, hz⟩ := ex_inv hf
          rw [hex_32 r0 hz] at hf
          refine lv_iload hx hb dX3_best_71 (lv_at hl 0 rfl) ?_
          exact nf_iw hf er X T hr dX3_best_73
  refine lv_aload_n hx hb dX3_best_0 rfl (lv_at hl 0 rfl) ?_
  refine lv_iload_n hx hb dX3_best_1 rfl (lv_at hl 1 rfl) ?_
  refine lv_iconst (v := 1) hx hb dX3_best_2 (by decide) ?_
  rcases (bndxS_inv hf).symm with ⟨e9, h6, hf⟩ | ⟨v7, h6, hf⟩
  · exact nf_yw hf er
  refine cgs_V (q0 := 15) (ci := 3) (As := [.int x1, .int 1]) (rest := []) X hX T (kN_X3_requireAhead l t1 t2 D cy ad Xr S x1 1 _ h6 rfl) (cwV 2 hts gX3_best_X3_requireAhead rfl rfl rfl (by decide +kernel) ⟨(Nat.le_of_ble_eq_true rfl), (Nat.le_of_ble_eq_true rfl)⟩) rfl rfl rfl hl.1 rfl (Nat.le_of_ble_eq_true rfl) dX3_best_3 ⟨Nat.zero_le _, Nat.zero_le _⟩ (st2 := []) (pc2 := 6) rfl rfl (fun H locs T => ?_)
  refine lv_aload_n hx hb dX3_best_6 rfl (lv_at hl 0 rfl) ?_
  refine va_get (D := D) (ci := 3) (v := .ref (ad 15)) (C := RX3) (T := TX3) (N := 3) hx hb hts hin_X3 hown hK.1 T.1 15 rfl rfl 2 (by decide) (hts _ (List.mem_of_getElem? (i := 1) rfl)) (fun _ h9 => h9) rfl dX3_best_7 ?_
  refine lv_aload_n hx hb dX3_best_10 rfl (lv_at hl 0 rfl) ?_
  refine va_get (D := D) (ci := 3) (v := .ref (ad 1)) (C := RX3) (T := TX3) (N := 3) hx hb hts hin_X3 hown hK.1 T.1 15 rfl rfl 0 (by decide) (hts _ (List.mem_of_getElem? (i := 2) rfl)) (fun _ h9 => h9) rfl dX3_best_11 ?_
  refine lv_iload_n hx hb dX3_best_14 rfl (lv_at hl 1 rfl) ?_
  obtain ⟨v9, h8, hf⟩ := bnd_inv hf
  refine cg_VN (q0 := 6) (ci := 1) (As := [.ref (ad 1), .int x1]) (rest := []) X T (kX1_lookN l D cy ad Xr 4 S x1 v9 h8) (va_cnB 2 hts ggX3_best_X1_look rfl rfl rfl (hK.2 _ (List.mem_of_getElem? (i := 7) rfl)) (hts _ (List.mem_of_getElem? (i := 28) rfl)) (by decide +kernel) ⟨Nat.le_of_ble_eq_true rfl, Nat.le_of_ble_eq_true rfl⟩) (hts _ (List.mem_of_getElem? (i := 27) rfl)) (hts _ (List.mem_of_getElem? (i := 29) rfl)) rfl rfl rfl hl.1 rfl (Nat.le_of_ble_eq_true rfl) dX3_best_15 ⟨Nat.le_of_ble_eq_true rfl, Nat.le_of_ble_eq_true rfl⟩ (st2 := [.int v9.1]) (pc2 := 18) rfl rfl (fun H locs T => ?_)
  refine lv_istore_n (lv' := [(2, .int v9.1), (0, .ref (ad 0)), (1, .int x1)]) hx hb dX3_best_18 rfl hl (by decide) rfl (fun ls hl => ?_)
  refine lv_aload_n hx hb dX3_best_19 rfl (lv_at hl 1 rfl) ?_
  refine va_get (D := D) (ci := 3) (v := .ref (ad 1)) (C := RX3) (T := TX3) (N := 3) hx hb hts hin_X3 hown hK.1 T.1 15 rfl rfl 0 (by decide) (hts _ (List.mem_of_getElem? (i := 2) rfl)) (fun _ h9 => h9) rfl dX3_best_20 ?_
  refine lv_aload_n hx hb dX3_best_23 rfl (lv_at hl 1 rfl) ?_
  refine va_get (D := D) (ci := 3) (v := .ref (ad 7)) (C := RX3) (T := TX3) (N := 3) hx hb hts hin_X3 hown hK.1 T.1 15 rfl rfl 1 (by decide) (hts _ (List.mem_of_getElem? (i := 3) rfl)) (fun _ h9 => h9) rfl dX3_best_24 ?_
  obtain ⟨S11, h10, hf⟩ := bnd_inv hf
  refine cg_V (q0 := 14) (ci := 0) (As := [.ref (ad 7)]) (rest := []) X T (kX0_listTurns l D cy ad Xr v9.2 0 S11 h10 (by decide)) (cwV 1 hts gX3_best_X0_listTurns rfl rfl rfl (by decide +kernel) ⟨Nat.le_of_ble_eq_true rfl, Nat.le_of_ble_eq_true rfl⟩) rfl rfl rfl hl.1 rfl (Nat.le_of_ble_eq_true rfl) dX3_best_27 ⟨Nat.le_of_ble_eq_true rfl, Nat.le_of_ble_eq_true rfl⟩ (st2 := []) (pc2 := 30) rfl rfl (fun H locs T => ?_)
  refine lv_iconst (v := 0) hx hb dX3_best_30 (by decide) ?_
  refine lv_istore_n (lv' := [(3, .int 0), (2, .int v9.1), (0, .ref (ad 0)), (1, .int x1)]) hx hb dX3_best_31 rfl hl (by decide) rfl (fun ls hl => ?_)
  exact l_32 x1 v9.1 FUEL 0 S11 _ _ _ hf T (lv_sub hl [2, 3, 1, 0] rfl)
