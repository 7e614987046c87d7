set_option maxRecDepth 100000
/-! act -/
theorem bnd_eta (x : Option (Int32 × SC)) : bnd x (fun v => some (v.1, v.2)) = x := by cases x <;> rfl
theorem zyTo.eq {f f' : SC → Option (Int32 × SC)} {a b : ZA} {t : Int32} (h : ∀ S, f S = f' S) (k : zyTo f' a t b) : zyTo f a t b := fun S J => by rw [h]; exact k S J
theorem zyTo.seq {f : SC → Option (Int32 × SC)} {k : Int32 × SC → Option (Int32 × SC)} {a b c : ZA} {u t : Int32} (h1 : zyTo f a u b) (h2 : zyTo (fun S => k (u, S)) b t c) : zyTo (fun S => bnd (f S) k) a t c := by
  intro S J
  obtain ⟨S1, e1, J1⟩ := h1 S J
  obtain ⟨S2, e2, J2⟩ := h2 S1 J1
  exact ⟨S2, by show bnd (f S) k = _; rw [e1]; exact e2, J2⟩
theorem zq_l7 : (7 : Int32) = zq 7 := Int32.toInt_inj.mp rfl
theorem zq_l9 : (9 : Int32) = zq 9 := Int32.toInt_inj.mp rfl
theorem zq_l24 : (24 : Int32) = zq 24 := Int32.toInt_inj.mp rfl
theorem zq_l27 : (27 : Int32) = zq 27 := Int32.toInt_inj.mp rfl
theorem zq_l20000 : (20000 : Int32) = zq 20000 := Int32.toInt_inj.mp rfl
theorem zq_m99999 : (-99999 : Int32) = zq (-99999) := Int32.toInt_inj.mp rfl
theorem zq_m99998 : (-99998 : Int32) = zq (-99998) := Int32.toInt_inj.mp rfl
theorem zq_n9 {u : Int} (h : -1 ≤ u ∧ u < 100000) : zq u ≠ -99999 := by
  intro e
  rw [zq_m99999, zq_eq (by omega)] at e
  omega
theorem zlow2 (S : SC) (x : Int32) : fL_low S x 2 = some (zq (zqLow x 2)) := by rw [zq_l2]; exact zl_low S x (by omega)
theorem zlow3 (S : SC) (x : Int32) : fL_low S x 3 = some (zq (zqLow x 3)) := by rw [zq_l3]; exact zl_low S x (by omega)
theorem zlow4 (S : SC) (x : Int32) : fL_low S x 4 = some (zq (zqLow x 4)) := by rw [zq_l4]; exact zl_low S x (by omega)
theorem zlow7 (S : SC) (x : Int32) : fL_low S x 7 = some (zq (zqLow x 7)) := by rw [zq_l7]; exact zl_low S x (by omega)
theorem zlow9 (S : SC) (x : Int32) : fL_low S x 9 = some (zq (zqLow x 9)) := by rw [zq_l9]; exact zl_low S x (by omega)
theorem zlow24 (S : SC) (x : Int32) : fL_low S x 24 = some (zq (zqLow x 24)) := by rw [zq_l24]; exact zl_low S x (by omega)
theorem zlow27 (S : SC) (x : Int32) : fL_low S x 27 = some (zq (zqLow x 27)) := by rw [zq_l27]; exact zl_low S x (by omega)
theorem zlow20000 (S : SC) (x : Int32) : fL_low S x 20000 = some (zq (zqLow x 20000)) := by rw [zq_l20000]; exact zl_low S x (by omega)
def zqSm2 (x : Int) : Prop := -100 ≤ x ∧ x < 1000000
theorem za_begin (y1 y2 : Int32) (hy : y2 = 0 ∨ y2 = 1) (R : Int) : ∃ C B p0 p1 : Int, (zqSm2 C ∧ zqSm2 B ∧ zqSm2 p0 ∧ zqSm2 p1) ∧ ∀ S, fL_act_j121 y1 y2 (zq R) S = fL_begin S (zq R) (zq C) (zq B) (zq p0) (zq p1) := by
  have h10 : ((1 : Int32) = 0) = False := eq_false (by decide)
  have r := fun (x : Int32) (n : Int) (h : 1 ≤ n) => zq_low x h
  unfold fL_act_j121 fL_act_j147 fL_act_j172 fL_act_j187 fL_act_j199 zqSm2
  rcases hy with rfl | rfl
  · simp only [ite_true, zlow2, zlow7, zq_bnd, bnd_eta]
    have r1 := r (y1 >>> ((7 : Int32) &&& 31)) 2 (by omega)
    have r2 := r (y1 >>> ((10 : Int32) &&& 31)) 2 (by omega)
    have r3 := r (y1 >>> ((12 : Int32) &&& 31)) 7 (by omega)
    have r4 := r (y1 >>> ((15 : Int32) &&& 31)) 7 (by omega)
    refine ⟨3 + zqLow (y1 >>> ((7 : Int32) &&& 31)) 2, 1 + zqLow (y1 >>> ((10 : Int32) &&& 31)) 2, zqLow (y1 >>> ((12 : Int32) &&& 31)) 7 - 0, zqLow (y1 >>> ((15 : Int32) &&& 31)) 7, by omega, fun S => ?_⟩
    rw [← zq_add, ← zq_add, ← zq_sub]; rfl
  · simp only [h10, ite_false, zlow4, zlow7, zlow9, zq_bnd, bnd_eta]
    have r1 := r (y1 >>> ((7 : Int32) &&& 31)) 7 (by omega)
    have r2 := r (y1 >>> ((10 : Int32) &&& 31)) 4 (by omega)
    have r3 := r (y1 >>> ((12 : Int32) &&& 31)) 9 (by omega)
    have r4 := r (y1 >>> ((15 : Int32) &&& 31)) 7 (by omega)
    refine ⟨zqLow (y1 >>> ((7 : Int32) &&& 31)) 7, zqLow (y1 >>> ((10 : Int32) &&& 31)) 4, zqLow (y1 >>> ((12 : Int32) &&& 31)) 9 - 1, zqLow (y1 >>> ((15 : Int32) &&& 31)) 7, by omega, fun S => ?_⟩
    rw [← zq_sub]; rfl
/-- what a step of the law may answer -/
def zyGood (x : Int32) (a : ZA) (t : Int32) (b : ZA) : Prop := (t = -99999 ∧ b = a) ∨ (t ≠ -99999 ∧ (zqLow x 24 = 0 → t = zq b.g.n) ∧ (zqLow x 24 ≠ 0 → b.g.n = a.g.n))
theorem za_raise {S0 : SC} {a : ZA} (J0 : zyI S0 a) (x : Int32) (hx : zqLow x 24 ≠ 0) {c h : Int} (hc : zqSm2 c) (hh : zqSm2 h) : ∃ t b, zyGood x a t b ∧ zyTo (fun S => fL_raise S (zq c) (zq h)) a t b := by
  unfold zqSm2 at hc hh
  by_cases ok : zyRok a.g a.q c h
  · have w := zyJ.w J0
    have hn := w.n
    have r := w.h c ok.1.1 (by have := ok.1.2; omega)
    exact ⟨_, ZA.mk (a.g.rs c h) a.q a.v a.H, Or.inr ⟨zq_n9 (u := a.g.h c) (by omega), fun q => absurd q hx, fun _ => rfl⟩, zt_raise1 a ok⟩
  · exact ⟨_, _, Or.inl ⟨rfl, rfl⟩, zt_raise0 a (by omega) (by omega) ok⟩
theorem za_place {S0 : SC} {a : ZA} (J0 : zyI S0 a) (x : Int32) (hx : zqLow x 24 ≠ 0) {c : Int} (hc : zqSm2 c) : ∃ t b, zyGood x a t b ∧ zyTo (fun S => fL_place S (zq c)) a t b := by
  unfold zqSm2 at hc
  by_cases ok : zyPok a.g a.q c
  · refine ⟨_, ZA.mk (a.g.put (zqIx a.g.B a.q) c) (a.q + 1) (zyPv a.g a.q c) [], Or.inr ⟨zq_n9 ?_, fun q => absurd q hx, fun _ => rfl⟩, zt_place1 a ok⟩
    unfold zqOT
    split
    · split
      · omega
      · split <;> omega
    · omega
  · exact ⟨_, _, Or.inl ⟨rfl, rfl⟩, zt_place0 a (by omega) ok⟩
theorem za_play {S0 : SC} {a : ZA} (J0 : zyI S0 a) (x : Int32) (hx : zqLow x 24 ≠ 0) {c : Int} (hc : zqSm2 c) : ∃ t b, zyGood x a t b ∧ zyTo (fun S => fL_play S (zq c)) a t b := by
  unfold zqSm2 at hc
  by_cases ok : a.q = 2 * a.g.B ∧ c ∈ zqTl a.g a.v
  · have w := zyJ.w J0
    refine ⟨_, ZA.mk (a.g.act c) a.q (zyWv a.g c) ((a.g, c) :: a.H), Or.inr ⟨zq_n9 ?_, fun q => absurd q hx, fun _ => rfl⟩, zt_play1 a ok.1 ok.2⟩
    have := w.m
    unfold zyWv
    split <;> omega
  · exact ⟨_, _, Or.inl ⟨rfl, rfl⟩, zt_play0 a (by omega) ok⟩
theorem za_takeBack {S0 : SC} {a : ZA} (J0 : zyI S0 a) (x : Int32) (hx : zqLow x 24 ≠ 0) : ∃ t b, zyGood x a t b ∧ zyTo fL_takeBack a t b := by
  obtain ⟨g, q, v, H⟩ := a
  match H, J0 with
  | [], J0 => exact ⟨_, _, Or.inl ⟨rfl, rfl⟩, zt_takeBack0⟩
  | y :: H, J0 =>
    have J1 : zyJ S0 g q v (y :: H) := J0
    have len := J1.len
    rw [List.length_cons] at len
    obtain ⟨S', -, -, e, -⟩ := zy_takeBack1 J1
    refine ⟨_, _, Or.inr ⟨zq_n9 (by omega), fun q => absurd q hx, fun _ => ?_⟩, zt_takeBack1⟩
    show y.1.n = g.n
    rw [e]; rfl
theorem za_begin2 {S0 : SC} {a : ZA} (J0 : zyI S0 a) (x : Int32) (hx : zqLow x 24 = 0) {R C B p0 p1 : Int} (hR : zqSm2 R) (h : zqSm2 C ∧ zqSm2 B ∧ zqSm2 p0 ∧ zqSm2 p1) : ∃ t b, zyGood x a t b ∧ zyTo (fun S => fL_begin S (zq R) (zq C) (zq B) (zq p0) (zq p1)) a t b := by
  unfold zqSm2 at hR h
  by_cases ok : zyOk R C B p0 p1
  · have RC := zq_RC ok.1 ok.2.1
    exact ⟨zq (R * C), ZA.mk (zqG0 R C B p0 p1) 0 (-1) [], Or.inr ⟨zq_n9 (by omega), fun _ => rfl, fun q => absurd hx q⟩, zt_begin1 a ok⟩
  · exact ⟨_, _, Or.inl ⟨rfl, rfl⟩, zt_begin0 a (by omega) (by omega) (by omega) (by omega) (by omega) ok⟩
theorem za_48 {S0 : SC} {a : ZA} (J0 : zyI S0 a) (x y2 : Int32) (hy : y2 = 0 ∨ y2 = 1) {c : Int} (hc : zqSm2 c) : ∃ t b, zyGood x a t b ∧ zyTo (fun S => fL_act_j48 x y2 (zq (zyMn a)) (zq c) S) a t b := by
  have hk := zq_low x (n := 24) (by omega)
  have h10 : ((1 : Int32) = 0) = False := eq_false (by decide)
  have hM := zy_Mn J0
  generalize hkk : zqLow x 24 = k at hk
  have e0 : (zq k = 0) = (k = 0) := by rw [zq_l0]; exact zq_eq (by omega)
  have e1 : (zq k = 1) = (k = 1) := by rw [zq_l1]; exact zq_eq (by omega)
  have e2 : (zq k = 2) = (k = 2) := by rw [zq_l2]; exact zq_eq (by omega)
  have e3 : (zq k = 3) = (k = 3) := by rw [zq_l3]; exact zq_eq (by omega)
  have e4 : (zq k = 4) = (k = 4) := by rw [zq_l4]; exact zq_eq (by omega)
  have e5 : (zq k = 5) = (k = 5) := by rw [zq_l5]; exact zq_eq (by omega)
  have r := fun (x : Int32) (n : Int) (h : 1 ≤ n) => zq_low x h
  -- raise, by either road
  have rr : ∃ h : Int, zqSm2 h ∧ ∀ S, (if y2 = 0 then bnd (fL_low S (x >>> ((9 : Int32) &&& 31)) 4) (fun v31 => fL_act_j247 (zq c) v31 S) else bnd (fL_low S (x >>> ((9 : Int32) &&& 31)) 7) (fun v33 => fL_act_j247 (zq c) (v33 - 1) S)) = fL_raise S (zq c) (zq h) := by
    unfold fL_act_j247 zqSm2
    rcases hy with rfl | rfl
    · have r1 := r (x >>> ((9 : Int32) &&& 31)) 4 (by omega)
      refine ⟨zqLow (x >>> ((9 : Int32) &&& 31)) 4, by omega, fun S => ?_⟩
      rw [if_pos rfl, zlow4, zq_bnd, bnd_eta]
    · have r1 := r (x >>> ((9 : Int32) &&& 31)) 7 (by omega)
      refine ⟨zqLow (x >>> ((9 : Int32) &&& 31)) 7 - 1, by omega, fun S => ?_⟩
      rw [if_neg (by decide), zlow7, zq_bnd, bnd_eta, ← zq_sub]; rfl
  obtain ⟨hr, hr1, hr2⟩ := rr
  -- begin
  have bb : ∃ R : Int, zqSm2 R ∧ ∀ S, (if y2 = 0 then bnd (fL_low S (x >>> ((4 : Int32) &&& 31)) 3) (fun v25 => fL_act_j121 x y2 ((2 : Int32) + v25) S) else bnd (fL_low S (x >>> ((4 : Int32) &&& 31)) 7) (fun v27 => fL_act_j121 x y2 v27 S)) = fL_act_j121 x y2 (zq R) S := by
    unfold zqSm2
    rcases hy with rfl | rfl
    · have r1 := r (x >>> ((4 : Int32) &&& 31)) 3 (by omega)
      refine ⟨2 + zqLow (x >>> ((4 : Int32) &&& 31)) 3, by omega, fun S => ?_⟩
      rw [if_pos rfl, zlow3, zq_bnd, ← zq_add]; rfl
    · have r1 := r (x >>> ((4 : Int32) &&& 31)) 7 (by omega)
      refine ⟨zqLow (x >>> ((4 : Int32) &&& 31)) 7, by omega, fun S => ?_⟩
      rw [if_neg (by decide), zlow7, zq_bnd]
  obtain ⟨R, hR, hbR⟩ := bb
  obtain ⟨C, B, p0, p1, hs, hb2⟩ := za_begin x y2 hy R
  have shape : ∀ S, fL_act_j48 x y2 (zq (zyMn a)) (zq c) S = if k = 0 then fL_begin S (zq R) (zq C) (zq B) (zq p0) (zq p1) else if k = 1 then fL_takeBack S else if k = 2 ∨ k = 3 ∨ k = 4 ∨ k = 5 then fL_raise S (zq c) (zq hr) else if 0 ≤ zyMn a then (if y2 = 0 then (if zyMn a = 0 then fL_act_j273 x S else bnd (fL_low S (x >>> ((4 : Int32) &&& 31)) (zq (zyMn a))) fun v => bnd (fL_turnAt S v) fun u => fL_act_j299 u.1 u.2) else fL_act_j273 x S) else fL_place S (zq c) := by
    intro S
    have m0 : (0 ≤ zq (zyMn a)) = (0 ≤ zyMn a) := by rw [zq_l0]; exact zq_le (by omega)
    have m1 : (zq (zyMn a) = 0) = (zyMn a = 0) := by rw [zq_l0]; exact zq_eq (by omega)
    unfold fL_act_j48
    rw [zlow24, hkk, zq_bnd, zq_nm]
    simp only [e0, e1, e2, e3, e4, e5, hbR, hb2, hr2, m0, m1, bnd_eta]
    by_cases k0 : k = 0
    · rw [if_pos k0, if_pos k0]
    · rw [if_neg k0, if_neg k0]
      by_cases k1 : k = 1
      · rw [if_pos k1, if_pos k1]
      · rw [if_neg k1, if_neg k1]
        by_cases k2 : k = 2
        · rw [if_pos k2, if_pos (by omega)]
        · rw [if_neg k2]
          by_cases k3 : k = 3
          · rw [if_pos k3, if_pos (by omega)]
          · rw [if_neg k3]
            by_cases k4 : k = 4
            · rw [if_pos k4, if_pos (by omega)]
            · rw [if_neg k4]
              by_cases k5 : k = 5
              · rw [if_pos k5, if_pos (by omega)]
              · rw [if_neg k5, if_neg (show ¬ (k = 2 ∨ k = 3 ∨ k = 4 ∨ k = 5) by omega)]
  by_cases k0 : k = 0
  · obtain ⟨t, b, h1, h2⟩ := za_begin2 J0 x (by omega) hR hs
    exact ⟨t, b, h1, h2.eq fun S => by rw [shape, if_pos k0]⟩
  · have hx : zqLow x 24 ≠ 0 := by omega
    by_cases k1 : k = 1
    · obtain ⟨t, b, h1, h2⟩ := za_takeBack J0 x hx
      exact ⟨t, b, h1, h2.eq fun S => by rw [shape, if_neg k0, if_pos k1]⟩
    · by_cases k5 : k = 2 ∨ k = 3 ∨ k = 4 ∨ k = 5
      · obtain ⟨t, b, h1, h2⟩ := za_raise J0 x hx hc hr1
        exact ⟨t, b, h1, h2.eq fun S => by rw [shape, if_neg k0, if_neg k1, if_pos k5]⟩
      · by_cases hm : 0 ≤ zyMn a
        · -- a number by chance
          have j273 : ∃ t b, zyGood x a t b ∧ zyTo (fun S => fL_act_j273 x S) a t b := by
            have r1 := r (x >>> ((4 : Int32) &&& 31)) 20000 (by omega)
            obtain ⟨t, b, h1, h2⟩ := za_play J0 x hx (c := zqLow (x >>> ((4 : Int32) &&& 31)) 20000 - 100) (by unfold zqSm2; omega)
            refine ⟨t, b, h1, h2.eq fun S => ?_⟩
            unfold fL_act_j273 fL_act_j299
            rw [zlow20000, zq_bnd, bnd_eta, ← zq_sub]; rfl
          obtain ⟨t3, b3, h31, h32⟩ := j273
          rcases hy with hy | hy
          · by_cases m0 : zyMn a = 0
            · exact ⟨t3, b3, h31, h32.eq fun S => by rw [shape, if_neg k0, if_neg k1, if_neg k5, if_pos hm, if_pos hy, if_pos m0]⟩
            · have r1 := r (x >>> ((4 : Int32) &&& 31)) (zyMn a) (by omega)
              have hq : a.q = 2 * a.g.B := Classical.byContradiction fun h => by
                unfold zyMn at hm; rw [if_neg h] at hm; omega
              have el : zyMn a = (zqTl a.g a.v).length := by unfold zyMn; rw [if_pos hq]
              have tA := zt_turnAt a (x := zqLow (x >>> ((4 : Int32) &&& 31)) (zyMn a)) (by omega)
              rw [if_pos hq, if_pos (by omega)] at tA
              have w := zyJ.w J0
              have rt := zq_trr w (zqLow (x >>> ((4 : Int32) &&& 31)) (zyMn a)).toNat
              obtain ⟨t, b, h1, h2⟩ := za_play J0 x hx (c := a.g.tr (zqLow (x >>> ((4 : Int32) &&& 31)) (zyMn a)).toNat) (by unfold zqSm2; omega)
              refine ⟨t, b, h1, ?_⟩
              refine zyTo.eq (f' := fun S => bnd (fL_turnAt S (zq (zqLow (x >>> ((4 : Int32) &&& 31)) (zyMn a)))) fun u => fL_act_j299 u.1 u.2) (fun S => ?_) ?_
              · rw [shape, if_neg k0, if_neg k1, if_neg k5, if_pos hm, if_pos hy, if_neg m0, zl_low _ _ (by omega), zq_bnd]
              · refine zyTo.seq tA ?_
                refine h2.eq fun S => ?_
                unfold fL_act_j299
                exact bnd_eta _
          · have n0 : ¬ y2 = 0 := by rw [hy]; decide
            exact ⟨t3, b3, h31, h32.eq fun S => by rw [shape, if_neg k0, if_neg k1, if_neg k5, if_pos hm, if_neg n0]⟩
        · obtain ⟨t, b, h1, h2⟩ := za_place J0 x hx hc
          exact ⟨t, b, h1, h2.eq fun S => by rw [shape, if_neg k0, if_neg k1, if_neg k5, if_neg hm]⟩
theorem za_act {S0 : SC} {a : ZA} (J0 : zyI S0 a) (x : Int32) : ∃ t b, zyGood x a t b ∧ zyTo (fun S => fL_act S x) a t b := by
  have r := fun (x : Int32) (n : Int) (h : 1 ≤ n) => zq_low x h
  have odd : ∃ y2 : Int32, (y2 = 0 ∨ y2 = 1) ∧ ∀ S, fL_act S x = fL_act_j17 x y2 S := by
    have r0 := r (x >>> ((24 : Int32) &&& 31)) 9 (by omega)
    have e0 : (zq (zqLow (x >>> ((24 : Int32) &&& 31)) 9) = 0) = (zqLow (x >>> ((24 : Int32) &&& 31)) 9 = 0) := by rw [zq_l0]; exact zq_eq (by omega)
    unfold fL_act
    by_cases h : zqLow (x >>> ((24 : Int32) &&& 31)) 9 = 0
    · refine ⟨1, Or.inr rfl, fun S => ?_⟩
      rw [zlow9, zq_bnd]
      simp only [e0]
      rw [if_pos h]
    · refine ⟨0, Or.inl rfl, fun S => ?_⟩
      rw [zlow9, zq_bnd]
      simp only [e0]
      rw [if_neg h]
  obtain ⟨y2, hy, e17⟩ := odd
  have cc : ∃ c : Int, zqSm2 c ∧ ∀ S, fL_act_j17 x y2 S = bnd (fL_turnCount S) fun v => fL_act_j48 x y2 v.1 (zq c) v.2 := by
    unfold fL_act_j17 zqSm2
    rcases hy with rfl | rfl
    · have r1 := r (x >>> ((4 : Int32) &&& 31)) 9 (by omega)
      refine ⟨zqLow (x >>> ((4 : Int32) &&& 31)) 9, by omega, fun S => ?_⟩
      simp only [ite_true, zlow9, zq_bnd]
    · have h10 : ((1 : Int32) = 0) = False := eq_false (by decide)
      have r1 := r (x >>> ((4 : Int32) &&& 31)) 27 (by omega)
      refine ⟨zqLow (x >>> ((4 : Int32) &&& 31)) 27 - 1, by omega, fun S => ?_⟩
      simp only [h10, ite_false, zlow27, zq_bnd]
      rw [← zq_sub]; rfl
  obtain ⟨c, hc, ec⟩ := cc
  obtain ⟨t, b, h1, h2⟩ := za_48 J0 x y2 hy hc
  refine ⟨t, b, h1, ?_⟩
  refine zyTo.eq (f' := fun S => bnd (fL_turnCount S) fun v => fL_act_j48 x y2 v.1 (zq c) v.2) (fun S => by rw [e17, ec]) ?_
  exact zyTo.seq (zt_turnCount a) h2
/-! areAlike, isBoardSo -/
theorem zq_l11 : (11 : Int32) = zq 11 := Int32.toInt_inj.mp rfl
theorem zq_bndn {α β : Type} (y : α) (k : α → Option β) : bndn (some (.inl y)) k = k y := rfl
theorem zq_bndnS {α β σ : Type} (y : α) (S : σ) (k : α → σ → Option β) : bndnS (some (.inl y, S)) k = k y S := rfl
theorem za_alike {S P : SC} {a : ZA} (J : zyI S a) (K : zyI P a) : ∃ S' P', fL_areAlike (S, P) (zq a.g.n) = some (1, (S', P')) ∧ zyI S' a ∧ zyI P' a := by
  obtain ⟨S1, e1, J1⟩ := zt_turnCount a S J
  obtain ⟨P1, e2, K1⟩ := zt_turnCount a P K
  refine ⟨S1, P1, ?_, J1, K1⟩
  have w := zyJ.w J
  have hn := w.n
  have r0 := zy_reached J1 (x := 0) (by omega)
  have r1 := zy_reached J1 (x := 1) (by omega)
  have s0 := zy_reached K1 (x := 0) (by omega)
  have s1 := zy_reached K1 (x := 1) (by omega)
  rw [← zq_l0] at r0 s0
  rw [← zq_l1] at r1 s1
  have lp : loop (fL_areAlike_b79 (zq a.g.n)) FUEL (1, 0, (S1, P1)) = some (1, (S1, P1)) := by
    refine zq_for (b := fL_areAlike_b79 (zq a.g.n)) (fun i => (1, zq i, (S1, P1))) a.g.n.toNat (by omega) ?_ ?_
    · intro i hi
      have n1 : ¬ zq a.g.n ≤ zq (i : Nat) := by rw [zq_le (by omega)]; omega
      have h10 : ¬ (1 : Int32) = 0 := by decide
      have a1 := zy_height J1 (x := (i : Nat)) (by omega)
      have a2 := zy_height K1 (x := (i : Nat)) (by omega)
      have a3 := zy_builderAt J1 (x := (i : Nat)) (by omega)
      have a4 := zy_builderAt K1 (x := (i : Nat)) (by omega)
      unfold fL_areAlike_b79
      dsimp only
      rw [if_neg n1, if_neg h10, a1, zq_bndn, a2, zq_bndn, if_pos rfl, a3, zq_bndn, a4, zq_bndn, if_pos rfl]
      unfold fL_areAlike_j124
      rw [zq_l1, zq_add, zq_nm]; rfl
    · have n1 : zq a.g.n ≤ zq (a.g.n.toNat : Nat) := by rw [zq_le (by omega)]; omega
      unfold fL_areAlike_b79
      dsimp only
      rw [if_pos n1, zq_cp _ (Or.inr rfl)]; rfl
  unfold fL_areAlike
  dsimp only
  rw [zy_onTurn J, zq_bnd, zy_onTurn K, zq_bnd, if_pos rfl, zy_winner J, zq_bnd, zy_winner K, zq_bnd, if_pos rfl, zy_played J, zq_bnd, zy_played K, zq_bnd, if_pos rfl, e1, zq_bnd]
  dsimp only
  rw [e2, zq_bnd]
  dsimp only
  rw [if_pos rfl, r0, zq_bndn, s0, zq_bndn, if_pos rfl, r1, zq_bndn, s1, zq_bndn, if_pos rfl]
  exact lp
/-! the storeys of a player's builders, cell by cell -/
def zyT (g : ZG) (u i : Int) : Int := if 0 ≤ u ∧ u < i then g.h u else 0
def zyF (g : ZG) (x i : Int) : Int := zyT g (g.a (2 * x)) i + zyT g (g.a (2 * x + 1)) i
theorem zyT_succ (g : ZG) (u : Int) {i : Int} (hi : 0 ≤ i) : zyT g u (i + 1) = zyT g u i + (if u = i then g.h i else 0) := by
  unfold zyT
  by_cases h : u = i
  · rw [if_pos h, if_pos (by omega), if_neg (by omega), h]; omega
  · rw [if_neg h]
    by_cases h2 : 0 ≤ u ∧ u < i
    · rw [if_pos h2, if_pos (by omega)]; omega
    · rw [if_neg h2, if_neg (by omega)]; omega
theorem zyF_succ {g : ZG} (w : ZW g) {x i : Int} (hx : 0 ≤ x ∧ x ≤ 1) (hi : 0 ≤ i) : zyF g x (i + 1) = zyF g x i + (if g.bI i ≠ -1 ∧ g.bI i / 2 = x then g.h i else 0) := by
  have b := zq_bI g i
  unfold zyF
  rw [zyT_succ _ _ hi, zyT_succ _ _ hi]
  have u1 : g.a (2 * x) = i → g.bI i = 2 * x := zq_bIe w (by omega) (by omega) hi
  have v1 : g.a (2 * x + 1) = i → g.bI i = 2 * x + 1 := zq_bIe w (by omega) (by omega) hi
  have u2 : g.bI i = 2 * x → g.a (2 * x) = i := fun h => by rw [← h]; exact zq_bIa (by omega)
  have v2 : g.bI i = 2 * x + 1 → g.a (2 * x + 1) = i := fun h => by rw [← h]; exact zq_bIa (by omega)
  generalize g.h i = y
  by_cases h1 : g.a (2 * x) = i
  · have := u1 h1
    rw [if_pos h1, if_neg (fun h => by have := v1 h; omega), if_pos (by omega)]; omega
  · rw [if_neg h1]
    by_cases h2 : g.a (2 * x + 1) = i
    · have := v1 h2
      rw [if_pos h2, if_pos (by omega)]; omega
    · rw [if_neg h2, if_neg (fun h => by
        rcases (show g.bI i = 2 * x ∨ g.bI i = 2 * x + 1 by omega) with q | q
        · exact h1 (u2 q)
        · exact h2 (v2 q))]
      omega
theorem zyF_0 {g : ZG} (x : Int) : zyF g x 0 = 0 := by
  unfold zyF zyT
  rw [if_neg (by omega), if_neg (by omega)]; rfl
theorem zyF_n {g : ZG} (w : ZW g) {x : Int} (hx : 0 ≤ x ∧ x ≤ 1) : zyF g x g.n = zqRs g x 0 + zqRs g x 1 := by
  have a0 := w.a (2 * x) (by omega) (by omega)
  have a1 := w.a (2 * x + 1) (by omega) (by omega)
  unfold zyF zyT zqRs
  rw [Int.add_zero]
  by_cases h0 : g.a (2 * x) = -1
  · rw [if_neg (show ¬ (0 ≤ g.a (2 * x) ∧ g.a (2 * x) < g.n) by omega), if_pos h0]
    by_cases h1 : g.a (2 * x + 1) = -1
    · rw [if_neg (by omega), if_pos h1]
    · rw [if_pos (by omega), if_neg h1]
  · rw [if_pos (show 0 ≤ g.a (2 * x) ∧ g.a (2 * x) < g.n by omega), if_neg h0]
    by_cases h1 : g.a (2 * x + 1) = -1
    · rw [if_neg (by omega), if_pos h1]
    · rw [if_pos (by omega), if_neg h1]
theorem za_board {S : SC} {a : ZA} (J : zyI S a) : ∃ S', fL_isBoardSo S (zq a.g.n) = some (1, S') ∧ zyI S' a := by
  obtain ⟨S1, e1, J1⟩ := zt_turnCount a S J
  refine ⟨S1, ?_, J1⟩
  have w := zyJ.w J
  have hn := w.n
  have hM := zy_Mn J
  have r0 := zy_reached J1 (x := 0) (by omega)
  have r1 := zy_reached J1 (x := 1) (by omega)
  rw [← zq_l0] at r0
  rw [← zq_l1] at r1
  obtain ⟨z, -, a1, a3, a4, a5, a7, a9, a10, a11, a12⟩ := id J
  have len := zyJ.len J
  have e0 : fL_isBoardSo S (zq a.g.n) = loop (fL_isBoardSo_b7 (zq a.g.n)) FUEL (zq (zyF a.g 0 ((0 : Nat) : Int)), zq (zyF a.g 1 ((0 : Nat) : Int)), zq ((0 : Nat) : Int), S) := by
    unfold fL_isBoardSo
    rw [show ((0 : Nat) : Int) = 0 from rfl, zyF_0, zyF_0]; rfl
  rw [e0]
  refine zq_for (b := fL_isBoardSo_b7 (zq a.g.n)) (fun i => (zq (zyF a.g 0 (i : Nat)), zq (zyF a.g 1 (i : Nat)), zq (i : Nat), S)) a.g.n.toNat (by omega) ?_ ?_
  · intro i hi
    have n1 : ¬ zq a.g.n ≤ zq (i : Nat) := by rw [zq_le (by omega)]; omega
    have b1 := zy_height J (x := (i : Nat)) (by omega)
    have b2 := zy_builderAt J (x := (i : Nat)) (by omega)
    have hh := w.h (i : Nat) (by omega) (by omega)
    have hb := zq_bI a.g (i : Nat)
    have ah := zq_hold a.g (i : Nat)
    have hl : a.g.bI (i : Nat) ≠ -1 → a.g.h (i : Nat) < 4 := zq_bIl w (by omega)
    have f0 := zyF_succ w (x := 0) (i := (i : Nat)) (by omega) (by omega)
    have f1 := zyF_succ w (x := 1) (i := (i : Nat)) (by omega) (by omega)
    have ei : (((i + 1 : Nat) : Nat) : Int) = (i : Int) + 1 := by omega
    unfold fL_isBoardSo_b7
    dsimp only
    rw [if_neg n1, b2, zq_bndn, b1, zq_bndn, ei, f0, f1]
    unfold fL_isBoardSo_j51 fL_isBoardSo_j73 fL_isBoardSo_j90 fL_isBoardSo_j91 fL_isBoardSo_j107
    generalize a.g.h (i : Nat) = y at *
    generalize zyF a.g 0 (i : Nat) = p at *
    generalize zyF a.g 1 (i : Nat) = q at *
    rcases (show a.g.bI (i : Nat) = -1 ∨ a.g.bI (i : Nat) = 0 ∨ a.g.bI (i : Nat) = 1 ∨ a.g.bI (i : Nat) = 2 ∨ a.g.bI (i : Nat) = 3 by omega) with h | h | h | h | h
    · rw [show a.g.hold (i : Nat) = -1 by omega]
      simp (disch := omega) only [zq_l0, zq_l1, zq_l2, zq_l3, zq_l4, zq_l5, zq_l6, zq_l8, zq_l10, zq_l25, zq_l29, zq_l30, zq_l32, zq_l50, zq_l63, zq_l99, zq_l100, zq_l125, zq_l200, zq_l338, zq_l505, zq_l6000, zq_l10000, zq_l20, zq_bnd, zq_nm, zq_ck, zq_ex, zq_neg, zq_add, zq_sub, zq_mul, zq_div, zq_lt, zq_le, zq_eq, zq_tn, zq_setA_1, zq_setS_2, if_pos, if_neg, zq_if0, zq_if1, ite_true, ite_false, h, zq_l11]
    · have := hl (by omega)
      rw [show a.g.hold (i : Nat) = 0 by omega]
      simp (disch := omega) only [zq_l0, zq_l1, zq_l2, zq_l3, zq_l4, zq_l5, zq_l6, zq_l8, zq_l10, zq_l25, zq_l29, zq_l30, zq_l32, zq_l50, zq_l63, zq_l99, zq_l100, zq_l125, zq_l200, zq_l338, zq_l505, zq_l6000, zq_l10000, zq_l20, zq_bnd, zq_nm, zq_ck, zq_ex, zq_neg, zq_add, zq_sub, zq_mul, zq_div, zq_lt, zq_le, zq_eq, zq_tn, zq_setA_1, zq_setS_2, if_pos, if_neg, zq_if0, zq_if1, ite_true, ite_false, h, zq_l11]
    · have := hl (by omega)
      rw [show a.g.hold (i : Nat) = 1 by omega]
      simp (disch := omega) only [zq_l0, zq_l1, zq_l2, zq_l3, zq_l4, zq_l5, zq_l6, zq_l8, zq_l10, zq_l25, zq_l29, zq_l30, zq_l32, zq_l50, zq_l63, zq_l99, zq_l100, zq_l125, zq_l200, zq_l338, zq_l505, zq_l6000, zq_l10000, zq_l20, zq_bnd, zq_nm, zq_ck, zq_ex, zq_neg, zq_add, zq_sub, zq_mul, zq_div, zq_lt, zq_le, zq_eq, zq_tn, zq_setA_1, zq_setS_2, if_pos, if_neg, zq_if0, zq_if1, ite_true, ite_false, h, zq_l11]
    · have := hl (by omega)
      rw [show a.g.hold (i : Nat) = 10 by omega]
      simp (disch := omega) only [zq_l0, zq_l1, zq_l2, zq_l3, zq_l4, zq_l5, zq_l6, zq_l8, zq_l10, zq_l25, zq_l29, zq_l30, zq_l32, zq_l50, zq_l63, zq_l99, zq_l100, zq_l125, zq_l200, zq_l338, zq_l505, zq_l6000, zq_l10000, zq_l20, zq_bnd, zq_nm, zq_ck, zq_ex, zq_neg, zq_add, zq_sub, zq_mul, zq_div, zq_lt, zq_le, zq_eq, zq_tn, zq_setA_1, zq_setS_2, if_pos, if_neg, zq_if0, zq_if1, ite_true, ite_false, h, zq_l11]
    · have := hl (by omega)
      rw [show a.g.hold (i : Nat) = 11 by omega]
      simp (disch := omega) only [zq_l0, zq_l1, zq_l2, zq_l3, zq_l4, zq_l5, zq_l6, zq_l8, zq_l10, zq_l25, zq_l29, zq_l30, zq_l32, zq_l50, zq_l63, zq_l99, zq_l100, zq_l125, zq_l200, zq_l338, zq_l505, zq_l6000, zq_l10000, zq_l20, zq_bnd, zq_nm, zq_ck, zq_ex, zq_neg, zq_add, zq_sub, zq_mul, zq_div, zq_lt, zq_le, zq_eq, zq_tn, zq_setA_1, zq_setS_2, if_pos, if_neg, zq_if0, zq_if1, ite_true, ite_false, h, zq_l11]
  · have en : ((a.g.n.toNat : Nat) : Int) = a.g.n := by omega
    have n1 : zq a.g.n ≤ zq (a.g.n.toNat : Nat) := by rw [zq_le (by omega)]; omega
    have hw := zy_winner J1
    unfold fL_isBoardSo_b7
    dsimp only
    rw [if_pos n1, e1, zq_bnd]
    dsimp only
    rw [hw, zq_bnd, en, zyF_n w (by omega), zyF_n w (by omega)]
    have q0 : (zq a.v < 0) = (a.v < 0) := by rw [zq_l0]; exact zq_lt (by omega)
    have hT := zy_onTurn J1
    have hP := zy_played J1
    have o1 : (zq (zqOT a.g.B a.q a.g.m a.v) = -1) = (a.v ≠ -1) := by
      have := w.m
      have ot : -1 ≤ zqOT a.g.B a.q a.g.m a.v ∧ zqOT a.g.B a.q a.g.m a.v ≤ 1 := by
        unfold zqOT
        split
        · split
          · omega
          · split <;> omega
        · omega
      rw [zq_m1, zq_eq (by omega)]
      unfold zqOT
      by_cases h : a.v = -1
      · rw [if_pos h]
        refine propext ⟨fun q => ?_, fun q => absurd h q⟩
        split at q
        · omega
        · split at q <;> omega
      · rw [if_neg h]
        exact propext ⟨fun _ => h, fun _ => rfl⟩
    have m0 : (0 ≤ zq (zyMn a)) = (0 ≤ zyMn a) := by rw [zq_l0]; exact zq_le (by omega)
    have m1 : (zq (zyMn a) = 0) = (zyMn a = 0) := by rw [zq_l0]; exact zq_eq (by omega)
    have p0 : (zq (a.H.length : Nat) = 0) = ((a.H.length : Int) = 0) := by rw [zq_l0]; exact zq_eq (by omega)
    have h10 : ((1 : Int32) = 0) = False := eq_false (by decide)
    unfold fL_isBoardSo_j133 fL_isBoardSo_j166 fL_isBoardSo_j188 fL_isBoardSo_j192 fL_isBoardSo_j193 fL_isBoardSo_j210
    simp only [r0, r1, hT, hP, zq_bndn, zq_bnd, q0, o1, m0, m1, p0, h10, if_true, if_false, ite_true, ite_false]
    by_cases hv : a.v = -1
    · have c1 : (a.v < 0) = True := eq_true (by omega)
      have c2 : (a.v ≠ -1) = False := eq_false (fun h => h hv)
      by_cases hq : a.q = 2 * a.g.B
      · have ht := ((a12 hq).2 hv).1
        have em : zyMn a = a.g.trs.length := by
          unfold zyMn zqTl; rw [if_pos hq, if_pos hv]
        have hl : a.g.trs.length ≠ 0 := fun h => ht (List.eq_nil_of_length_eq_zero h)
        have c3 : (0 ≤ zyMn a) = True := eq_true (by omega)
        have c4 : (zyMn a = 0) = False := eq_false (by omega)
        simp only [c1, c2, c3, c4, if_true, if_false, ite_true, ite_false]
        rfl
      · have em : zyMn a = -1 := by unfold zyMn; rw [if_neg hq]
        have hH := (a11 (by omega)).1
        have c3 : (0 ≤ zyMn a) = False := eq_false (by omega)
        have c4 : (zyMn a = 0) = False := eq_false (by omega)
        have c5 : (((a.H.length : Nat) : Int) = 0) = True := eq_true (by rw [hH]; rfl)
        simp only [c1, c2, c3, c4, c5, if_true, if_false, ite_true, ite_false]
        rfl
    · have hq : a.q = 2 * a.g.B := Classical.byContradiction fun h => hv (a11 (by omega)).2.1
      have em : zyMn a = 0 := by
        unfold zyMn zqTl; rw [if_pos hq, if_neg hv]; rfl
      have c1 : (a.v < 0) = False := eq_false (by omega)
      have c2 : (a.v ≠ -1) = True := eq_true hv
      have c3 : (0 ≤ zyMn a) = True := eq_true (by omega)
      have c4 : (zyMn a = 0) = True := eq_true em
      simp only [c1, c2, c3, c4, if_true, if_false, ite_true, ite_false]
      rfl
