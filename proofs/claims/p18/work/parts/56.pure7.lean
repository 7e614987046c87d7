set_option maxRecDepth 100000
/-! the class's state, told of the position g, q builders placed, v the winner, H what was played (no reference) -/
def ZA : Type := ZG × Int × Int × List (ZG × Int)
def ZA.g (a : ZA) : ZG := a.1
def ZA.q (a : ZA) : Int := a.2.1
def ZA.v (a : ZA) : Int := a.2.2.1
def ZA.H (a : ZA) : List (ZG × Int) := a.2.2.2
def ZA.mk (g : ZG) (q v : Int) (H : List (ZG × Int)) : ZA := (g, q, v, H)
def zyH (S : SC) : List (ZG × Int) → ZG → Prop
  | [] => fun _ => True
  | x :: H => fun g => g = x.1.act x.2 ∧ x.2 ∈ x.1.trs ∧ ZW x.1 ∧ ZP x.1 ∧ (H.length : Int) ≤ x.1.hs ∧ (H.length : Int) % 2 = x.1.m ∧ ZR S x.1 x.2 H.length ∧ zyH S H x.1
theorem zyH_fr {S S' : SC} : ∀ (H : List (ZG × Int)) (g : ZG), (∀ x : Int, 0 ≤ x → x < 5 * H.length → S'.2 4 x.toNat = S.2 4 x.toNat) → zyH S H g → zyH S' H g
  | [], _, _, _ => trivial
  | x :: H, g, h1, ⟨a1, a2, a3, a4, a5, a6, a7, a9⟩ => by
    have el : (((x :: H).length : Nat) : Int) = (H.length : Int) + 1 := by rw [List.length_cons]; omega
    rw [el] at h1
    refine ⟨a1, a2, a3, a4, a5, a6, ?_, zyH_fr H x.1 (fun y y0 y1 => h1 y y0 (by omega)) a9⟩
    obtain ⟨r0, r1, r2, r3, r4⟩ := a7
    exact ⟨by rw [h1 _ (by omega) (by omega)]; exact r0, by rw [h1 _ (by omega) (by omega)]; exact r1, by rw [h1 _ (by omega) (by omega)]; exact r2, by rw [h1 _ (by omega) (by omega)]; exact r3, by rw [h1 _ (by omega) (by omega)]; exact r4⟩
theorem zyH_len {S : SC} : ∀ (H : List (ZG × Int)) (g : ZG), zyH S H g → H.length ≤ 101
  | [], _, _ => by simp
  | x :: H, g, ⟨a1, a2, a3, a4, a5, a6, a7, a9⟩ => by
    have := zq_hs a3
    rw [List.length_cons]; omega
def zyJ (S : SC) (g : ZG) (q v : Int) (H : List (ZG × Int)) : Prop :=
  ZC S g ∧ ZW g ∧ S.1 4 = zq q ∧ (0 ≤ q ∧ q ≤ 2 * g.B) ∧ ZQ g q ∧ S.1 5 = zq H.length ∧ S.1 6 = zq v ∧ (-1 ≤ v ∧ v ≤ 1) ∧ zyH S H g ∧
  (q < 2 * g.B → H = [] ∧ v = -1 ∧ g.m = 0) ∧ (q = 2 * g.B → (H.length : Int) % 2 = g.m ∧ (v = -1 → g.trs ≠ [] ∧ (H.length : Int) ≤ g.hs))
theorem zyJ.e {S S' : SC} {g : ZG} {q v : Int} {H : List (ZG × Int)} {t : Nat} (J : zyJ S g q v H) (E : zqE t S S') : zyJ S' g q v H := by
  obtain ⟨z, w, a1, a3, a4, a5, a7, a9, a10, a11, a12⟩ := J
  exact ⟨E.c z, w, by rw [E.1 4 (by omega)]; exact a1, a3, a4, by rw [E.1 5 (by omega)]; exact a5, by rw [E.1 6 (by omega)]; exact a7, a9, zyH_fr (S := S) H g (fun x _ _ => by rw [E.2 4 (by omega)]) a10, a11, a12⟩
theorem zyJ.len {S : SC} {g : ZG} {q v : Int} {H : List (ZG × Int)} (J : zyJ S g q v H) : H.length ≤ 101 := zyH_len H g J.2.2.2.2.2.2.2.2.1
theorem zyJ.w {S : SC} {g : ZG} {q v : Int} {H : List (ZG × Int)} (J : zyJ S g q v H) : ZW g := J.2.1
theorem zyJ.hp {S : SC} {g : ZG} {q v : Int} {H : List (ZG × Int)} (J : zyJ S g q v H) (h : q = 2 * g.B) : ZP g := ZQ.p J.2.1 J.2.2.2.2.1 h
/-! the calls that read -/
theorem zy_onTurn {S : SC} {g : ZG} {q v : Int} {H : List (ZG × Int)} (J : zyJ S g q v H) : fX3_onTurn S = some (zq (zqOT g.B q g.m v)) := by
  have len := J.len
  obtain ⟨z, w, a1, a3, a4, a5, a7, a9, a10, a11, a12⟩ := id J
  unfold fX3_onTurn
  rw [zc_mover z w a1 a3 a7 a9 a5 (by omega) (fun h => (a12 h).1)]; rfl
theorem zy_winner {S : SC} {g : ZG} {q v : Int} {H : List (ZG × Int)} (J : zyJ S g q v H) : fX3_winner S = some (zq v) := by
  obtain ⟨z, w, a1, a3, a4, a5, a7, a9, a10, a11, a12⟩ := J
  show some (S.1 6) = _
  rw [a7]
theorem zy_played {S : SC} {g : ZG} {q v : Int} {H : List (ZG × Int)} (J : zyJ S g q v H) : fX3_played S = some (zq H.length) := by
  obtain ⟨z, w, a1, a3, a4, a5, a7, a9, a10, a11, a12⟩ := J
  show some (S.1 5) = _
  rw [a5]
theorem zy_height {S : SC} {g : ZG} {q v : Int} {H : List (ZG × Int)} (J : zyJ S g q v H) {x : Int} (h : 0 ≤ x ∧ x < g.n) : fX3_height S (zq x) = some (.inl (zq (g.h x))) := by
  obtain ⟨z, w, -⟩ := J
  have hn := w.n
  unfold fX3_height
  rw [zc_reqCell z w (by omega), if_pos h]
  show bnd (fX0_storeysOf S (zq x)) _ = _
  rw [zc_storeysOf z h.1 (by omega)]; rfl
theorem zy_builderAt {S : SC} {g : ZG} {q v : Int} {H : List (ZG × Int)} (J : zyJ S g q v H) {x : Int} (h : 0 ≤ x ∧ x < g.n) : fX3_builderAt S (zq x) = some (.inl (zq (g.hold x))) := by
  obtain ⟨z, w, -⟩ := J
  have hn := w.n
  unfold fX3_builderAt
  rw [zc_reqCell z w (by omega), if_pos h]
  show bnd (fX0_holderOf S (zq x)) _ = _
  rw [zc_holderOf z h.1 (by omega)]; rfl
theorem zy_reached {S : SC} {g : ZG} {q v : Int} {H : List (ZG × Int)} (J : zyJ S g q v H) {x : Int} (h : 0 ≤ x ∧ x ≤ 1) : fX3_reached S (zq x) = some (.inl (zq (zqRs g x 0 + zqRs g x 1))) := by
  obtain ⟨z, w, -⟩ := J
  have hB := w.B
  have c1 := zc_isOut (S := S) (x := x) (a := 0) (b := 1) (by omega)
  rw [← zq_l0, ← zq_l1] at c1
  unfold fX3_reached
  rw [c1, zq_bnd, zq_ifL, if_neg (fun q => q h), zc_under z w h, zq_bnd]
  rcases (show g.B = 1 ∨ g.B = 2 by omega) with h1 | h1
  · have : zqRs g x 1 = 0 := by
      unfold zqRs
      rw [if_pos (w.out _ (by omega) (by omega) (by omega))]
    rw [h1, this, Int.add_zero]; rfl
  · rw [h1]; rfl
/-! turns -/
theorem zy_list {S : SC} {g : ZG} {q v : Int} {H : List (ZG × Int)} (J : zyJ S g q v H) (h : q = 2 * g.B) : ∃ S', fX0_listTurns S 0 = some S' ∧ Lst S' 0 (zqTl g v) ∧ zqE 0 S S' := by
  have len := J.len
  have hp := J.hp h
  obtain ⟨z, w, a1, a3, a4, a5, a7, a9, a10, a11, a12⟩ := id J
  have hT := (a12 h).1
  unfold zqTl
  by_cases hv : v = -1
  · rw [if_pos hv]
    refine zl_listTurns z w hp ?_ (by rw [a7, hv]) (zq_cap w hp)
    rw [a5]
    simp (disch := omega) only [zq_l0, zq_l1, zq_l2, zq_l3, zq_l4, zq_l5, zq_l6, zq_l8, zq_l10, zq_l25, zq_l29, zq_l30, zq_l32, zq_l50, zq_l63, zq_l99, zq_l100, zq_l125, zq_l200, zq_l338, zq_l505, zq_l6000, zq_l10000, zq_l20, zq_bnd, zq_nm, zq_ck, zq_ex, zq_neg, zq_add, zq_sub, zq_mul, zq_div, zq_lt, zq_le, zq_eq, zq_tn, zq_setA_1, zq_setS_2, if_pos, if_neg, zq_if0, zq_if1, ite_true, ite_false, show (H.length : Int) - (H.length : Int) / 2 * 2 = g.m by omega]
  · rw [if_neg hv]
    refine zl_listNone ?_
    rw [a7, zq_eq (by omega)]; exact hv
theorem zqTl_cap {g : ZG} (w : ZW g) (hp : ZP g) (v : Int) : (zqTl g v).length ≤ 338 := by
  have := zq_cap w hp
  unfold zqTl; split <;> simp [this]
theorem zqTl_hi {g : ZG} (w : ZW g) {v x : Int} (h : x ∈ zqTl g v) : 0 ≤ x ∧ x < 10000 * g.B := by
  unfold zqTl at h
  split at h
  · exact zq_hi w h
  · exact absurd h List.not_mem_nil
theorem zy_turnCount {S : SC} {g : ZG} {q v : Int} {H : List (ZG × Int)} (J : zyJ S g q v H) : ∃ S', fX3_turnCount S = some (if q = 2 * g.B then .inl (zq (zqTl g v).length) else .inr 1, S') ∧ zyJ S' g q v H := by
  obtain ⟨z, w, a1, a3, a4, a5, a7, a9, a10, a11, a12⟩ := id J
  unfold fX3_turnCount
  rw [zc_reqAll z w a1 a3]
  by_cases h : q = 2 * g.B
  · obtain ⟨S', e, L, E⟩ := zy_list J h
    rw [if_pos h, if_pos h]
    refine ⟨S', ?_, J.e E⟩
    show bnd (fX0_listTurns S 0) _ = _
    rw [e, zq_bnd]
    have L8 : S'.1 8 = zq (zqTl g v).length := L.1
    rw [L8]
  · rw [if_neg h, if_neg h]
    exact ⟨S, rfl, J⟩
theorem zy_turnAt {S : SC} {g : ZG} {q v : Int} {H : List (ZG × Int)} (J : zyJ S g q v H) {x : Int} (hx : -2147483648 ≤ x ∧ x < 2147483648) : ∃ S', fX3_turnAt S (zq x) = some (if q = 2 * g.B then (if 0 ≤ x ∧ x < (zqTl g v).length then .inl (zq (g.tr x.toNat)) else .inr 2) else .inr 1, S') ∧ zyJ S' g q v H := by
  obtain ⟨z, w, a1, a3, a4, a5, a7, a9, a10, a11, a12⟩ := id J
  unfold fX3_turnAt
  rw [zc_reqAll z w a1 a3]
  by_cases h : q = 2 * g.B
  · obtain ⟨S', e, L, E⟩ := zy_list J h
    have hp := J.hp h
    have cap := zq_cap w hp
    have cap2 := zqTl_cap w hp v
    have L8 : S'.1 8 = zq (zqTl g v).length := L.1
    have io := zc_isOut (S := S') (x := x) (a := 0) (b := ((zqTl g v).length : Int) - 1) (by omega)
    rw [← zq_l0] at io
    rw [if_pos h, if_pos h]
    have cl : bndxS S (some (.inl ())) (fun _ => bnd (fX0_listTurns S 0) fun S4 => bnd (fX3_isOutside S4 (zq x) 0 (S4.1 8 - 1)) fun v6 => if v6 = 0 then bnd (fX2_at S4 0 (zq x)) fun v8 => some (.inl v8, S4) else some (.inr 2, S4)) = if 0 ≤ x ∧ x < ((zqTl g v).length : Int) then bnd (fX2_at S' 0 (zq x)) (fun v8 => some (.inl v8, S')) else some (.inr 2, S') := by
      show bnd (fX0_listTurns S 0) _ = _
      rw [e, zq_bnd, L8, zq_l1, zq_sub, io, zq_bnd, zq_ifL]
      by_cases hi : 0 ≤ x ∧ x < ((zqTl g v).length : Int)
      · rw [if_neg (fun r => r (by omega)), if_pos hi]
      · rw [if_pos (by omega), if_neg hi]
    refine ⟨S', ?_, J.e E⟩
    refine cl.trans ?_
    by_cases hi : 0 ≤ x ∧ x < ((zqTl g v).length : Int)
    · have hv : v = -1 := Classical.byContradiction fun hn => by
        unfold zqTl at hi
        rw [if_neg hn] at hi
        simp at hi
        omega
      rw [if_pos hi, if_pos hi]
      have et : zqTl g v = g.trs := by unfold zqTl; rw [if_pos hv]
      rw [et] at hi L
      have la := zl_at L cap (i := x.toNat) (by omega)
      rw [show ((x.toNat : Nat) : Int) = x by omega] at la
      rw [la, zq_bnd, zq_tr (by omega)]
    · rw [if_neg hi, if_neg hi]
  · rw [if_neg h, if_neg h]
    exact ⟨S, rfl, J⟩
/-! the calls that change: what each answers, and what stands behind it, told of the state alone -/
def zyOk (R C B p0 p1 : Int) : Prop := (2 ≤ R ∧ R ≤ 5) ∧ (2 ≤ C ∧ C ≤ 5) ∧ (1 ≤ B ∧ B ≤ 2) ∧ 2 * B < R * C ∧ (0 ≤ p0 ∧ p0 ≤ 6) ∧ (0 ≤ p1 ∧ p1 ≤ 6)
theorem zy_J0 {S : SC} {R C B p0 p1 : Int} (ok : zyOk R C B p0 p1) (z : ZC S (zqG0 R C B p0 p1)) (s4 : S.1 4 = zq 0) (s5 : S.1 5 = zq 0) (s6 : S.1 6 = zq (-1)) : zyJ S (zqG0 R C B p0 p1) 0 (-1) [] := by
  obtain ⟨hR, hC, hB, -, h0, h1⟩ := ok
  have eB : (zqG0 R C B p0 p1).B = B := rfl
  have ix := zq_Ix (q := 0) hB
  refine ⟨z, zw_G0 hR hC hB h0 h1, s4, by rw [eB]; omega, ?_, s5, s6, by omega, trivial, fun _ => ⟨rfl, rfl, rfl⟩, fun h => by rw [eB] at h; omega⟩
  intro i i0 i4 hi
  rw [eB]
  constructor
  · intro h; exact absurd rfl h
  · intro h; omega
theorem zy_begin1 {S : SC} {R C B p0 p1 : Int} (ok : zyOk R C B p0 p1) : ∃ S', fX3_begin S (zq R) (zq C) (zq B) (zq p0) (zq p1) = some (.inl (zq (R * C)), S') ∧ zyJ S' (zqG0 R C B p0 p1) 0 (-1) [] := by
  obtain ⟨c1, c2, c3, cB, c4, c5⟩ := id ok
  have RC := zq_RC c1 c2
  have o : ∀ x a b : Int, 0 ≤ x ∧ x < 10 → (0 ≤ a ∧ a < 10) → (0 ≤ b ∧ b < 10) → fX3_isOutside S (zq x) (zq a) (zq b) = some (zq (zqB (¬ (a ≤ x ∧ x ≤ b)))) := fun x a b hx ha hb => zc_isOut (by omega)
  have o1 : fX3_isOutside S (zq R) 2 5 = some (zq (zqB (¬ (2 ≤ R ∧ R ≤ 5)))) := by rw [zq_l2, zq_l5]; exact o R 2 5 (by omega) (by omega) (by omega)
  have o2 : fX3_isOutside S (zq C) 2 5 = some (zq (zqB (¬ (2 ≤ C ∧ C ≤ 5)))) := by rw [zq_l2, zq_l5]; exact o C 2 5 (by omega) (by omega) (by omega)
  have o3 : fX3_isOutside S (zq B) 1 2 = some (zq (zqB (¬ (1 ≤ B ∧ B ≤ 2)))) := by rw [zq_l2, zq_l1]; exact o B 1 2 (by omega) (by omega) (by omega)
  have o4 : fX3_isOutside S (zq p0) 0 6 = some (zq (zqB (¬ (0 ≤ p0 ∧ p0 ≤ 6)))) := by rw [zq_l0, zq_l6]; exact o p0 0 6 (by omega) (by omega) (by omega)
  have o5 : fX3_isOutside S (zq p1) 0 6 = some (zq (zqB (¬ (0 ≤ p1 ∧ p1 ≤ 6)))) := by rw [zq_l0, zq_l6]; exact o p1 0 6 (by omega) (by omega) (by omega)
  clear o
  have l1 : (2 : Int32) * zq B < zq R * zq C ↔ 2 * B < R * C := by
    rw [zq_l2, zq_mul, zq_mul, zq_lt (by omega)]
  unfold fX3_begin
  simp only [o1, o2, o3, o4, o5, zq_bnd, zq_ifL]
  rw [if_neg (fun q => q c1), if_neg (fun q => q c2), if_neg (fun q => q c3), if_pos (l1.mpr cB), if_neg (fun q => q c4), if_neg (fun q => q c5)]
  obtain ⟨S', e, z', s4, s5, s6⟩ := zc_start (S := S) (B := B) (p0 := p0) (p1 := p1) c1 c2
  rw [e, zq_bnd]
  have hn : S'.1 0 = zq (R * C) := z'.n
  exact ⟨S', by rw [hn], zy_J0 ok z' s4 s5 s6⟩
theorem zy_begin0 {S : SC} {R C B p0 p1 : Int} (hR : -2147483648 ≤ R ∧ R < 2147483648) (hC : -2147483648 ≤ C ∧ C < 2147483648) (hB : -2147483648 ≤ B ∧ B < 2147483648) (h0 : -2147483648 ≤ p0 ∧ p0 < 2147483648) (h1 : -2147483648 ≤ p1 ∧ p1 < 2147483648) (no : ¬ zyOk R C B p0 p1) : fX3_begin S (zq R) (zq C) (zq B) (zq p0) (zq p1) = some (.inr 0, S) := by
  have o : ∀ x a b : Int, -2147483648 ≤ x ∧ x < 2147483648 → (0 ≤ a ∧ a < 10) → (0 ≤ b ∧ b < 10) → fX3_isOutside S (zq x) (zq a) (zq b) = some (zq (zqB (¬ (a ≤ x ∧ x ≤ b)))) := fun x a b hx ha hb => zc_isOut (by omega)
  have o1 : fX3_isOutside S (zq R) 2 5 = some (zq (zqB (¬ (2 ≤ R ∧ R ≤ 5)))) := by rw [zq_l2, zq_l5]; exact o R 2 5 hR (by omega) (by omega)
  have o2 : fX3_isOutside S (zq C) 2 5 = some (zq (zqB (¬ (2 ≤ C ∧ C ≤ 5)))) := by rw [zq_l2, zq_l5]; exact o C 2 5 hC (by omega) (by omega)
  have o3 : fX3_isOutside S (zq B) 1 2 = some (zq (zqB (¬ (1 ≤ B ∧ B ≤ 2)))) := by rw [zq_l2, zq_l1]; exact o B 1 2 hB (by omega) (by omega)
  have o4 : fX3_isOutside S (zq p0) 0 6 = some (zq (zqB (¬ (0 ≤ p0 ∧ p0 ≤ 6)))) := by rw [zq_l0, zq_l6]; exact o p0 0 6 h0 (by omega) (by omega)
  have o5 : fX3_isOutside S (zq p1) 0 6 = some (zq (zqB (¬ (0 ≤ p1 ∧ p1 ≤ 6)))) := by rw [zq_l0, zq_l6]; exact o p1 0 6 h1 (by omega) (by omega)
  clear o
  unfold fX3_begin
  simp only [o1, o2, o3, o4, o5, zq_bnd, zq_ifL]
  by_cases c1 : 2 ≤ R ∧ R ≤ 5
  · rw [if_neg (fun q => q c1)]
    by_cases c2 : 2 ≤ C ∧ C ≤ 5
    · rw [if_neg (fun q => q c2)]
      by_cases c3 : 1 ≤ B ∧ B ≤ 2
      · have RC := zq_RC c1 c2
        have l1 : (2 : Int32) * zq B < zq R * zq C ↔ 2 * B < R * C := by
          rw [zq_l2, zq_mul, zq_mul, zq_lt (by omega)]
        rw [if_neg (fun q => q c3)]
        by_cases cB : 2 * B < R * C
        · rw [if_pos (l1.mpr cB)]
          by_cases c4 : 0 ≤ p0 ∧ p0 ≤ 6
          · rw [if_neg (fun q => q c4)]
            by_cases c5 : 0 ≤ p1 ∧ p1 ≤ 6
            · exact absurd ⟨c1, c2, c3, cB, c4, c5⟩ no
            · rw [if_pos c5]
          · rw [if_pos c4]
        · rw [if_neg (fun q => cB (l1.mp q))]
      · rw [if_pos c3]
    · rw [if_pos c2]
  · rw [if_pos c1]
/-- a builder is placed: whose turn it is then, and the state -/
def zyPv (g : ZG) (q x : Int) : Int := if q + 1 = 2 * g.B ∧ (g.put (zqIx g.B q) x).trs = [] then 1 else -1
def zyPok (g : ZG) (q x : Int) : Prop := (0 ≤ x ∧ x < g.n) ∧ q ≠ 2 * g.B ∧ g.opn x
theorem zy_place1 {S : SC} {g : ZG} {q v : Int} {H : List (ZG × Int)} (J : zyJ S g q v H) {x : Int} (ok : zyPok g q x) : ∃ S', fX3_place S (zq x) = some (.inl (zq (zqOT g.B (q + 1) 0 (zyPv g q x))), S') ∧ zyJ S' (g.put (zqIx g.B q) x) (q + 1) (zyPv g q x) [] := by
  obtain ⟨z, w, a1, a3, a4, a5, a7, a9, a10, a11, a12⟩ := id J
  obtain ⟨h, hq, hbi, h4⟩ := ok
  have hn := w.n
  have hB := w.B
  unfold fX3_place
  rw [zc_reqCell z w (by omega), if_pos h]
  show ∃ S', bnd (fX0_isSet S) _ = _ ∧ _
  rw [zc_isSet z w a1 a3, zq_bnd, zq_ifL, if_neg hq, zc_isOpen z w h.1 (by omega), zq_bnd, zq_ifL]
  have ho : g.opn x := ⟨hbi, h4⟩
  obtain ⟨b1, b2, b3⟩ := a11 (by omega)
  subst b1 b2
  obtain ⟨i0, i2, ia, Q'⟩ := zq_putQ w a4 (by omega) h
  have w' := zw_put w i0 i2 h hbi (show g.h x < 4 by omega)
  obtain ⟨S', e1, z', s4, s5, s6⟩ := zc_addBuilder z w a1 a4 (by omega) b3 a7 h hbi (by omega)
  rw [if_pos ho, e1, zq_bnd]
  have eB : (g.put (zqIx g.B q) x).B = g.B := rfl
  have em : (g.put (zqIx g.B q) x).m = 0 := b3
  have hv : zyPv g q x = (if q + 1 = 2 * g.B ∧ (g.put (zqIx g.B q) x).trs = [] then (1 : Int) else -1) := rfl
  rw [← hv] at s6
  generalize hvv : zyPv g q x = v' at *
  have v0 : -1 ≤ v' ∧ v' ≤ 1 := by rw [hv]; split <;> omega
  have s5' : S'.1 5 = zq 0 := by rw [s5]; exact a5
  have mv := zc_mover z' w' (q := q + 1) (v := v') (T := 0) s4 (by rw [eB]; omega) s6 v0 s5' (by omega) (fun _ => by rw [em]; omega)
  rw [eB, em] at mv
  rw [mv, zq_bnd]
  refine ⟨S', rfl, z', w', s4, by rw [eB]; omega, Q', s5', s6, v0, trivial, fun hc => ?_, fun hc => ?_⟩
  · rw [eB] at hc
    refine ⟨rfl, ?_, em⟩
    rw [hv, if_neg (fun r => by omega)]
  · rw [eB] at hc
    refine ⟨by rw [em]; rfl, fun hv1 => ⟨fun ht => ?_, zq_hs0 w'⟩⟩
    rw [if_pos ⟨hc, ht⟩] at hv
    omega
theorem zy_place0 {S : SC} {g : ZG} {q v : Int} {H : List (ZG × Int)} (J : zyJ S g q v H) {x : Int} (hx : -2147483648 ≤ x ∧ x < 2147483648) (no : ¬ zyPok g q x) : fX3_place S (zq x) = some (if 0 ≤ x ∧ x < g.n then .inr 1 else .inr 2, S) := by
  obtain ⟨z, w, a1, a3, a4, a5, a7, a9, a10, a11, a12⟩ := id J
  have hn := w.n
  unfold fX3_place
  rw [zc_reqCell z w hx]
  by_cases h : 0 ≤ x ∧ x < g.n
  · rw [if_pos h, if_pos h]
    show bnd (fX0_isSet S) _ = _
    rw [zc_isSet z w a1 a3, zq_bnd, zq_ifL]
    by_cases hq : q = 2 * g.B
    · rw [if_pos hq]
    · rw [if_neg hq, zc_isOpen z w h.1 (by omega), zq_bnd, zq_ifL, if_neg (fun ho => no ⟨h, hq, ho⟩)]
  · rw [if_neg h, if_neg h]; rfl
def zyRok (g : ZG) (q x y : Int) : Prop := (0 ≤ x ∧ x < g.n) ∧ (0 ≤ y ∧ y ≤ 4) ∧ q ≠ 2 * g.B ∧ g.bI x = -1
theorem zy_raise1 {S : SC} {g : ZG} {q v : Int} {H : List (ZG × Int)} (J : zyJ S g q v H) {x y : Int} (ok : zyRok g q x y) : ∃ S', fX3_raise S (zq x) (zq y) = some (.inl (zq (g.h x)), S') ∧ zyJ S' (g.rs x y) q v H := by
  obtain ⟨z, w, a1, a3, a4, a5, a7, a9, a10, a11, a12⟩ := id J
  obtain ⟨h, hy4, hq, hbi⟩ := ok
  have hn := w.n
  have ah := zq_hold g x
  have io : fX3_isOutside S (zq y) 0 4 = some (zq (zqB (¬ (0 ≤ y ∧ y ≤ 4)))) := by rw [zq_l0, zq_l4]; exact zc_isOut (by omega)
  unfold fX3_raise
  rw [zc_reqCell z w (by omega), if_pos h]
  show ∃ S', bnd (fX3_isOutside S (zq y) 0 4) _ = _ ∧ _
  have q2 : (zq (g.hold x) = -1) = (g.bI x = -1) := by rw [zq_m1, zq_eq (by omega)]; exact propext ah.2.2.1
  rw [io, zq_bnd, zq_ifL, zc_isSet z w a1 a3, zq_bnd, zq_ifL, zc_holderOf z h.1 (by omega), zq_bnd]
  simp only [q2]
  rw [if_neg (fun r => r hy4), if_neg hq, if_pos hbi, zc_storeysOf z h.1 (by omega), zq_bnd, zc_setStoreys (by omega), zq_bnd]
  obtain ⟨b1, b2, b3⟩ := a11 (by omega)
  subst b1 b2
  have w' := zw_rs w (c := x) (k := y) h.1 hy4 hbi
  refine ⟨_, rfl, ⟨z.n, z.B, z.p0, z.p1, z.b, ?_, ?_, ?_, ?_⟩, w', a1, a3, a4, a5, a7, by omega, trivial, fun _ => ⟨rfl, rfl, b3⟩, fun hc => absurd hc hq⟩
  · intro c c0 c1
    show (setA S 1 (zq x) (zq y)).2 1 _ = _
    rw [zq_wr _ _ _ _ (by omega) c0, zr_h]
    by_cases hc : c = x
    · rw [if_pos ⟨rfl, hc⟩, if_pos hc]
    · rw [if_neg (fun r => hc r.2), if_neg hc]; exact z.h c c0 c1
  · intro c c0 c1
    show (setA S 1 (zq x) (zq y)).2 2 _ = _
    rw [zq_setA_other _ _ _ _ _ (by omega)]; exact z.o c c0 c1
  · intro c c0 c1
    show (setA S 1 (zq x) (zq y)).2 3 _ = _
    rw [zq_setA_other _ _ _ _ _ (by omega)]; exact z.a c c0 c1
  · intro c d c0 c1 d0 d1
    show (setA S 1 (zq x) (zq y)).2 0 _ = _
    rw [zq_setA_other _ _ _ _ _ (by omega)]; exact z.nb c d c0 c1 d0 d1
theorem zy_raise0 {S : SC} {g : ZG} {q v : Int} {H : List (ZG × Int)} (J : zyJ S g q v H) {x y : Int} (hx : -2147483648 ≤ x ∧ x < 2147483648) (hy : -2147483648 ≤ y ∧ y < 2147483648) (no : ¬ zyRok g q x y) : fX3_raise S (zq x) (zq y) = some (if 0 ≤ x ∧ x < g.n then (if 0 ≤ y ∧ y ≤ 4 then .inr 1 else .inr 0) else .inr 2, S) := by
  obtain ⟨z, w, a1, a3, a4, a5, a7, a9, a10, a11, a12⟩ := id J
  have hn := w.n
  have ah := zq_hold g x
  have io : fX3_isOutside S (zq y) 0 4 = some (zq (zqB (¬ (0 ≤ y ∧ y ≤ 4)))) := by rw [zq_l0, zq_l4]; exact zc_isOut (by omega)
  have q2 : (zq (g.hold x) = -1) = (g.bI x = -1) := by rw [zq_m1, zq_eq (by omega)]; exact propext ah.2.2.1
  unfold fX3_raise
  rw [zc_reqCell z w hx]
  by_cases h : 0 ≤ x ∧ x < g.n
  · rw [if_pos h, if_pos h]
    show bnd (fX3_isOutside S (zq y) 0 4) _ = _
    rw [io, zq_bnd, zq_ifL]
    by_cases hy4 : 0 ≤ y ∧ y ≤ 4
    · rw [if_neg (fun r => r hy4), if_pos hy4, zc_isSet z w a1 a3, zq_bnd, zq_ifL, zc_holderOf z h.1 (by omega), zq_bnd]
      simp only [q2]
      by_cases hq : q = 2 * g.B
      · rw [if_pos hq]
      · rw [if_neg hq, if_neg (fun hb => no ⟨h, hy4, hq, hb⟩)]
    · rw [if_pos hy4, if_neg hy4]
  · rw [if_neg h, if_neg h]; rfl
/-! play, takeBack, worth, best -/
theorem zy_takeBack0 {S : SC} {g : ZG} {q v : Int} (J : zyJ S g q v []) : fX3_takeBack S = some (.inr 1, S) := by
  obtain ⟨z, w, a1, a3, a4, a5, a7, a9, a10, a11, a12⟩ := id J
  have a5 : S.1 5 = zq 0 := a5
  unfold fX3_takeBack
  rw [a5, if_pos (show zq 0 = 0 from rfl)]
theorem zy_takeBack1 {S : SC} {g : ZG} {q v : Int} {x : ZG × Int} {H : List (ZG × Int)} (J : zyJ S g q v (x :: H)) : ∃ S', fX3_takeBack S = some (.inl (zq H.length), S') ∧ zyJ S' x.1 q (-1) H ∧ g = x.1.act x.2 ∧ q = 2 * g.B := by
  have len := J.len
  obtain ⟨z, w, a1, a3, a4, a5, a7, a9, a10, a11, a12⟩ := id J
  obtain ⟨b1, b2, b3, b4, b5, b6, b7, b9⟩ := a10
  have el : (((x :: H).length : Nat) : Int) = (H.length : Int) + 1 := by rw [List.length_cons]; omega
  rw [List.length_cons] at len
  rw [el] at a5
  have hq : q = 2 * g.B := Classical.byContradiction fun hn => by
    have := (a11 (by omega)).1
    cases this
  have hq0 := hq
  have t := zt_of b3 b4 b2
  have hs := zq_hs b3
  rw [b1] at z
  obtain ⟨S', e1, z', i5, i6, k', r'⟩ := zc_undo b3 t z a5 ⟨by omega, by omega⟩ b7
  have eB : g.B = x.1.B := by rw [b1]; rfl
  rw [eB] at a3 hq
  refine ⟨S', ?_, ⟨z', b3, ?_, a3, ZP.q b3 b4 hq, i5, i6, by omega, zyH_fr H x.1 (fun y _ _ => by rw [r' 4 (by omega)]) b9, fun h => by omega, fun _ => ⟨b6, fun _ => ⟨fun h => by rw [h] at b2; exact absurd b2 List.not_mem_nil, b5⟩⟩⟩, b1, hq0⟩
  · unfold fX3_takeBack
    have n0 : ¬ zq ((H.length : Int) + 1) = 0 := by rw [zq_l0, zq_eq (by omega)]; omega
    rw [a5, if_neg n0, e1, zq_bnd, i5]
  · rw [k' 4 (by omega) (by omega) (by omega)]; exact a1
/-- who has won behind a turn -/
def zyWv (g : ZG) (x : Int) : Int := if x % 100 = 99 ∨ (g.act x).trs = [] then g.m else -1
theorem zy_play1 {S : SC} {g : ZG} {q v : Int} {H : List (ZG × Int)} (J : zyJ S g q v H) {x : Int} (h : q = 2 * g.B) (hm : x ∈ zqTl g v) : ∃ S', fX3_play S (zq x) = some (.inl (zq (zyWv g x)), S') ∧ zyJ S' (g.act x) q (zyWv g x) ((g, x) :: H) ∧ x ∈ g.trs ∧ v = -1 := by
  have len := J.len
  obtain ⟨z, w, a1, a3, a4, a5, a7, a9, a10, a11, a12⟩ := id J
  have hB := w.B
  have hp := J.hp h
  have hr := zqTl_hi w hm
  have cap2 := zqTl_cap w hp v
  obtain ⟨S4, e, L, E⟩ := zy_list J h
  have J4 := J.e E
  have hl := zl_holds L cap2 (fun y hy => by have := zqTl_hi w hy; omega) (x := x) (by omega)
  have hv : v = -1 := Classical.byContradiction fun hn => by
    unfold zqTl at hm
    rw [if_neg hn] at hm
    exact absurd hm List.not_mem_nil
  have hmt : x ∈ g.trs := by unfold zqTl at hm; rw [if_pos hv] at hm; exact hm
  obtain ⟨c1, c2⟩ := a12 h
  obtain ⟨c3, c4⟩ := c2 hv
  have hs := zq_hs w
  have t := zt_of w hp hmt
  have w' := zw_act w t
  have hp' := zp_act w hp t
  obtain ⟨z4, -, d1, -, -, d5, d7, -, d10, -, -⟩ := id J4
  obtain ⟨S9, e9, z9, i9, k9, r9, p9⟩ := zc_perform z4 w hp t d5 ⟨by omega, by omega⟩ c1
  have mm : 0 ≤ g.m ∧ g.m ≤ 1 := by rcases w.m with h | h <;> omega
  have em : (g.act x).m = 1 - g.m := rfl
  have el : ((((g, x) :: H).length : Nat) : Int) = (H.length : Int) + 1 := by rw [List.length_cons]; omega
  have hvv : zyWv g x = (if x % 100 = 99 ∨ (g.act x).trs = [] then g.m else -1) := rfl
  generalize zyWv g x = v' at *
  have key : ∀ S8 : SC, S8.2 = S9.2 → (∀ k, k ≠ 6 → S8.1 k = S9.1 k) → S8.1 6 = zq v' → ZC S8 (g.act x) → zyJ S8 (g.act x) q v' ((g, x) :: H) := by
    intro S8 f2 f1 f6 z8
    refine ⟨z8, w', by rw [f1 4 (by omega), k9 4 (by omega) (by omega)]; exact d1, a3, ZP.q w' hp' h, by rw [f1 5 (by omega), el]; exact i9, f6, by rw [hvv]; split <;> omega, ⟨rfl, hmt, w, hp, c4, c1, ⟨?_, ?_, ?_, ?_, ?_⟩, zyH_fr H g (fun y y0 y1 => ?_) d10⟩, fun hc => ?_, fun _ => ⟨by rw [el, em]; omega, fun hc => ?_⟩⟩
    · rw [f2, p9 _ (by omega), if_pos rfl]
    · rw [f2, p9 _ (by omega), if_neg (by omega), if_pos rfl]
    · rw [f2, p9 _ (by omega), if_neg (by omega), if_neg (by omega), if_pos rfl]
    · rw [f2, p9 _ (by omega), if_neg (by omega), if_neg (by omega), if_neg (by omega), if_pos rfl]
    · rw [f2, p9 _ (by omega), if_neg (by omega), if_neg (by omega), if_neg (by omega), if_neg (by omega), if_pos rfl]
    · rw [f2, p9 y y0, if_neg (by omega), if_neg (by omega), if_neg (by omega), if_neg (by omega), if_neg (by omega)]
    · have : (g.act x).B = g.B := rfl
      omega
    · by_cases hw : x % 100 = 99 ∨ (g.act x).trs = []
      · rw [if_pos hw] at hvv; omega
      · have := zt_hs w t (fun q => hw (Or.inl q))
        exact ⟨fun q => hw (Or.inr q), by rw [el]; omega⟩
  have cl : fX3_play S (zq x) = bnd (fX0_perform S4 (zq x)) fun S8 => some (.inl (S8.1 6), S8) := by
    unfold fX3_play
    rw [zc_reqAll z w a1 a3, if_pos h]
    show bnd (fX0_listTurns S 0) _ = _
    rw [e, zq_bnd, hl, zq_bnd, zq_ifL, if_pos hm]
  have ok : ∀ S8 : SC, zyJ S8 (g.act x) q v' ((g, x) :: H) → fX0_perform S4 (zq x) = some S8 → ∃ S', fX3_play S (zq x) = some (.inl (zq v'), S') ∧ zyJ S' (g.act x) q v' ((g, x) :: H) ∧ x ∈ g.trs ∧ v = -1 := by
    intro S8 J8 e8
    refine ⟨S8, ?_, J8, hmt, hv⟩
    rw [cl, e8, zq_bnd, J8.2.2.2.2.2.2.1]
  by_cases hw : x % 100 = 99 ∨ (g.act x).trs = []
  · rw [if_pos hw] at e9 hvv
    exact ok _ (key (setS S9 6 (zq g.m)) rfl (fun k hk => zq_setS_other _ _ _ _ hk) (by rw [zq_setS_same, hvv]) (z9.v _)) e9
  · rw [if_neg hw] at e9 hvv
    exact ok _ (key S9 rfl (fun _ _ => rfl) (by rw [k9 6 (by omega) (by omega), d7, hv, hvv]) z9) e9
theorem zy_play0 {S : SC} {g : ZG} {q v : Int} {H : List (ZG × Int)} (J : zyJ S g q v H) {x : Int} (hx : -2147483648 ≤ x ∧ x < 2147483648) (no : ¬ (q = 2 * g.B ∧ x ∈ zqTl g v)) : ∃ S', fX3_play S (zq x) = some (.inr 1, S') ∧ zyJ S' g q v H := by
  obtain ⟨z, w, a1, a3, a4, a5, a7, a9, a10, a11, a12⟩ := id J
  have hB := w.B
  unfold fX3_play
  rw [zc_reqAll z w a1 a3]
  by_cases h : q = 2 * g.B
  · have hp := J.hp h
    have cap2 := zqTl_cap w hp v
    obtain ⟨S4, e, L, E⟩ := zy_list J h
    have hl := zl_holds L cap2 (fun y hy => by have := zqTl_hi w hy; omega) hx
    rw [if_pos h]
    show ∃ S', bnd (fX0_listTurns S 0) _ = _ ∧ _
    rw [e, zq_bnd, hl, zq_bnd, zq_ifL, if_neg (fun m => no ⟨h, m⟩)]
    exact ⟨S4, rfl, J.e E⟩
  · rw [if_neg h]
    exact ⟨S, rfl, J⟩
theorem zyJ.cc {S : SC} {g : ZG} {q v : Int} {H : List (ZG × Int)} (J : zyJ S g q v H) (h : q = 2 * g.B) (hv : v = -1) : zcC S g H.length := by
  have hp := J.hp h
  obtain ⟨z, w, a1, a3, a4, a5, a7, a9, a10, a11, a12⟩ := J
  obtain ⟨b1, b2⟩ := a12 h
  obtain ⟨b3, b4⟩ := b2 hv
  exact ⟨z, w, hp, a5, by rw [a7, hv], ⟨by omega, b4, b1⟩, b3⟩
theorem zyJ.lk {S S' : SC} {g : ZG} {q v : Int} {H : List (ZG × Int)} {k : Nat} (J : zyJ S g q v H) (hv : v = -1) (C : zcC S' g H.length) (E : zlE k H.length S S') : zyJ S' g q v H := by
  obtain ⟨z, w, a1, a3, a4, a5, a7, a9, a10, a11, a12⟩ := J
  exact ⟨C.1, w, by rw [E.1]; exact a1, a3, a4, C.2.2.2.1, by rw [hv]; exact C.2.2.2.2.1, a9, zyH_fr H g E.2.2 a10, a11, a12⟩
theorem zy_reqAhead {S : SC} {g : ZG} {q v : Int} {H : List (ZG × Int)} (J : zyJ S g q v H) {x a : Int} (hx : -2147483648 ≤ x ∧ x < 2147483648) (ha : 0 ≤ a ∧ a ≤ 1) : fX3_requireAhead S (zq x) (zq a) = some (if a ≤ x ∧ x ≤ 3 then (if q = 2 * g.B ∧ v = -1 ∧ (x < 3 ∨ g.n ≤ 8) then .inl () else .inr 1) else .inr 0) := by
  obtain ⟨z, w, a1, a3, a4, a5, a7, a9, a10, a11, a12⟩ := J
  have hn := w.n
  have q1 : (zq v = -1) = (v = -1) := by rw [zq_m1]; exact zq_eq (by omega)
  have q2 : (zq x = 3) = (x = 3) := by rw [zq_l3]; exact zq_eq (by omega)
  have q3 : (zq g.n ≤ 8) = (g.n ≤ 8) := by rw [zq_l8]; exact zq_le (by omega)
  unfold fX3_requireAhead
  rw [zq_l3, zc_isOut (by omega), zq_bnd, zq_ifL, zc_reqAll z w a1 a3, a7, z.n, ← zq_l3]
  simp only [q1, q2, q3]
  by_cases h : a ≤ x ∧ x ≤ 3
  · rw [if_neg (fun r => r h), if_pos h]
    by_cases hq : q = 2 * g.B
    · rw [if_pos hq]
      show (if v = -1 then _ else _) = _
      by_cases hv : v = -1
      · rw [if_pos hv]
        by_cases h3 : x = 3
        · rw [if_pos h3]
          by_cases h8 : g.n ≤ 8
          · rw [if_pos h8, if_pos ⟨hq, hv, Or.inr h8⟩]
          · rw [if_neg h8, if_neg (fun r => by omega)]
        · rw [if_neg h3, if_pos ⟨hq, hv, Or.inl (by omega)⟩]
      · rw [if_neg hv, if_neg (fun r => hv r.2.1)]
    · rw [if_neg hq]
      exact congrArg some (if_neg (fun r => hq r.1)).symm
  · rw [if_pos h, if_neg h]
theorem zy_worth {S : SC} {g : ZG} {q v : Int} {H : List (ZG × Int)} (J : zyJ S g q v H) {x : Int} (hx : -2147483648 ≤ x ∧ x < 2147483648) : ∃ S', fX3_worth S (zq x) = some (if 0 ≤ x ∧ x ≤ 3 then (if q = 2 * g.B ∧ v = -1 ∧ (x < 3 ∨ g.n ≤ 8) then .inl (zq (zqLk x.toNat g)) else .inr 1) else .inr 0, S') ∧ zyJ S' g q v H := by
  have ra := zy_reqAhead J (x := x) (a := 0) hx (by omega)
  rw [← zq_l0] at ra
  unfold fX3_worth
  rw [ra]
  by_cases h : 0 ≤ x ∧ x ≤ 3
  · rw [if_pos h, if_pos h]
    by_cases hc : q = 2 * g.B ∧ v = -1 ∧ (x < 3 ∨ g.n ≤ 8)
    · have C := J.cc hc.1 hc.2.1
      obtain ⟨S', e, C', E'⟩ := zc_lookN x.toNat 3 (by omega) (by omega) S g H.length C
      rw [show ((x.toNat : Nat) : Int) = x by omega] at e
      rw [if_pos hc, if_pos hc]
      refine ⟨S', ?_, J.lk hc.2.1 C' E'⟩
      show bnd (fX1_lookN 4 S (zq x)) _ = _
      rw [e]; rfl
    · rw [if_neg hc, if_neg hc]
      exact ⟨S, rfl, J⟩
  · rw [if_neg h, if_neg h]
    exact ⟨S, rfl, J⟩
theorem zy_best1 {S : SC} {g : ZG} {q v : Int} {H : List (ZG × Int)} (J : zyJ S g q v H) (h : q = 2 * g.B) (hv : v = -1) : ∃ S' j, fX3_best S 1 = some (.inl (zq (g.tr j)), S') ∧ zyJ S' g q v H ∧ j < g.trs.length ∧ ZG.val 0 g (g.tr j) = ZG.V 1 g ∧ ∀ i, i < j → ZG.val 0 g (g.tr i) ≠ ZG.V 1 g := by
  have ra := zy_reqAhead J (x := 1) (a := 1) (by omega) (by omega)
  rw [← zq_l1] at ra
  have C := J.cc h hv
  have ht := C.2.2.2.2.2.2
  obtain ⟨S1, e1, C1, E1⟩ := zc_lookN 1 3 (by omega) (by omega) S g H.length C
  have hV : ∃ j, j < g.trs.length ∧ ZG.val 0 g (g.tr j) = ZG.V 1 g := by
    rcases zqMx_or g.trs (ZG.val 0 g) with hm | ⟨x, hx, hm⟩
    · have := zq_V1nn ht
      have e : ZG.V 1 g = zqMx g.trs (ZG.val 0 g) := rfl
      omega
    · obtain ⟨j, hj, ej⟩ := zq_trx hx
      exact ⟨j, hj, by rw [ej, hm]; rfl⟩
  have J1 := J.lk hv C1 E1
  obtain ⟨S2, e3, L2, E2⟩ := zy_list J1 h
  have L2 : Lst S2 0 g.trs := by unfold zqTl at L2; rw [if_pos hv] at L2; exact L2
  have J2 := J1.e E2
  have C2 := J2.cc h hv
  obtain ⟨S3, jc, e4, C3, E3, hjc, c1, c2⟩ := zc_best32 (k := 0) (by omega) C2 L2 hV
  have e1' : fX1_lookN 4 S 1 = some (zq (ZG.V 1 g), S1) := by
    rw [zq_l1, ← zq_Lk (k := 1) ht]; exact e1
  refine ⟨S3, jc, ?_, J2.lk hv C3 E3, hjc, c1, c2⟩
  unfold fX3_best
  rw [ra, if_pos (by omega), if_pos ⟨h, hv, Or.inl (by omega)⟩]
  show bnd (fX1_lookN 4 S 1) _ = _
  rw [e1', zq_bnd]
  dsimp only
  rw [e3, zq_bnd]
  exact e4
/-! the law's helpers that catch -/
def zyI (S : SC) (a : ZA) : Prop := zyJ S a.g a.q a.v a.H
/-- from any state that tells a: f answers t, and comes to one that tells b -/
def zyTo (f : SC → Option (Int32 × SC)) (a : ZA) (t : Int32) (b : ZA) : Prop := ∀ S, zyI S a → ∃ S', f S = some (t, S') ∧ zyI S' b
def zqLow (x : Int32) (n : Int) : Int := (x &&& 2147483647).toInt % n
theorem zq_and (x : Int32) : 0 ≤ (x &&& 2147483647).toInt := by
  have h1 : (x &&& 2147483647).toInt = (x.toBitVec &&& 2147483647#32).toInt := rfl
  have h2 : (x.toBitVec &&& 2147483647#32).toNat ≤ 2147483647 := by
    rw [BitVec.toNat_and]
    exact Nat.and_le_right
  rw [h1, BitVec.toInt_eq_toNat_of_lt (by omega)]
  omega
theorem zl_low (S : SC) (x : Int32) {n : Int} (hn : 1 ≤ n ∧ n < 2147483648) : fL_low S x (zq n) = some (zq (zqLow x n)) := by
  have h0 := zq_and x
  have h1 : (x &&& 2147483647).toInt < 2147483648 := Int32.toInt_lt _
  unfold fL_low zqLow
  rw [zq_cp _ (show ¬ zq n = 0 by rw [zq_l0, zq_eq (by omega)]; omega)]
  conv => lhs; rw [zq_of (x &&& 2147483647)]
  rw [zq_div (by omega), zq_mul, zq_sub]
  have e : (x &&& 2147483647).toInt - (x &&& 2147483647).toInt / n * n = (x &&& 2147483647).toInt % n := by
    have := Int.emod_add_mul_ediv (x &&& 2147483647).toInt n
    have e2 := Int.mul_comm n ((x &&& 2147483647).toInt / n)
    omega
  rw [e]
theorem zq_low (x : Int32) {n : Int} (hn : 1 ≤ n) : 0 ≤ zqLow x n ∧ zqLow x n < n := ⟨Int.emod_nonneg _ (by omega), Int.emod_lt_of_pos _ (by omega)⟩
/-- how many turns, as the helper tells it -/
def zyMn (a : ZA) : Int := if a.q = 2 * a.g.B then (zqTl a.g a.v).length else -1
theorem zy_Mn {S : SC} {a : ZA} (J : zyI S a) : -1 ≤ zyMn a ∧ zyMn a ≤ 338 := by
  unfold zyMn
  split
  · rename_i h
    have := zqTl_cap (zyJ.w J) (zyJ.hp J h) a.v
    omega
  · omega
theorem zt_turnCount (a : ZA) : zyTo fL_turnCount a (zq (zyMn a)) a := by
  intro S J
  obtain ⟨S', e, J'⟩ := zy_turnCount J
  refine ⟨S', ?_, J'⟩
  unfold fL_turnCount zyMn
  rw [e]
  by_cases h : a.q = 2 * a.g.B
  · rw [if_pos h, if_pos h]; rfl
  · rw [if_neg h, if_neg h]; rfl
theorem zt_turnAt (a : ZA) {x : Int} (hx : -2147483648 ≤ x ∧ x < 2147483648) : zyTo (fun S => fL_turnAt S (zq x)) a (zq (if a.q = 2 * a.g.B then (if 0 ≤ x ∧ x < (zqTl a.g a.v).length then a.g.tr x.toNat else -1) else -2)) a := by
  intro S J
  obtain ⟨S', e, J'⟩ := zy_turnAt J hx
  refine ⟨S', ?_, J'⟩
  show fL_turnAt S (zq x) = _
  unfold fL_turnAt
  rw [e]
  by_cases h : a.q = 2 * a.g.B
  · rw [if_pos h, if_pos h]
    by_cases h2 : 0 ≤ x ∧ x < (zqTl a.g a.v).length
    · rw [if_pos h2, if_pos h2]; rfl
    · rw [if_neg h2, if_neg h2]; rfl
  · rw [if_neg h, if_neg h]; rfl
theorem zt_begin1 (a : ZA) {R C B p0 p1 : Int} (ok : zyOk R C B p0 p1) : zyTo (fun S => fL_begin S (zq R) (zq C) (zq B) (zq p0) (zq p1)) a (zq (R * C)) (ZA.mk (zqG0 R C B p0 p1) 0 (-1) []) := by
  intro S J
  obtain ⟨S', e, J'⟩ := zy_begin1 (S := S) ok
  refine ⟨S', ?_, J'⟩
  show fL_begin S _ _ _ _ _ = _
  unfold fL_begin
  rw [e]; rfl
theorem zt_begin0 (a : ZA) {R C B p0 p1 : Int} (hR : -2147483648 ≤ R ∧ R < 2147483648) (hC : -2147483648 ≤ C ∧ C < 2147483648) (hB : -2147483648 ≤ B ∧ B < 2147483648) (h0 : -2147483648 ≤ p0 ∧ p0 < 2147483648) (h1 : -2147483648 ≤ p1 ∧ p1 < 2147483648) (no : ¬ zyOk R C B p0 p1) : zyTo (fun S => fL_begin S (zq R) (zq C) (zq B) (zq p0) (zq p1)) a (-99999) a := by
  intro S J
  refine ⟨S, ?_, J⟩
  show fL_begin S _ _ _ _ _ = _
  unfold fL_begin
  rw [zy_begin0 hR hC hB h0 h1 no]; rfl
theorem zt_place1 (a : ZA) {x : Int} (ok : zyPok a.g a.q x) : zyTo (fun S => fL_place S (zq x)) a (zq (zqOT a.g.B (a.q + 1) 0 (zyPv a.g a.q x))) (ZA.mk (a.g.put (zqIx a.g.B a.q) x) (a.q + 1) (zyPv a.g a.q x) []) := by
  intro S J
  obtain ⟨S', e, J'⟩ := zy_place1 J ok
  refine ⟨S', ?_, J'⟩
  show fL_place S _ = _
  unfold fL_place
  rw [e]; rfl
theorem zt_place0 (a : ZA) {x : Int} (hx : -2147483648 ≤ x ∧ x < 2147483648) (no : ¬ zyPok a.g a.q x) : zyTo (fun S => fL_place S (zq x)) a (-99999) a := by
  intro S J
  refine ⟨S, ?_, J⟩
  show fL_place S _ = _
  unfold fL_place
  rw [zy_place0 J hx no]
  split <;> rfl
theorem zt_raise1 (a : ZA) {x y : Int} (ok : zyRok a.g a.q x y) : zyTo (fun S => fL_raise S (zq x) (zq y)) a (zq (a.g.h x)) (ZA.mk (a.g.rs x y) a.q a.v a.H) := by
  intro S J
  obtain ⟨S', e, J'⟩ := zy_raise1 J ok
  refine ⟨S', ?_, J'⟩
  show fL_raise S _ _ = _
  unfold fL_raise
  rw [e]; rfl
theorem zt_raise0 (a : ZA) {x y : Int} (hx : -2147483648 ≤ x ∧ x < 2147483648) (hy : -2147483648 ≤ y ∧ y < 2147483648) (no : ¬ zyRok a.g a.q x y) : zyTo (fun S => fL_raise S (zq x) (zq y)) a (-99999) a := by
  intro S J
  refine ⟨S, ?_, J⟩
  show fL_raise S _ _ = _
  unfold fL_raise
  rw [zy_raise0 J hx hy no]
  split
  · split <;> rfl
  · rfl
theorem zt_play1 (a : ZA) {x : Int} (h : a.q = 2 * a.g.B) (hm : x ∈ zqTl a.g a.v) : zyTo (fun S => fL_play S (zq x)) a (zq (zyWv a.g x)) (ZA.mk (a.g.act x) a.q (zyWv a.g x) ((a.g, x) :: a.H)) := by
  intro S J
  obtain ⟨S', e, J', -⟩ := zy_play1 J h hm
  refine ⟨S', ?_, J'⟩
  show fL_play S _ = _
  unfold fL_play
  rw [e]; rfl
theorem zt_play0 (a : ZA) {x : Int} (hx : -2147483648 ≤ x ∧ x < 2147483648) (no : ¬ (a.q = 2 * a.g.B ∧ x ∈ zqTl a.g a.v)) : zyTo (fun S => fL_play S (zq x)) a (-99999) a := by
  intro S J
  obtain ⟨S', e, J'⟩ := zy_play0 J hx no
  refine ⟨S', ?_, J'⟩
  show fL_play S _ = _
  unfold fL_play
  rw [e]; rfl
theorem zt_takeBack0 {g : ZG} {q v : Int} : zyTo fL_takeBack (ZA.mk g q v []) (-99999) (ZA.mk g q v []) := by
  intro S J
  refine ⟨S, ?_, J⟩
  have J' : zyJ S g q v [] := J
  unfold fL_takeBack
  rw [zy_takeBack0 J']; rfl
theorem zt_takeBack1 {g : ZG} {q v : Int} {x : ZG × Int} {H : List (ZG × Int)} : zyTo fL_takeBack (ZA.mk g q v (x :: H)) (zq H.length) (ZA.mk x.1 q (-1) H) := by
  intro S J
  have J0 : zyJ S g q v (x :: H) := J
  obtain ⟨S', e, J', -⟩ := zy_takeBack1 J0
  refine ⟨S', ?_, J'⟩
  unfold fL_takeBack
  rw [e]; rfl
theorem zt_worth (a : ZA) {x : Int} (hx : -2147483648 ≤ x ∧ x < 2147483648) : zyTo (fun S => fL_worth S (zq x)) a (zq (if 0 ≤ x ∧ x ≤ 3 then (if a.q = 2 * a.g.B ∧ a.v = -1 ∧ (x < 3 ∨ a.g.n ≤ 8) then zqLk x.toNat a.g else -99998) else -99999)) a := by
  intro S J
  obtain ⟨S', e, J'⟩ := zy_worth J hx
  refine ⟨S', ?_, J'⟩
  show fL_worth S _ = _
  unfold fL_worth
  rw [e]
  by_cases h : 0 ≤ x ∧ x ≤ 3
  · rw [if_pos h, if_pos h]
    by_cases h2 : a.q = 2 * a.g.B ∧ a.v = -1 ∧ (x < 3 ∨ a.g.n ≤ 8)
    · rw [if_pos h2, if_pos h2]; rfl
    · rw [if_neg h2, if_neg h2]; rfl
  · rw [if_neg h, if_neg h]; rfl
