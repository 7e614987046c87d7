set_option maxRecDepth 100000
theorem zq_ifL {β : Type} {P : Prop} (a b : β) : (if zq (zqB P) = (0 : Int32) then a else b) = @ite β P (Classical.propDecidable P) b a := by
  rw [zq_l0, zq_if0]
/-! what binds the two -/
def zqH (S M : SC) : List (ZG × Int) → ZG → Prop
  | [] => fun _ => True
  | x :: H => fun g => g = x.1.act x.2 ∧ x.2 ∈ x.1.trs ∧ ZW x.1 ∧ ZP x.1 ∧ (H.length : Int) ≤ x.1.hs ∧ (H.length : Int) % 2 = x.1.m ∧ ZR S x.1 x.2 H.length ∧ zmK M x.1 H.length ∧ zqH S M H x.1
theorem zqH_fr {S S' M M' : SC} : ∀ (H : List (ZG × Int)) (g : ZG), (∀ x : Int, 0 ≤ x → x < 5 * H.length → S'.2 4 x.toNat = S.2 4 x.toNat) → (∀ x : Int, 0 ≤ x → x < 30 * H.length → M'.2 5 x.toNat = M.2 5 x.toNat) → zqH S M H g → zqH S' M' H g
  | [], _, _, _, _ => trivial
  | x :: H, g, h1, h2, ⟨a1, a2, a3, a4, a5, a6, a7, a8, a9⟩ => by
    have el : (((x :: H).length : Nat) : Int) = (H.length : Int) + 1 := by rw [List.length_cons]; omega
    rw [el] at h1 h2
    refine ⟨a1, a2, a3, a4, a5, a6, ?_, ?_, zqH_fr H x.1 (fun y y0 y1 => h1 y y0 (by omega)) (fun y y0 y1 => h2 y y0 (by omega)) a9⟩
    · obtain ⟨r0, r1, r2, r3, r4⟩ := a7
      exact ⟨by rw [h1 _ (by omega) (by omega)]; exact r0, by rw [h1 _ (by omega) (by omega)]; exact r1, by rw [h1 _ (by omega) (by omega)]; exact r2, by rw [h1 _ (by omega) (by omega)]; exact r3, by rw [h1 _ (by omega) (by omega)]; exact r4⟩
    · obtain ⟨r0, r1, r2⟩ := a8
      exact ⟨fun c c0 c1 => by rw [h2 _ (by omega) (by omega)]; exact r0 c c0 c1, fun c c0 c1 => by rw [h2 _ (by omega) (by omega)]; exact r1 c c0 c1, by rw [h2 _ (by omega) (by omega)]; exact r2⟩
theorem zqH_len {S M : SC} : ∀ (H : List (ZG × Int)) (g : ZG), zqH S M H g → H.length ≤ 101
  | [], _, _ => by simp
  | x :: H, g, ⟨a1, a2, a3, a4, a5, a6, a7, a8, a9⟩ => by
    have := zq_hs a3
    rw [List.length_cons]; omega
/-- what binds the two, told of the position g, q builders placed, v the winner, H what was played -/
def zqJ (S M : SC) (g : ZG) (q v : Int) (H : List (ZG × Int)) : Prop :=
  ZC S g ∧ ZW g ∧ ZM M 0 g ∧ S.1 4 = zq q ∧ M.1 4 = zq q ∧ (0 ≤ q ∧ q ≤ 2 * g.B) ∧ ZQ g q ∧ S.1 5 = zq H.length ∧ M.1 6 = zq H.length ∧ S.1 6 = zq v ∧ M.1 5 = zq v ∧ (-1 ≤ v ∧ v ≤ 1) ∧ zqH S M H g ∧
  (q < 2 * g.B → H = [] ∧ v = -1 ∧ g.m = 0) ∧ (q = 2 * g.B → (H.length : Int) % 2 = g.m ∧ (v = -1 → g.trs ≠ [] ∧ (H.length : Int) ≤ g.hs))
def zqK (S M : SC) : Prop := ∃ (g : ZG) (q v : Int) (H : List (ZG × Int)), zqJ S M g q v H
theorem zqJ.s0 {S M : SC} {g : ZG} {q v : Int} {H : List (ZG × Int)} (J : zqJ S M g q v H) (x : Int32) : zqJ S (setS M 0 x) g q v H := by
  obtain ⟨z, w, zm, a1, a2, a3, a4, a5, a6, a7, a8, a9, a10, a11, a12⟩ := J
  exact ⟨z, w, zm.s 0 x (by omega) (by omega) (by omega), a1, by rw [zq_setS_other _ _ _ _ (by omega)]; exact a2, a3, a4, a5, by rw [zq_setS_other _ _ _ _ (by omega)]; exact a6, a7, by rw [zq_setS_other _ _ _ _ (by omega)]; exact a8, a9, zqH_fr (S := S) (M := M) H g (fun _ _ _ => rfl) (fun _ _ _ => rfl) a10, a11, a12⟩
theorem zqJ.e {S S' M : SC} {g : ZG} {q v : Int} {H : List (ZG × Int)} {t : Nat} (J : zqJ S M g q v H) (E : zqE t S S') : zqJ S' M g q v H := by
  obtain ⟨z, w, zm, a1, a2, a3, a4, a5, a6, a7, a8, a9, a10, a11, a12⟩ := J
  exact ⟨E.c z, w, zm, by rw [E.1 4 (by omega)]; exact a1, a2, a3, a4, by rw [E.1 5 (by omega)]; exact a5, a6, by rw [E.1 6 (by omega)]; exact a7, a8, a9, zqH_fr (S := S) (M := M) H g (fun x _ _ => by rw [E.2 4 (by omega)]) (fun _ _ _ => rfl) a10, a11, a12⟩
theorem zqJ.len {S M : SC} {g : ZG} {q v : Int} {H : List (ZG × Int)} (J : zqJ S M g q v H) : H.length ≤ 101 := zqH_len H g J.2.2.2.2.2.2.2.2.2.2.2.2.1
theorem zq_ex1 (a : Int32) : ∃ x : Int, a = zq x ∧ -2147483648 ≤ x ∧ x < 2147483648 := ⟨a.toInt, zq_of a, Int32.le_toInt a, Int32.toInt_lt a⟩
theorem zc_isOut {S : SC} {x a b : Int} (h : -2147483648 ≤ x ∧ x < 2147483648 ∧ -2147483648 ≤ a ∧ a < 2147483648 ∧ -2147483648 ≤ b ∧ b < 2147483648) : fX3_isOutside S (zq x) (zq a) (zq b) = some (zq (zqB (¬ (a ≤ x ∧ x ≤ b)))) := by
  unfold fX3_isOutside
  simp (disch := omega) only [zq_l0, zq_l1, zq_l2, zq_l3, zq_l4, zq_l5, zq_l6, zq_l8, zq_l10, zq_l25, zq_l29, zq_l30, zq_l32, zq_l50, zq_l63, zq_l99, zq_l100, zq_l125, zq_l200, zq_l338, zq_l505, zq_l6000, zq_l10000, zq_l20, zq_bnd, zq_nm, zq_ck, zq_ex, zq_neg, zq_add, zq_sub, zq_mul, zq_div, zq_lt, zq_le, zq_eq, zq_tn, zq_setA_1, zq_setS_2, if_pos, if_neg, zq_if0, zq_if1, ite_true, ite_false]
  by_cases h1 : x < a
  · rw [if_pos h1, zqB_t (by omega)]
  · rw [if_neg h1]
    by_cases h2 : x ≤ b
    · rw [if_pos h2, zqB_f (by omega)]
    · rw [if_neg h2, zqB_t (by omega)]
theorem zc_reqCell {S : SC} {g : ZG} (z : ZC S g) (w : ZW g) {x : Int} (hx : -2147483648 ≤ x ∧ x < 2147483648) : fX3_requireCell S (zq x) = some (if 0 ≤ x ∧ x < g.n then .inl () else .inr 2) := by
  have hn := w.n
  unfold fX3_requireCell
  rw [z.n, zq_l1, zq_sub, zq_l0, zc_isOut (by omega), zq_bnd, zq_if0]
  by_cases h : 0 ≤ x ∧ x < g.n
  · rw [if_pos h, if_neg (by omega)]
  · rw [if_neg h, if_pos (by omega)]
theorem zc_reqAll {S : SC} {g : ZG} (z : ZC S g) (w : ZW g) {q : Int} (hq : S.1 4 = zq q) (q0 : 0 ≤ q ∧ q ≤ 2 * g.B) : fX3_requireAllPlaced S = some (if q = 2 * g.B then .inl () else .inr 1) := by
  unfold fX3_requireAllPlaced
  rw [zc_isSet z w hq q0, zq_bnd, zq_l0, zq_if0]
  by_cases h : q = 2 * g.B
  · rw [if_pos h, if_pos h]
  · rw [if_neg h, if_neg h]
theorem zq_wk0 (es : List Nat) (v : Int32) : wk es (.inl v) = some 0 := rfl
/-! the calls that read -/
theorem zi_onTurn {S M : SC} {g : ZG} {q v : Int} {H : List (ZG × Int)} (J : zqJ S M g q v H) : ∃ r rm, fX3_onTurn S = some r ∧ fX4_onTurn M = some rm ∧ r = rm.1 ∧ zqK S rm.2 := by
  have len := J.len
  have J0 := J.s0 0
  obtain ⟨z, w, zm, a1, a2, a3, a4, a5, a6, a7, a8, a9, a10, a11, a12⟩ := id J
  obtain ⟨-, -, zm0, -, b2, -, -, -, -, -, b8, -, -, -, -⟩ := id J0
  refine ⟨zq (zqOT g.B q g.m v), (zq (zqOT g.B q g.m v), setS M 0 0), ?_, ?_, rfl, ⟨g, q, v, H, J0⟩⟩
  · unfold fX3_onTurn
    rw [zc_mover z w a1 a3 a7 a9 a5 (by omega) (fun h => (a12 h).1)]; rfl
  · unfold fX4_onTurn
    rw [zq_nm, zm_onTurnNow (L := 0) zm0 w b2 a3 b8 a9]; rfl
theorem zi_winner {S M : SC} {g : ZG} {q v : Int} {H : List (ZG × Int)} (J : zqJ S M g q v H) : ∃ r rm, fX3_winner S = some r ∧ fX4_winner M = some rm ∧ r = rm.1 ∧ zqK S rm.2 := by
  obtain ⟨z, w, zm, a1, a2, a3, a4, a5, a6, a7, a8, a9, a10, a11, a12⟩ := id J
  refine ⟨_, _, rfl, rfl, ?_, ⟨g, q, v, H, J.s0 0⟩⟩
  show S.1 6 = M.1 5
  rw [a7, a8]
theorem zi_played {S M : SC} {g : ZG} {q v : Int} {H : List (ZG × Int)} (J : zqJ S M g q v H) : ∃ r rm, fX3_played S = some r ∧ fX4_played M = some rm ∧ r = rm.1 ∧ zqK S rm.2 := by
  obtain ⟨z, w, zm, a1, a2, a3, a4, a5, a6, a7, a8, a9, a10, a11, a12⟩ := id J
  refine ⟨_, _, rfl, rfl, ?_, ⟨g, q, v, H, J.s0 0⟩⟩
  show S.1 5 = M.1 6
  rw [a5, a6]
theorem zi_height {S M : SC} {g : ZG} {q v : Int} {H : List (ZG × Int)} (J : zqJ S M g q v H) (a1 : Int32) : ∃ r rm, fX3_height S a1 = some r ∧ fX4_height M a1 = some rm ∧ wk [2] r = some (rm.2.1 0) ∧ (∀ v, r = .inl v → v = rm.1) ∧ zqK S rm.2 := by
  obtain ⟨x, rfl, hx⟩ := zq_ex1 a1
  obtain ⟨z, w, zm, -⟩ := id J
  have hn := w.n
  unfold fX3_height fX4_height fX4_height_j14
  rw [zc_reqCell z w hx, zm_isCell zm w hx, zq_bnd, zq_l0, zq_if0]
  by_cases h : 0 ≤ x ∧ x < g.n
  · have hh := (zm.s 0 (zq 0) (by omega) (by omega) (by omega)).h x h.1 (by omega)
    rw [show 25 * 0 + x = x by omega] at hh
    rw [if_pos h, if_pos h, ← zq_l0, zm_g0, zq_ck _ (by omega), zq_tn (by omega)]
    refine ⟨.inl (zq (g.h x)), (zq (g.h x), setS M 0 0), ?_, ?_, rfl, fun v hv => by cases hv; rfl, ⟨g, q, v, H, J.s0 0⟩⟩
    · show bnd (fX0_storeysOf S (zq x)) _ = _
      rw [zc_storeysOf z h.1 (by omega)]; rfl
    · dsimp only
      rw [zq_l0, hh]
  · rw [if_neg h, if_neg h, ← zq_l0, zm_g1 M (show ¬ (1 : Int32) = 0 by decide)]
    exact ⟨.inr 2, _, rfl, rfl, rfl, (fun v hv => by cases hv), ⟨g, q, v, H, J.s0 1⟩⟩
theorem zi_builderAt {S M : SC} {g : ZG} {q v : Int} {H : List (ZG × Int)} (J : zqJ S M g q v H) (a1 : Int32) : ∃ r rm, fX3_builderAt S a1 = some r ∧ fX4_builderAt M a1 = some rm ∧ wk [2] r = some (rm.2.1 0) ∧ (∀ v, r = .inl v → v = rm.1) ∧ zqK S rm.2 := by
  obtain ⟨x, rfl, hx⟩ := zq_ex1 a1
  obtain ⟨z, w, zm, -⟩ := id J
  have hn := w.n
  have hb := zq_bI g x
  unfold fX3_builderAt fX4_builderAt fX4_builderAt_j14
  rw [zc_reqCell z w hx, zm_isCell zm w hx, zq_bnd, zq_l0, zq_if0]
  by_cases h : 0 ≤ x ∧ x < g.n
  · have bi := zm_builderIn (zm.s 0 (zq 0) (by omega) (by omega) (by omega)) w (by omega) h.1 (show x < 25 by omega)
    rw [if_pos h, if_pos h, ← zq_l0, zm_g0]
    dsimp only
    rw [zq_l0, bi, zq_bnd]
    refine ⟨.inl (zq (g.hold x)), (zq (g.hold x), setS M 0 (zq 0)), ?_, ?_, rfl, fun v hv => by cases hv; rfl, ⟨g, q, v, H, J.s0 0⟩⟩
    · show bnd (fX0_holderOf S (zq x)) _ = _
      rw [zc_holderOf z h.1 (by omega)]; rfl
    · unfold ZG.hold
      simp (disch := omega) only [zq_l0, zq_l1, zq_l2, zq_l3, zq_l4, zq_l5, zq_l6, zq_l8, zq_l10, zq_l25, zq_l29, zq_l30, zq_l32, zq_l50, zq_l63, zq_l99, zq_l100, zq_l125, zq_l200, zq_l338, zq_l505, zq_l6000, zq_l10000, zq_l20, zq_bnd, zq_nm, zq_ck, zq_ex, zq_neg, zq_add, zq_sub, zq_mul, zq_div, zq_lt, zq_le, zq_eq, zq_tn, zq_setA_1, zq_setS_2, if_pos, if_neg, zq_if0, zq_if1, ite_true, ite_false, zq_m1, show g.bI x - g.bI x / 2 * 2 = g.bI x % 2 by omega]
      by_cases h1 : g.bI x = -1
      · rw [if_pos h1, if_pos h1]
      · rw [if_neg h1, if_neg h1]
  · rw [if_neg h, if_neg h, ← zq_l0, zm_g1 M (show ¬ (1 : Int32) = 0 by decide)]
    exact ⟨.inr 2, _, rfl, rfl, rfl, (fun v hv => by cases hv), ⟨g, q, v, H, J.s0 1⟩⟩
/-! reached -/
def zqRs (g : ZG) (x k : Int) : Int := if g.a (2 * x + k) = -1 then 0 else g.h (g.a (2 * x + k))
def zqSm (g : ZG) (x : Int) (i : Nat) : Int := match i with | 0 => 0 | 1 => zqRs g x 0 | _ => zqRs g x 0 + zqRs g x 1
theorem zq_Rs {g : ZG} (w : ZW g) {x k : Int} (hx : 0 ≤ x ∧ x ≤ 1) (hk : 0 ≤ k ∧ k ≤ 1) : 0 ≤ zqRs g x k ∧ zqRs g x k ≤ 4 := by
  have ha := w.a (2 * x + k) (by omega) (by omega)
  have hn := w.n
  unfold zqRs
  by_cases h : g.a (2 * x + k) = -1
  · rw [if_pos h]; omega
  · rw [if_neg h]; exact w.h _ (by omega) (by omega)
theorem zc_under {S : SC} {g : ZG} (z : ZC S g) (w : ZW g) {x : Int} (hx : 0 ≤ x ∧ x ≤ 1) : fX0_storeysUnder S (zq x) = some (zq (zqSm g x g.B.toNat)) := by
  have hB := w.B
  have hn := w.n
  have step : ∀ s k : Int, 0 ≤ k → k < g.B → fX0_storeysUnder_b4 S (zq x) (zq s, zq k) = some (.inl (zq (s + zqRs g x k), zq (k + 1))) := by
    intro s k k0 k1
    have ha := w.a (2 * x + k) (by omega) (by omega)
    have st : fX0_storeysOf S (zq (g.a (2 * x + k))) = some (zq (zqRs g x k)) := by
      unfold zqRs
      by_cases h : g.a (2 * x + k) = -1
      · rw [if_pos h, h, zc_storeysOf']
      · rw [if_neg h, zc_storeysOf z (by omega) (by omega)]
    unfold fX0_storeysUnder_b4
    simp (disch := omega) only [zq_l0, zq_l1, zq_l2, zq_l3, zq_l4, zq_l5, zq_l6, zq_l8, zq_l10, zq_l25, zq_l29, zq_l30, zq_l32, zq_l50, zq_l63, zq_l99, zq_l100, zq_l125, zq_l200, zq_l338, zq_l505, zq_l6000, zq_l10000, zq_l20, zq_bnd, zq_nm, zq_ck, zq_ex, zq_neg, zq_add, zq_sub, zq_mul, zq_div, zq_lt, zq_le, zq_eq, zq_tn, zq_setA_1, zq_setS_2, if_pos, if_neg, zq_if0, zq_if1, ite_true, ite_false, z.B, zc_spotOf z (show 0 ≤ 2 * x + k by omega) (show 2 * x + k < 4 by omega), st]
  have last : ∀ s : Int, fX0_storeysUnder_b4 S (zq x) (zq s, zq g.B) = some (.inr (zq s)) := by
    intro s
    unfold fX0_storeysUnder_b4
    simp (disch := omega) only [zq_l0, zq_l1, zq_l2, zq_l3, zq_l4, zq_l5, zq_l6, zq_l8, zq_l10, zq_l25, zq_l29, zq_l30, zq_l32, zq_l50, zq_l63, zq_l99, zq_l100, zq_l125, zq_l200, zq_l338, zq_l505, zq_l6000, zq_l10000, zq_l20, zq_bnd, zq_nm, zq_ck, zq_ex, zq_neg, zq_add, zq_sub, zq_mul, zq_div, zq_lt, zq_le, zq_eq, zq_tn, zq_setA_1, zq_setS_2, if_pos, if_neg, zq_if0, zq_if1, ite_true, ite_false, z.B]
  have e1 := step 0 0 (by omega) (by omega)
  rw [Int.zero_add, show (0 : Int) + 1 = 1 by omega] at e1
  have eF : FUEL = (999999999999999997 + 1 + 1 + 1 : Nat) := by rw [FUEL_is]
  unfold fX0_storeysUnder
  rw [eF, zq_l0]
  rcases (show g.B = 1 ∨ g.B = 2 by omega) with h | h
  · have l := last (zqRs g x 0)
    rw [h] at l ⊢
    rw [zq_loop1 e1, zq_loop0 l]; rfl
  · have e2 := step (zqRs g x 0) 1 (by omega) (by omega)
    have l := last (zqRs g x 0 + zqRs g x 1)
    rw [h] at l ⊢
    rw [zq_loop1 e1, zq_loop1 e2, show (1 : Int) + 1 = 2 by omega, zq_loop0 l]; rfl
theorem zm_reach15 {M : SC} {g : ZG} (z : ZM M 0 g) (w : ZW g) {x : Int} (hx : 0 ≤ x ∧ x ≤ 1) : fX4_reached_j15 (zq x) 0 M = some (zq (zqRs g x 0 + zqRs g x 1), setS M 0 0) := by
  have hn := w.n
  have z0 := z.s 0 (zq 0) (by omega) (by omega) (by omega)
  have step : ∀ s k : Int, 0 ≤ k → k < 2 → fX4_reached_b27 (zq x) (zq s, zq k, setS M 0 (zq 0)) = some (.inl (zq (s + zqRs g x k), zq (k + 1), setS M 0 (zq 0))) := by
    intro s k k0 k1
    have ha := w.a (2 * x + k) (by omega) (by omega)
    have za := z0.a (2 * x + k) (by omega) (by omega)
    rw [show 4 * 0 + (2 * x + k) = 2 * x + k by omega] at za
    unfold fX4_reached_b27 fX4_reached_j62 zqRs
    simp (disch := omega) only [zq_l0, zq_l1, zq_l2, zq_l3, zq_l4, zq_l5, zq_l6, zq_l8, zq_l10, zq_l25, zq_l29, zq_l30, zq_l32, zq_l50, zq_l63, zq_l99, zq_l100, zq_l125, zq_l200, zq_l338, zq_l505, zq_l6000, zq_l10000, zq_l20, zq_bnd, zq_nm, zq_ck, zq_ex, zq_neg, zq_add, zq_sub, zq_mul, zq_div, zq_lt, zq_le, zq_eq, zq_tn, zq_setA_1, zq_setS_2, if_pos, if_neg, zq_if0, zq_if1, ite_true, ite_false, za, zq_m1]
    by_cases h : g.a (2 * x + k) = -1
    · rw [if_pos h, if_pos h]
    · have zh := z.h (g.a (2 * x + k)) (by omega) (by omega)
      rw [show 25 * 0 + g.a (2 * x + k) = g.a (2 * x + k) by omega] at zh
      rw [if_neg h, if_neg h]
      rw [zh, zq_add]
  have last : ∀ s : Int, fX4_reached_b27 (zq x) (zq s, zq 2, setS M 0 (zq 0)) = some (.inr (zq s, setS M 0 (zq 0))) := by
    intro s
    unfold fX4_reached_b27
    simp (disch := omega) only [zq_l0, zq_l1, zq_l2, zq_l3, zq_l4, zq_l5, zq_l6, zq_l8, zq_l10, zq_l25, zq_l29, zq_l30, zq_l32, zq_l50, zq_l63, zq_l99, zq_l100, zq_l125, zq_l200, zq_l338, zq_l505, zq_l6000, zq_l10000, zq_l20, zq_bnd, zq_nm, zq_ck, zq_ex, zq_neg, zq_add, zq_sub, zq_mul, zq_div, zq_lt, zq_le, zq_eq, zq_tn, zq_setA_1, zq_setS_2, if_pos, if_neg, zq_if0, zq_if1, ite_true, ite_false]
  have e1 := step 0 0 (by omega) (by omega)
  have e2 := step (zqRs g x 0) 1 (by omega) (by omega)
  rw [Int.zero_add, show (0 : Int) + 1 = 1 by omega] at e1
  rw [show (1 : Int) + 1 = 2 by omega] at e2
  have eF : FUEL = (999999999999999997 + 1 + 1 + 1 : Nat) := by rw [FUEL_is]
  unfold fX4_reached_j15
  rw [zm_g0]
  dsimp only
  rw [eF, zq_l0, zq_loop1 e1, zq_loop1 e2, zq_loop0 (last _)]
theorem zi_reached {S M : SC} {g : ZG} {q v : Int} {H : List (ZG × Int)} (J : zqJ S M g q v H) (a1 : Int32) : ∃ r rm, fX3_reached S a1 = some r ∧ fX4_reached M a1 = some rm ∧ wk [2] r = some (rm.2.1 0) ∧ (∀ v, r = .inl v → v = rm.1) ∧ zqK S rm.2 := by
  obtain ⟨x, rfl, hx⟩ := zq_ex1 a1
  obtain ⟨z, w, zm, -⟩ := id J
  have hB := w.B
  have c1 := zc_isOut (S := S) (x := x) (a := 0) (b := 1) (by omega)
  have m1 := zm_in (M := M) (x := x) (a := 0) (b := 1) (by omega)
  rw [← zq_l0, ← zq_l1] at c1 m1
  unfold fX3_reached fX4_reached
  rw [c1, zq_bnd, zq_ifL, m1, zq_bnd, zq_ifL]
  by_cases h : 0 ≤ x ∧ x ≤ 1
  · rw [if_neg (fun q => q h), if_pos h, zc_under z w h, zq_bnd, zm_reach15 zm w h]
    refine ⟨_, _, rfl, rfl, rfl, fun v hv => ?_, ⟨g, q, v, H, J.s0 0⟩⟩
    cases hv
    rcases (show g.B = 1 ∨ g.B = 2 by omega) with h1 | h1
    · have : zqRs g x 1 = 0 := by
        unfold zqRs
        rw [if_pos (w.out _ (by omega) (by omega) (by omega))]
      rw [h1, this, Int.add_zero]; rfl
    · rw [h1]; rfl
  · rw [if_pos h, if_neg h]
    unfold fX4_reached_j15
    rw [zm_g1 M (show ¬ (1 : Int32) = 0 by decide)]
    exact ⟨.inr 2, _, rfl, rfl, rfl, (fun v hv => by cases hv), ⟨g, q, v, H, J.s0 1⟩⟩
/-! the list of turns, told by both -/
def zqTl (g : ZG) (v : Int) : List Int := if v = -1 then g.trs else []
theorem zqJ.hp {S M : SC} {g : ZG} {q v : Int} {H : List (ZG × Int)} (J : zqJ S M g q v H) (h : q = 2 * g.B) : ZP g := ZQ.p J.2.1 J.2.2.2.2.2.2.1 h
theorem zi_list {S M : SC} {g : ZG} {q v : Int} {H : List (ZG × Int)} (J : zqJ S M g q v H) (h : q = 2 * g.B) : ∃ S', fX0_listTurns S 0 = some S' ∧ Lst S' 0 (zqTl g v) ∧ zqE 0 S S' := by
  have len := J.len
  have hp := J.hp h
  obtain ⟨z, w, zm, a1, a2, a3, a4, a5, a6, a7, a8, a9, a10, a11, a12⟩ := id J
  have hT := (a12 h).1
  unfold zqTl
  by_cases hv : v = -1
  · rw [if_pos hv]
    refine zl_listTurns z w hp ?_ (by rw [a7, hv]) (zq_cap w hp)
    rw [a5]
    simp (disch := omega) only [zq_l0, zq_l1, zq_l2, zq_l3, zq_l4, zq_l5, zq_l6, zq_l8, zq_l10, zq_l25, zq_l29, zq_l30, zq_l32, zq_l50, zq_l63, zq_l99, zq_l100, zq_l125, zq_l200, zq_l338, zq_l505, zq_l6000, zq_l10000, zq_l20, zq_bnd, zq_nm, zq_ck, zq_ex, zq_neg, zq_add, zq_sub, zq_mul, zq_div, zq_lt, zq_le, zq_eq, zq_tn, zq_setA_1, zq_setS_2, if_pos, if_neg, zq_if0, zq_if1, ite_true, ite_false, show (H.length : Int) - (H.length : Int) / 2 * 2 = g.m by omega]
  · rw [if_neg hv]
    refine zl_listNone ?_
    rw [a7, zq_eq (by omega)]; exact hv
theorem zm_count {M : SC} {g : ZG} {v : Int} (z : ZM M 0 g) (w : ZW g) (hp : ZP g) (hv : M.1 5 = zq v) (v0 : -1 ≤ v ∧ v ≤ 1) : fX4_countTurns M = some (zq (zqTl g v).length) := by
  have cap := zq_cap w hp
  unfold fX4_countTurns fX4_countTurns_j20 zqTl
  have q1 : (zq v = -1) = (v = -1) := by rw [zq_m1]; exact zq_eq (by omega)
  rw [hv]
  simp only [q1]
  by_cases h : v = -1
  · rw [if_pos h, if_pos h, zq_l0, zq_m1, zm_next0 z w hp (by omega), zq_bnd]
    refine zq_for (b := fX4_countTurns_b21 M) (fun i => (zq i, zq (g.tr i))) g.trs.length (by omega) ?_ ?_
    · intro i hi
      have hh := zq_hi w (zq_trm hi)
      have hB := w.B
      have n1 : ¬ zq (g.tr i) = -1 := by rw [zq_m1, zq_eq (by omega)]; omega
      unfold fX4_countTurns_b21
      dsimp only
      rw [if_neg n1, zq_l1, zq_add, zq_nm, zq_l0, zm_next1 z w hp (by omega) hi, zq_bnd]; rfl
    · have e : g.tr g.trs.length = -1 := zq_trn (Nat.le_refl _)
      unfold fX4_countTurns_b21
      dsimp only
      rw [e, if_pos (show zq (-1) = -1 from rfl)]; rfl
  · rw [if_neg h, if_neg h]
    have e : fX4_countTurns_b21 M (0, -1) = some (.inr (zq 0)) := rfl
    have eF : FUEL = 999999999999999999 + 1 := by rw [FUEL_is]
    rw [eF, zq_loop0 e]; rfl
theorem zm_placed {S M : SC} {g : ZG} {q v : Int} {H : List (ZG × Int)} (J : zqJ S M g q v H) : fX4_isPlaced M = some (zq (zqB (q = 2 * g.B))) := by
  obtain ⟨z, w, zm, a1, a2, a3, -⟩ := id J
  have hB := w.B
  exact zm_isPlaced zm w a2 (by omega)
theorem zi_turnCount {S M : SC} {g : ZG} {q v : Int} {H : List (ZG × Int)} (J : zqJ S M g q v H) : ∃ r rm, fX3_turnCount S = some r ∧ fX4_turnCount M = some rm ∧ wk [1] r.1 = some (rm.2.1 0) ∧ (∀ v, r.1 = .inl v → v = rm.1) ∧ zqK r.2 rm.2 := by
  obtain ⟨z, w, zm, a1, a2, a3, a4, a5, a6, a7, a8, a9, a10, a11, a12⟩ := id J
  unfold fX3_turnCount fX4_turnCount fX4_turnCount_j13
  rw [zc_reqAll z w a1 a3, zm_placed J, zq_bnd, zq_ifL]
  by_cases h : q = 2 * g.B
  · obtain ⟨S', e, L, E⟩ := zi_list J h
    have J0 := J.s0 0
    rw [if_pos h, if_pos h, zm_g0]
    dsimp only
    rw [zm_count J0.2.2.1 w (J.hp h) J0.2.2.2.2.2.2.2.2.2.2.1 a9, zq_bnd]
    refine ⟨(.inl (S'.1 8), S'), _, ?_, rfl, rfl, fun v hv => ?_, ⟨g, q, v, H, J0.e E⟩⟩
    · show bnd (fX0_listTurns S 0) _ = _
      rw [e]; rfl
    · cases hv
      exact L.1
  · rw [if_neg h, if_neg h, zm_g1 M (show ¬ (1 : Int32) = 0 by decide)]
    exact ⟨(.inr 1, S), _, rfl, rfl, rfl, (fun v hv => by cases hv), ⟨g, q, v, H, J.s0 1⟩⟩
theorem zm_turnAt48 {M : SC} {g : ZG} (z : ZM M 0 g) (w : ZW g) (hp : ZP g) {x : Int} (hx : 0 ≤ x ∧ x < g.trs.length) : fX4_turnAt_j48 (zq x) 0 M = some (zq (g.tr x.toNat), setS M 0 0) := by
  have cap := zq_cap w hp
  have z0 := z.s 0 (zq 0) (by omega) (by omega) (by omega)
  unfold fX4_turnAt_j48
  rw [zm_g0]
  dsimp only
  rw [zq_l0, zq_m1, zm_next0 z0 w hp (by omega), zq_bnd]
  refine zq_for (b := fX4_turnAt_b66 (zq x)) (fun i => (zq (g.tr i), zq i, setS M 0 (zq 0))) x.toNat (by omega) ?_ ?_
  · intro i hi
    have n1 : ¬ zq x ≤ zq (i : Nat) := by rw [zq_le (by omega)]; omega
    unfold fX4_turnAt_b66
    dsimp only
    rw [if_neg n1, zq_l0, zm_next1 z0 w hp (by omega) (by omega), zq_bnd, zq_l1, zq_add, zq_nm]; rfl
  · have n1 : zq x ≤ zq (x.toNat : Nat) := by rw [zq_le (by omega)]; omega
    unfold fX4_turnAt_b66
    dsimp only
    rw [if_pos n1]; rfl
theorem zi_turnAt {S M : SC} {g : ZG} {q v : Int} {H : List (ZG × Int)} (J : zqJ S M g q v H) (a1 : Int32) : ∃ r rm, fX3_turnAt S a1 = some r ∧ fX4_turnAt M a1 = some rm ∧ wk [2, 1] r.1 = some (rm.2.1 0) ∧ (∀ v, r.1 = .inl v → v = rm.1) ∧ zqK r.2 rm.2 := by
  obtain ⟨x, rfl, hx⟩ := zq_ex1 a1
  obtain ⟨z, w, zm, a1, a2, a3, a4, a5, a6, a7, a8, a9, a10, a11, a12⟩ := id J
  unfold fX3_turnAt fX4_turnAt fX4_turnAt_j25 fX4_turnAt_j26
  rw [zc_reqAll z w a1 a3, zm_placed J, zq_bnd, zq_ifL]
  by_cases h : q = 2 * g.B
  · obtain ⟨S', e, L, E⟩ := zi_list J h
    have hp := J.hp h
    have cap := zq_cap w hp
    have cap2 : (zqTl g v).length ≤ 338 := by unfold zqTl; split <;> simp [cap]
    have L8 : S'.1 8 = zq (zqTl g v).length := L.1
    have io := zc_isOut (S := S') (x := x) (a := 0) (b := ((zqTl g v).length : Int) - 1) (by omega)
    have ii := zm_in (M := M) (x := x) (a := 0) (b := ((zqTl g v).length : Int) - 1) (by omega)
    rw [← zq_l0] at io ii
    rw [if_pos h, if_pos h, zm_count zm w hp a8 a9, zq_bnd, zq_l1, zq_sub, ii, zq_bnd, zq_ifL, zq_bnd, zq_ifL, if_pos h]
    have cl : bndxS S (some (.inl ())) (fun _ => bnd (fX0_listTurns S 0) fun S4 => bnd (fX3_isOutside S4 (zq x) 0 (S4.1 8 - zq 1)) fun v6 => if v6 = 0 then bnd (fX2_at S4 0 (zq x)) fun v8 => some (.inl v8, S4) else some (.inr 2, S4)) = if 0 ≤ x ∧ x ≤ ((zqTl g v).length : Int) - 1 then bnd (fX2_at S' 0 (zq x)) (fun v8 => some (.inl v8, S')) else some (.inr 2, S') := by
      show bnd (fX0_listTurns S 0) _ = _
      rw [e, zq_bnd, L8, zq_sub, io, zq_bnd, zq_ifL]
      by_cases hi : 0 ≤ x ∧ x ≤ ((zqTl g v).length : Int) - 1
      · rw [if_neg (fun r => r hi), if_pos hi]
      · rw [if_pos hi, if_neg hi]
    by_cases hi : 0 ≤ x ∧ x ≤ ((zqTl g v).length : Int) - 1
    · have hv : v = -1 := Classical.byContradiction fun hn => by
        unfold zqTl at hi
        rw [if_neg hn] at hi
        simp at hi
        omega
      rw [if_pos hi] at cl ⊢
      have et : zqTl g v = g.trs := by unfold zqTl; rw [if_pos hv]
      rw [et] at hi L
      have la := zl_at L cap (i := x.toNat) (by omega)
      rw [show ((x.toNat : Nat) : Int) = x by omega] at la
      rw [la, zq_bnd] at cl
      rw [if_neg (show ¬ zq 1 = 0 by decide), zm_turnAt48 zm w hp (by omega)]
      refine ⟨_, _, cl, rfl, rfl, fun v hv => ?_, ⟨g, q, v, H, (J.s0 0).e E⟩⟩
      cases hv
      rw [zq_tr (by omega)]
    · rw [if_neg hi] at cl ⊢
      unfold fX4_turnAt_j48
      rw [zq_bnd, zq_ifL, if_pos h, if_pos rfl, zm_g1 M (show ¬ zq 1 = 0 by decide)]
      exact ⟨(.inr 2, S'), (0, setS M 0 (zq 1)), cl, rfl, rfl, (fun v hv => by cases hv), ⟨g, q, v, H, (J.s0 (zq 1)).e E⟩⟩
  · unfold fX4_turnAt_j48
    rw [if_neg h, if_neg h, zq_bnd, zq_ifL, if_neg h, zm_g1 M (show ¬ (2 : Int32) = 0 by decide)]
    exact ⟨(.inr 1, S), _, rfl, rfl, rfl, (fun v hv => by cases hv), ⟨g, q, v, H, J.s0 2⟩⟩
/-! worth and best -/
theorem zqJ.cc {S M : SC} {g : ZG} {q v : Int} {H : List (ZG × Int)} (J : zqJ S M g q v H) (h : q = 2 * g.B) (hv : v = -1) : zcC S g H.length := by
  have hp := J.hp h
  obtain ⟨z, w, zm, a1, a2, a3, a4, a5, a6, a7, a8, a9, a10, a11, a12⟩ := J
  obtain ⟨b1, b2⟩ := a12 h
  obtain ⟨b3, b4⟩ := b2 hv
  exact ⟨z, w, hp, a5, by rw [a7, hv], ⟨by omega, b4, b1⟩, b3⟩
theorem zqJ.lk {S S' M M' : SC} {g : ZG} {q v : Int} {H : List (ZG × Int)} {k : Nat} (J : zqJ S M g q v H) (hv : v = -1) (C : zcC S' g H.length) (E : zlE k H.length S S') (zm : ZM M' 0 g) (h1 : ∀ j, j ≠ 7 → M'.1 j = M.1 j) (h2 : M'.2 5 = M.2 5) : zqJ S' M' g q v H := by
  obtain ⟨z, w, _, a1, a2, a3, a4, a5, a6, a7, a8, a9, a10, a11, a12⟩ := J
  exact ⟨C.1, w, zm, by rw [E.1]; exact a1, by rw [h1 4 (by omega)]; exact a2, a3, a4, C.2.2.2.1, by rw [h1 6 (by omega)]; exact a6, by rw [hv]; exact C.2.2.2.2.1, by rw [h1 5 (by omega)]; exact a8, a9, zqH_fr H g E.2.2 (fun x _ _ => by rw [h2]) a10, a11, a12⟩
theorem zc_reqAhead {S M : SC} {g : ZG} {q v : Int} {H : List (ZG × Int)} (J : zqJ S M g q v H) {x a : Int} (hx : -2147483648 ≤ x ∧ x < 2147483648) (ha : 0 ≤ a ∧ a ≤ 1) : fX3_requireAhead S (zq x) (zq a) = some (if a ≤ x ∧ x ≤ 3 then (if q = 2 * g.B ∧ v = -1 ∧ (x < 3 ∨ g.n ≤ 8) then .inl () else .inr 1) else .inr 0) := by
  obtain ⟨z, w, zm, a1, a2, a3, a4, a5, a6, a7, a8, a9, a10, a11, a12⟩ := J
  have hn := w.n
  have q1 : (zq v = -1) = (v = -1) := by rw [zq_m1]; exact zq_eq (by omega)
  have q2 : (zq x = 3) = (x = 3) := by rw [zq_l3]; exact zq_eq (by omega)
  have q3 : (zq g.n ≤ 8) = (g.n ≤ 8) := by rw [zq_l8]; exact zq_le (by omega)
  unfold fX3_requireAhead
  rw [zq_l3, zc_isOut (by omega), zq_bnd, zq_ifL, zc_reqAll z w a1 a3, a7, z.n, ← zq_l3]
  simp only [q1, q2, q3]
  by_cases h : a ≤ x ∧ x ≤ 3
  · rw [if_neg (fun r => r h), if_pos h]
    by_cases hq : q = 2 * g.B
    · rw [if_pos hq]
      show (if v = -1 then _ else _) = _
      by_cases hv : v = -1
      · rw [if_pos hv]
        by_cases h3 : x = 3
        · rw [if_pos h3]
          by_cases h8 : g.n ≤ 8
          · rw [if_pos h8, if_pos ⟨hq, hv, Or.inr h8⟩]
          · rw [if_neg h8, if_neg (fun r => by omega)]
        · rw [if_neg h3, if_pos ⟨hq, hv, Or.inl (by omega)⟩]
      · rw [if_neg hv, if_neg (fun r => hv r.2.1)]
    · rw [if_neg hq]
      exact congrArg some (if_neg (fun r => hq r.1)).symm
  · rw [if_pos h, if_neg h]
theorem zm_canLook {S M : SC} {g : ZG} {q v : Int} {H : List (ZG × Int)} (J : zqJ S M g q v H) {x : Int} (hx : 0 ≤ x ∧ x ≤ 3) : fX4_canLook M (zq x) = some (zq (zqB (q = 2 * g.B ∧ v = -1 ∧ (x < 3 ∨ g.n ≤ 8)))) := by
  have pl := zm_placed J
  obtain ⟨z, w, zm, a1, a2, a3, a4, a5, a6, a7, a8, a9, a10, a11, a12⟩ := J
  have hn := w.n
  have q1 : (zq v = -1) = (v = -1) := by rw [zq_m1]; exact zq_eq (by omega)
  have q2 : (zq x < 3) = (x < 3) := by rw [zq_l3]; exact zq_lt (by omega)
  have q3 : (8 < zq g.n) = (8 < g.n) := by rw [zq_l8]; exact zq_lt (by omega)
  unfold fX4_canLook
  rw [pl, zq_bnd, zq_ifL, a8, zm_cells zm, zq_bnd]
  simp only [q1, q2, q3]
  by_cases hq : q = 2 * g.B
  · rw [if_pos hq]
    by_cases hv : v = -1
    · rw [if_pos hv]
      by_cases h3 : x < 3
      · rw [if_pos h3, zqB_t ⟨hq, hv, Or.inl h3⟩]; rfl
      · rw [if_neg h3]
        by_cases h8 : 8 < g.n
        · rw [if_pos h8, zqB_f (fun r => by omega)]; rfl
        · rw [if_neg h8, zqB_t ⟨hq, hv, Or.inr (by omega)⟩]; rfl
    · rw [if_neg hv, zqB_f (fun r => hv r.2.1)]; rfl
  · rw [if_neg hq, zqB_f (fun r => hq r.1)]; rfl
theorem zi_worth {S M : SC} {g : ZG} {q v : Int} {H : List (ZG × Int)} (J : zqJ S M g q v H) (a1 : Int32) : ∃ r rm, fX3_worth S a1 = some r ∧ fX4_worth M a1 = some rm ∧ wk [0, 1] r.1 = some (rm.2.1 0) ∧ (∀ v, r.1 = .inl v → v = rm.1) ∧ zqK r.2 rm.2 := by
  obtain ⟨x, rfl, hx⟩ := zq_ex1 a1
  have ra := zc_reqAhead J (x := x) (a := 0) hx (by omega)
  rw [← zq_l0] at ra
  have ii := zm_in (M := M) (x := x) (a := 0) (b := 3) (by omega)
  rw [← zq_l0, ← zq_l3] at ii
  unfold fX3_worth fX4_worth fX4_worth_j27
  rw [ra, ii, zq_bnd, zq_ifL]
  by_cases h : 0 ≤ x ∧ x ≤ 3
  · rw [if_pos h, if_pos h, zm_canLook J h, zq_bnd, zq_ifL]
    by_cases hc : q = 2 * g.B ∧ v = -1 ∧ (x < 3 ∨ g.n ≤ 8)
    · have C := J.cc hc.1 hc.2.1
      have J0 := J.s0 0
      obtain ⟨S', e, C', E'⟩ := zc_lookN x.toNat 3 (by omega) (by omega) S g H.length C
      obtain ⟨M', e2, z', m1, m2, -⟩ := zm_look J0.2.2.1 J.2.1 C.2.2.1 C.2.2.2.2.2.2 x.toNat (by omega)
      rw [show ((x.toNat : Nat) : Int) = x by omega] at e e2
      rw [if_pos hc, if_pos hc, zm_g0]
      dsimp only
      rw [e2, zq_bnd]
      refine ⟨(.inl (zq (zqLk x.toNat g)), S'), (zq (ZG.V x.toNat g), M'), ?_, rfl, ?_, fun v hv => ?_, ⟨g, q, v, H, J0.lk hc.2.1 C' E' z' m1 m2⟩⟩
      · show bnd (fX1_lookN 4 S (zq x)) _ = _
        rw [e]; rfl
      · show some 0 = some (M'.1 0)
        rw [m1 0 (by omega)]; rfl
      · cases hv
        rw [zq_Lk C.2.2.2.2.2.2]
    · rw [if_neg hc, if_neg hc, zm_g1 M (show ¬ (2 : Int32) = 0 by decide)]
      exact ⟨(.inr 1, S), (0, setS M 0 2), rfl, rfl, rfl, (fun v hv => by cases hv), ⟨g, q, v, H, J.s0 2⟩⟩
  · rw [if_neg h, if_neg h, zm_g1 M (show ¬ (1 : Int32) = 0 by decide)]
    exact ⟨(.inr 0, S), (0, setS M 0 1), rfl, rfl, rfl, (fun v hv => by cases hv), ⟨g, q, v, H, J.s0 1⟩⟩
theorem zc_best32 {S : SC} {g : ZG} {T : Int} {k : Nat} (hk : k < 3) (C : zcC S g T) (L : Lst S 0 g.trs) (hex : ∃ j, j < g.trs.length ∧ ZG.val k g (g.tr j) = ZG.V (k + 1) g) :
    ∃ S' j, loop (fX3_best_b32 (zq (k + 1)) (zq (ZG.V (k + 1) g))) FUEL (0, S) = some (.inl (zq (g.tr j)), S') ∧ zcC S' g T ∧ zlE k T S S' ∧ j < g.trs.length ∧ ZG.val k g (g.tr j) = ZG.V (k + 1) g ∧ ∀ i, i < j → ZG.val k g (g.tr i) ≠ ZG.V (k + 1) g := by
  have cap := zq_cap C.2.1 C.2.2.1
  have hV := zq_V (k + 1) g
  obtain ⟨r, e, S', j, q1, q2⟩ := zq_forE (b := fX3_best_b32 (zq (k + 1)) (zq (ZG.V (k + 1) g))) (s := (0, S)) (fun i s => s.1 = zq i ∧ zcC s.2 g T ∧ zlE k T S s.2 ∧ ∀ j, j < i → ZG.val k g (g.tr j) ≠ ZG.V (k + 1) g) (fun r => ∃ S' j, r = (.inl (zq (g.tr j)), S') ∧ zcC S' g T ∧ zlE k T S S' ∧ j < g.trs.length ∧ ZG.val k g (g.tr j) = ZG.V (k + 1) g ∧ ∀ i, i < j → ZG.val k g (g.tr i) ≠ ZG.V (k + 1) g) g.trs.length (by omega)
    (by
      rintro i hi ⟨s1, s⟩ ⟨e1, hC, hE, hn⟩
      have e1 : s1 = zq i := e1
      subst e1
      have hC : zcC s g T := hC
      have hE : zlE k T S s := hE
      have Li := hE.l (Or.inl rfl) L
      have L8 : s.1 8 = zq g.trs.length := Li.1
      have hv := zq_val k g (g.tr i)
      have n1 : ¬ zq (g.trs.length : Nat) ≤ zq (i : Nat) := by rw [zq_le (by omega)]; omega
      obtain ⟨s', e', C', E'⟩ := zc_worthOf (lk := fX1_lookN 4) (by omega) (fun S g T C => zc_lookN k 3 (by omega) (by omega) S g T C) hC (n := g.tr i) (zq_trm hi)
      unfold fX3_best_b32
      dsimp only
      rw [L8, if_neg n1, zl_at Li cap hi, zq_bnd, ← zq_tr hi, e', zq_bnd]
      have q3 : (zq (ZG.val k g (g.tr i)) = zq (ZG.V (k + 1) g)) = (ZG.val k g (g.tr i) = ZG.V (k + 1) g) := zq_eq (by omega)
      dsimp only
      simp only [q3]
      by_cases hh : ZG.val k g (g.tr i) = ZG.V (k + 1) g
      · rw [if_pos hh]
        exact Or.inr ⟨_, rfl, s', i, rfl, C', hE.tr E', hi, hh, hn⟩
      · rw [if_neg hh, zq_l1, zq_add, zq_nm]
        refine Or.inl ⟨_, rfl, rfl, C', hE.tr E', fun j hj => ?_⟩
        by_cases hji : j = i
        · rw [hji]; exact hh
        · exact hn j (by omega))
    (by
      rintro ⟨s1, s⟩ ⟨e1, hC, hE, hn⟩
      obtain ⟨j, hj, hv⟩ := hex
      exact absurd hv (hn j hj))
    ⟨rfl, C, zlE.rf, fun j hj => by omega⟩
  exact ⟨S', j, by rw [e, q1], q2⟩
theorem zi_best {S M : SC} {g : ZG} {q v : Int} {H : List (ZG × Int)} (J : zqJ S M g q v H) (a1 : Int32) : ∃ r rm, fX3_best S a1 = some r ∧ fX4_best M a1 = some rm ∧ wk [0, 1] r.1 = some (rm.2.1 0) ∧ (∀ v, r.1 = .inl v → v = rm.1) ∧ zqK r.2 rm.2 := by
  obtain ⟨x, rfl, hx⟩ := zq_ex1 a1
  have ra := zc_reqAhead J (x := x) (a := 1) hx (by omega)
  rw [← zq_l1] at ra
  have ii := zm_in (M := M) (x := x) (a := 1) (b := 3) (by omega)
  rw [← zq_l1, ← zq_l3] at ii
  unfold fX3_best fX4_best fX4_best_j27
  rw [ra, ii, zq_bnd, zq_ifL]
  by_cases h : 1 ≤ x ∧ x ≤ 3
  · rw [if_pos h, if_pos h, zm_canLook J (by omega), zq_bnd, zq_ifL]
    by_cases hc : q = 2 * g.B ∧ v = -1 ∧ (x < 3 ∨ g.n ≤ 8)
    · have C := J.cc hc.1 hc.2.1
      have J0 := J.s0 0
      obtain ⟨k, hk⟩ : ∃ k : Nat, x = k + 1 := ⟨(x - 1).toNat, by omega⟩
      subst hk
      obtain ⟨S1, e1, C1, E1⟩ := zc_lookN (k + 1) 3 (by omega) (by omega) S g H.length C
      obtain ⟨M', e2, z', m1, m2, m3⟩ := zm_look J0.2.2.1 J.2.1 C.2.2.1 C.2.2.2.2.2.2 (k + 1) (by omega)
      obtain ⟨jm, hjm, f1, f2, f3⟩ := m3 (by omega)
      rw [show k + 1 - 1 = k by omega] at f2 f3
      have J1 := J0.lk hc.2.1 C1 E1 z' m1 m2
      obtain ⟨S2, e3, L2, E2⟩ := zi_list J1 hc.1
      have L2 : Lst S2 0 g.trs := by unfold zqTl at L2; rw [if_pos hc.2.1] at L2; exact L2
      have J2 := J1.e E2
      have C2 := J2.cc hc.1 hc.2.1
      obtain ⟨S3, jc, e4, C3, E3, hjc, c1, c2⟩ := zc_best32 (k := k) (by omega) C2 L2 ⟨jm, hjm, f2⟩
      have ej : jc = jm := by
        rcases Nat.lt_trichotomy jc jm with hlt | heq | hgt
        · have := f3 jc hlt; omega
        · exact heq
        · exact absurd f2 (c2 jm hgt)
      rw [if_pos hc, if_pos hc, zm_g0]
      dsimp only
      have e2' : fX4_look (setS M 0 0) (zq ((k : Int) + 1)) = some (zq (ZG.V (k + 1) g), M') := e2
      rw [e2', zq_bnd]
      have e1' : fX1_lookN 4 S (zq ((k : Int) + 1)) = some (zq (ZG.V (k + 1) g), S1) := by
        rw [← zq_Lk (k := k + 1) C.2.2.2.2.2.2]; exact e1
      refine ⟨(.inl (zq (g.tr jc)), S3), (M'.1 7, M'), ?_, rfl, ?_, fun v hv => ?_, ⟨g, q, v, H, J2.lk hc.2.1 C3 E3 z' (fun _ _ => rfl) rfl⟩⟩
      · show bnd (fX1_lookN 4 S (zq ((k : Int) + 1))) _ = _
        rw [e1', zq_bnd]
        dsimp only
        rw [e3, zq_bnd]
        exact e4
      · show some 0 = some (M'.1 0)
        rw [m1 0 (by omega)]; rfl
      · cases hv
        rw [f1, ej]
    · rw [if_neg hc, if_neg hc, zm_g1 M (show ¬ (2 : Int32) = 0 by decide)]
      exact ⟨(.inr 1, S), (0, setS M 0 2), rfl, rfl, rfl, (fun v hv => by cases hv), ⟨g, q, v, H, J.s0 2⟩⟩
  · rw [if_neg h, if_neg h, zm_g1 M (show ¬ (1 : Int32) = 0 by decide)]
    exact ⟨(.inr 0, S), (0, setS M 0 1), rfl, rfl, rfl, (fun v hv => by cases hv), ⟨g, q, v, H, J.s0 1⟩⟩
/-! play and takeBack -/
theorem ZP.q {g : ZG} {q : Int} (w : ZW g) (hp : ZP g) (h : q = 2 * g.B) : ZQ g q := by
  have hB := w.B
  have ix := zq_Ix (q := q) hB
  intro i i0 i4 hi
  exact ⟨fun _ => by omega, fun _ => hp i i0 i4 hi⟩
theorem zi_takeBack {S M : SC} {g : ZG} {q v : Int} {H : List (ZG × Int)} (J : zqJ S M g q v H) : ∃ r rm, fX3_takeBack S = some r ∧ fX4_takeBack M = some rm ∧ wk [1] r.1 = some (rm.2.1 0) ∧ (∀ v, r.1 = .inl v → v = rm.1) ∧ zqK r.2 rm.2 := by
  have len := J.len
  match H, J, len with
  | [], J, _ =>
    obtain ⟨z, w, zm, a1, a2, a3, a4, a5, a6, a7, a8, a9, a10, a11, a12⟩ := id J
    have a5 : S.1 5 = zq 0 := a5
    refine ⟨(.inr 1, S), (zq 0, setS M 0 (zq 1)), ?_, zm_takeBack0 a6, rfl, (fun v hv => by cases hv), ⟨g, q, v, [], J.s0 (zq 1)⟩⟩
    unfold fX3_takeBack
    rw [a5, if_pos (show zq 0 = 0 from rfl)]
  | x :: H, J, len =>
    obtain ⟨z, w, zm, a1, a2, a3, a4, a5, a6, a7, a8, a9, a10, a11, a12⟩ := id J
    obtain ⟨b1, b2, b3, b4, b5, b6, b7, b8, b9⟩ := a10
    have el : (((x :: H).length : Nat) : Int) = (H.length : Int) + 1 := by rw [List.length_cons]; omega
    rw [List.length_cons] at len
    rw [el] at a5 a6
    have hq : q = 2 * g.B := Classical.byContradiction fun hn => by
      have := (a11 (by omega)).1
      cases this
    have t := zt_of b3 b4 b2
    have hs := zq_hs b3
    rw [b1] at z zm
    obtain ⟨S', e1, z', i5, i6, k', r'⟩ := zc_undo b3 t z a5 ⟨by omega, by omega⟩ b7
    obtain ⟨M', e2, m0, zm', m6, m5, m4, mr⟩ := zm_takeBack zm b3 a6 ⟨by omega, by omega⟩ b8
    have eB : g.B = x.1.B := by rw [b1]; rfl
    rw [eB] at a3 hq
    refine ⟨(.inl (S'.1 5), S'), (zq H.length, M'), ?_, e2, ?_, fun v hv => ?_, ⟨x.1, q, -1, H, z', b3, zm', ?_, ?_, a3, ZP.q b3 b4 hq, i5, m6, i6, m5, by omega, zqH_fr H x.1 (fun y _ _ => by rw [r' 4 (by omega)]) (fun y _ _ => by rw [mr]) b9, fun h => by omega, fun _ => ⟨b6, fun _ => ⟨fun h => by rw [h] at b2; exact absurd b2 List.not_mem_nil, b5⟩⟩⟩⟩
    · unfold fX3_takeBack
      have n0 : ¬ zq ((H.length : Int) + 1) = 0 := by rw [zq_l0, zq_eq (by omega)]; omega
      rw [a5, if_neg n0, e1]; rfl
    · show some 0 = some (M'.1 0)
      rw [m0]; rfl
    · cases hv; exact i5
    · show S'.1 4 = _
      rw [k' 4 (by omega) (by omega) (by omega)]; exact a1
    · show M'.1 4 = _
      rw [m4]; exact a2
theorem zl_holds {S : SC} {t : Nat} {l : List Int} (L : Lst S t l) (hl : l.length ≤ 338) (hr : ∀ y ∈ l, -2147483648 ≤ y ∧ y < 2147483648) {x : Int} (hx : -2147483648 ≤ x ∧ x < 2147483648) : fX2_holds S t (zq x) = some (zq (zqB (x ∈ l))) := by
  unfold fX2_holds
  obtain ⟨r, e, q⟩ := zq_forE (b := fX2_holds_b2 S t (zq x)) (s := 0) (fun i s => s = zq i ∧ ∀ j (h : j < l.length), j < i → l[j] ≠ x) (fun r => r = zq (zqB (x ∈ l))) l.length (by omega)
    (by
      rintro i hi s ⟨rfl, hn⟩
      have n1 : ¬ zq (l.length : Nat) ≤ zq (i : Nat) := by rw [zq_le (by omega)]; omega
      have hy := hr l[i] (List.getElem_mem hi)
      unfold fX2_holds_b2
      rw [L.1, if_neg n1, zl_at L hl hi, zq_bnd]
      have q3 : (zq l[i] = zq x) = (l[i] = x) := zq_eq (by omega)
      simp only [q3]
      by_cases h : l[i] = x
      · rw [if_pos h]
        refine Or.inr ⟨_, rfl, ?_⟩
        rw [zqB_t (by rw [← h]; exact List.getElem_mem hi)]; rfl
      · rw [if_neg h, zq_l1, zq_add, zq_nm]
        refine Or.inl ⟨_, rfl, rfl, fun j hj hji => ?_⟩
        by_cases he : j = i
        · subst he; exact h
        · exact hn j hj (by omega))
    (by
      rintro s ⟨rfl, hn⟩
      refine ⟨zq 0, ?_, ?_⟩
      · unfold fX2_holds_b2
        rw [L.1, if_pos (Int32.le_refl _)]; rfl
      · rw [zqB_f]
        intro h
        obtain ⟨j, hj, e⟩ := List.getElem_of_mem h
        exact hn j hj hj e)
    ⟨rfl, fun j hj h => by omega⟩
  rw [e, q]
theorem zi_play {S M : SC} {g : ZG} {q v : Int} {H : List (ZG × Int)} (J : zqJ S M g q v H) (a1 : Int32) : ∃ r rm, fX3_play S a1 = some r ∧ fX4_play M a1 = some rm ∧ wk [1] r.1 = some (rm.2.1 0) ∧ (∀ v, r.1 = .inl v → v = rm.1) ∧ zqK r.2 rm.2 := by
  obtain ⟨x, rfl, hx⟩ := zq_ex1 a1
  have len := J.len
  obtain ⟨z, w, zm, a1, a2, a3, a4, a5, a6, a7, a8, a9, a10, a11, a12⟩ := id J
  have hB := w.B
  have bad : ∀ S', zqJ S' M g q v H → ∃ rm, fX4_play_j29 (zq x) M = some rm ∧ wk [1] (.inr 1) = some (rm.2.1 0) ∧ zqK S' rm.2 := by
    intro S' J'
    unfold fX4_play_j29 fX4_play_j30
    rw [zm_g1 M (show ¬ (1 : Int32) = 0 by decide)]
    exact ⟨(0, setS M 0 1), rfl, rfl, ⟨g, q, v, H, J'.s0 1⟩⟩
  unfold fX3_play fX4_play
  rw [zc_reqAll z w a1 a3, zm_placed J, zq_bnd, zq_ifL, a8]
  have q1 : (zq v = -1) = (v = -1) := by rw [zq_m1]; exact zq_eq (by omega)
  simp only [q1]
  by_cases h : q = 2 * g.B
  · have hp := J.hp h
    have cap := zq_cap w hp
    obtain ⟨S4, e, L, E⟩ := zi_list J h
    have J4 := J.e E
    have cap2 : (zqTl g v).length ≤ 338 := by unfold zqTl; split <;> simp [cap]
    have hl := zl_holds L cap2 (fun y hy => by
      have : y ∈ g.trs := by
        unfold zqTl at hy
        split at hy
        · exact hy
        · exact absurd hy List.not_mem_nil
      have := zq_hi w this
      omega) hx
    have cl : bndxS S (some (.inl ())) (fun _ => bnd (fX0_listTurns S 0) fun S4 => bnd (fX2_holds S4 0 (zq x)) fun v6 => if v6 = 0 then some (.inr 1, S4) else bnd (fX0_perform S4 (zq x)) fun S8 => some (.inl (S8.1 6), S8)) = @ite _ (x ∈ zqTl g v) (Classical.propDecidable _) (bnd (fX0_perform S4 (zq x)) fun S8 => some (.inl (S8.1 6), S8)) (some (.inr 1, S4)) := by
      show bnd (fX0_listTurns S 0) _ = _
      rw [e, zq_bnd, hl, zq_bnd, zq_ifL]
    rw [if_pos h, if_pos h]
    by_cases hv : v = -1
    · have et : zqTl g v = g.trs := by unfold zqTl; rw [if_pos hv]
      have it := zm_isTurn zm w hp (by omega) hx
      rw [← zq_l0] at it
      rw [if_pos hv, it, zq_bnd, zq_ifL]
      by_cases hm : x ∈ g.trs
      · rw [if_pos (by rw [et]; exact hm)] at cl
        rw [if_pos hm]
        obtain ⟨c1, c2⟩ := a12 h
        obtain ⟨c3, c4⟩ := c2 hv
        have hs := zq_hs w
        have t := zt_of w hp hm
        have w' := zw_act w t
        have hp' := zp_act w hp t
        obtain ⟨z4, -, -, d1, -, -, -, d5, -, d7, -, -, d10, -, -⟩ := id J4
        obtain ⟨S9, e9, z9, i9, k9, r9, p9⟩ := zc_perform z4 w hp t d5 ⟨by omega, by omega⟩ c1
        obtain ⟨M', e2, m0, zm', m6, m5, m4, mk, mf⟩ := zm_play30 zm w hp t a6 ⟨by omega, by omega⟩ a2 h
        rw [← zq_l0] at e2
        have mm : 0 ≤ g.m ∧ g.m ≤ 1 := by rcases w.m with h | h <;> omega
        have em : (g.act x).m = 1 - g.m := rfl
        have el : ((((g, x) :: H).length : Nat) : Int) = (H.length : Int) + 1 := by rw [List.length_cons]; omega
        generalize hvv : (if x % 100 = 99 ∨ (g.act x).trs = [] then g.m else -1) = v' at *
        -- the class's state behind it
        have key : ∀ S8 : SC, S8.2 = S9.2 → (∀ k, k ≠ 6 → S8.1 k = S9.1 k) → S8.1 6 = zq v' → ZC S8 (g.act x) → zqJ S8 M' (g.act x) q v' ((g, x) :: H) := by
          intro S8 f2 f1 f6 z8
          refine ⟨z8, w', zm', by rw [f1 4 (by omega), k9 4 (by omega) (by omega)]; exact d1, m4, a3, ZP.q w' hp' h, by rw [f1 5 (by omega), el]; exact i9, by rw [el]; exact m6, f6, m5, by rw [← hvv]; split <;> omega, ⟨rfl, hm, w, hp, c4, c1, ⟨?_, ?_, ?_, ?_, ?_⟩, mk, zqH_fr H g (fun y y0 y1 => ?_) (fun y y0 y1 => mf y y0 (by omega)) d10⟩, fun hc => ?_, fun _ => ⟨by rw [el, em]; omega, fun hc => ?_⟩⟩
          · rw [f2, p9 _ (by omega), if_pos rfl]
          · rw [f2, p9 _ (by omega), if_neg (by omega), if_pos rfl]
          · rw [f2, p9 _ (by omega), if_neg (by omega), if_neg (by omega), if_pos rfl]
          · rw [f2, p9 _ (by omega), if_neg (by omega), if_neg (by omega), if_neg (by omega), if_pos rfl]
          · rw [f2, p9 _ (by omega), if_neg (by omega), if_neg (by omega), if_neg (by omega), if_neg (by omega), if_pos rfl]
          · rw [f2, p9 y y0, if_neg (by omega), if_neg (by omega), if_neg (by omega), if_neg (by omega), if_neg (by omega)]
          · have : (g.act x).B = g.B := rfl
            omega
          · by_cases hw : x % 100 = 99 ∨ (g.act x).trs = []
            · rw [if_pos hw] at hvv; omega
            · have := zt_hs w t (fun q => hw (Or.inl q))
              exact ⟨fun q => hw (Or.inr q), by rw [el]; omega⟩
        have ok : ∀ S8 : SC, zqJ S8 M' (g.act x) q v' ((g, x) :: H) → fX0_perform S4 (zq x) = some S8 → ∃ r rm, bndxS S (some (.inl ())) (fun _ => bnd (fX0_listTurns S 0) fun S4 => bnd (fX2_holds S4 0 (zq x)) fun v6 => if v6 = 0 then some (.inr 1, S4) else bnd (fX0_perform S4 (zq x)) fun S8 => some (.inl (S8.1 6), S8)) = some r ∧ fX4_play_j30 (zq x) 0 M = some rm ∧ wk [1] r.1 = some (rm.2.1 0) ∧ (∀ v, r.1 = .inl v → v = rm.1) ∧ zqK r.2 rm.2 := by
          intro S8 J8 e8
          refine ⟨(.inl (S8.1 6), S8), (zq v', M'), ?_, e2, ?_, fun v hv => ?_, ⟨_, _, _, _, J8⟩⟩
          · rw [cl, e8]; rfl
          · show some 0 = some (M'.1 0)
            rw [m0]; rfl
          · cases hv
            exact J8.2.2.2.2.2.2.2.2.2.1
        by_cases hw : x % 100 = 99 ∨ (g.act x).trs = []
        · rw [if_pos hw] at e9 hvv
          exact ok _ (key (setS S9 6 (zq g.m)) rfl (fun k hk => zq_setS_other _ _ _ _ hk) (by rw [zq_setS_same, hvv]) (z9.v _)) e9
        · rw [if_neg hw] at e9 hvv
          exact ok _ (key S9 rfl (fun _ _ => rfl) (by rw [k9 6 (by omega) (by omega), d7, hv, hvv]) z9) e9
      · rw [if_neg (by rw [et]; exact hm)] at cl
        rw [if_neg hm]
        obtain ⟨rm, f1, f2, f3⟩ := bad S4 J4
        exact ⟨(.inr 1, S4), rm, cl, f1, f2, (fun v hv => by cases hv), f3⟩
    · have et : zqTl g v = [] := by unfold zqTl; rw [if_neg hv]
      rw [if_neg (by rw [et]; exact List.not_mem_nil)] at cl
      rw [if_neg hv]
      obtain ⟨rm, f1, f2, f3⟩ := bad S4 J4
      exact ⟨(.inr 1, S4), rm, cl, f1, f2, (fun v hv => by cases hv), f3⟩
  · rw [if_neg h, if_neg h]
    obtain ⟨rm, f1, f2, f3⟩ := bad S J
    exact ⟨(.inr 1, S), rm, rfl, f1, f2, (fun v hv => by cases hv), f3⟩
/-! begin, place, raise -/
theorem zq_J0 {S M : SC} {R C B p0 p1 : Int} (hR : 2 ≤ R ∧ R ≤ 5) (hC : 2 ≤ C ∧ C ≤ 5) (hB : 1 ≤ B ∧ B ≤ 2) (h0 : 0 ≤ p0 ∧ p0 ≤ 6) (h1 : 0 ≤ p1 ∧ p1 ≤ 6) (z : ZC S (zqG0 R C B p0 p1)) (zm : ZM M 0 (zqG0 R C B p0 p1)) (s4 : S.1 4 = zq 0) (s5 : S.1 5 = zq 0) (s6 : S.1 6 = zq (-1)) (m4 : M.1 4 = zq 0) (m5 : M.1 5 = zq (-1)) (m6 : M.1 6 = zq 0) : zqJ S M (zqG0 R C B p0 p1) 0 (-1) [] := by
  have eB : (zqG0 R C B p0 p1).B = B := rfl
  have ix := zq_Ix (q := 0) hB
  refine ⟨z, zw_G0 hR hC hB h0 h1, zm, s4, m4, by rw [eB]; omega, ?_, s5, m6, s6, m5, by omega, trivial, fun _ => ⟨rfl, rfl, rfl⟩, fun h => by rw [eB] at h; omega⟩
  intro i i0 i4 hi
  rw [eB]
  constructor
  · intro h; exact absurd rfl h
  · intro h; omega
theorem zi_begin {S M : SC} {g : ZG} {q v : Int} {H : List (ZG × Int)} (J : zqJ S M g q v H) (a1 a2 a3 a4 a5 : Int32) : ∃ r rm, fX3_begin S a1 a2 a3 a4 a5 = some r ∧ fX4_begin M a1 a2 a3 a4 a5 = some rm ∧ wk [0] r.1 = some (rm.2.1 0) ∧ (∀ v, r.1 = .inl v → v = rm.1) ∧ zqK r.2 rm.2 := by
  obtain ⟨R, rfl, hR⟩ := zq_ex1 a1
  obtain ⟨C, rfl, hC⟩ := zq_ex1 a2
  obtain ⟨B, rfl, hB⟩ := zq_ex1 a3
  obtain ⟨p0, rfl, h0⟩ := zq_ex1 a4
  obtain ⟨p1, rfl, h1⟩ := zq_ex1 a5
  have bad : ∃ rm, fX4_begin_j74 (zq R) (zq C) (zq B) (zq p0) (zq p1) M = some rm ∧ wk [0] (.inr 0) = some (rm.2.1 0) ∧ zqK S rm.2 := by
    unfold fX4_begin_j74 fX4_begin_j75 fX4_begin_j88
    rw [if_pos rfl, zm_g1 M (show ¬ (1 : Int32) = 0 by decide)]
    exact ⟨(0, setS M 0 1), rfl, rfl, ⟨g, q, v, H, J.s0 1⟩⟩
  have bad2 : ∃ r rm, (some ((.inr 0 : Int32 ⊕ Nat), S)) = some r ∧ fX4_begin_j74 (zq R) (zq C) (zq B) (zq p0) (zq p1) M = some rm ∧ wk [0] r.1 = some (rm.2.1 0) ∧ (∀ v, r.1 = .inl v → v = rm.1) ∧ zqK r.2 rm.2 := by
    obtain ⟨rm, f1, f2, f3⟩ := bad
    exact ⟨(.inr 0, S), rm, rfl, f1, f2, (fun v hv => by cases hv), f3⟩
  have o : ∀ x a b : Int, -2147483648 ≤ x ∧ x < 2147483648 → (0 ≤ a ∧ a < 10) → (0 ≤ b ∧ b < 10) → fX3_isOutside S (zq x) (zq a) (zq b) = some (zq (zqB (¬ (a ≤ x ∧ x ≤ b)))) := fun x a b hx ha hb => zc_isOut (by omega)
  have i : ∀ x a b : Int, -2147483648 ≤ x ∧ x < 2147483648 → (0 ≤ a ∧ a < 10) → (0 ≤ b ∧ b < 10) → fX4_in M (zq x) (zq a) (zq b) = some (zq (zqB (a ≤ x ∧ x ≤ b))) := fun x a b hx ha hb => zm_in (by omega)
  have o1 : fX3_isOutside S (zq R) 2 5 = some (zq (zqB (¬ (2 ≤ R ∧ R ≤ 5)))) := by rw [zq_l2, zq_l5]; exact o R 2 5 hR (by omega) (by omega)
  have o2 : fX3_isOutside S (zq C) 2 5 = some (zq (zqB (¬ (2 ≤ C ∧ C ≤ 5)))) := by rw [zq_l2, zq_l5]; exact o C 2 5 hC (by omega) (by omega)
  have o3 : fX3_isOutside S (zq B) 1 2 = some (zq (zqB (¬ (1 ≤ B ∧ B ≤ 2)))) := by rw [zq_l2, zq_l1]; exact o B 1 2 hB (by omega) (by omega)
  have o4 : fX3_isOutside S (zq p0) 0 6 = some (zq (zqB (¬ (0 ≤ p0 ∧ p0 ≤ 6)))) := by rw [zq_l0, zq_l6]; exact o p0 0 6 h0 (by omega) (by omega)
  have o5 : fX3_isOutside S (zq p1) 0 6 = some (zq (zqB (¬ (0 ≤ p1 ∧ p1 ≤ 6)))) := by rw [zq_l0, zq_l6]; exact o p1 0 6 h1 (by omega) (by omega)
  have i1 : fX4_in M (zq R) 2 5 = some (zq (zqB (2 ≤ R ∧ R ≤ 5))) := by rw [zq_l2, zq_l5]; exact i R 2 5 hR (by omega) (by omega)
  have i2 : fX4_in M (zq C) 2 5 = some (zq (zqB (2 ≤ C ∧ C ≤ 5))) := by rw [zq_l2, zq_l5]; exact i C 2 5 hC (by omega) (by omega)
  have i3 : fX4_in M (zq B) 1 2 = some (zq (zqB (1 ≤ B ∧ B ≤ 2))) := by rw [zq_l2, zq_l1]; exact i B 1 2 hB (by omega) (by omega)
  have i4 : fX4_in M (zq p0) 0 6 = some (zq (zqB (0 ≤ p0 ∧ p0 ≤ 6))) := by rw [zq_l0, zq_l6]; exact i p0 0 6 h0 (by omega) (by omega)
  have i5 : fX4_in M (zq p1) 0 6 = some (zq (zqB (0 ≤ p1 ∧ p1 ≤ 6))) := by rw [zq_l0, zq_l6]; exact i p1 0 6 h1 (by omega) (by omega)
  clear o i
  have x10 : ¬ (1 : Int32) = 0 := by decide
  unfold fX3_begin fX4_begin fX4_begin_j31 fX4_begin_j32
  simp only [o1, o2, o3, o4, o5, i1, i2, i3, i4, i5, zq_bnd, zq_ifL]
  by_cases c1 : 2 ≤ R ∧ R ≤ 5
  · rw [if_neg (fun q => q c1), if_pos c1]
    by_cases c2 : 2 ≤ C ∧ C ≤ 5
    · rw [if_neg (fun q => q c2), if_pos c2]
      by_cases c3 : 1 ≤ B ∧ B ≤ 2
      · have RC := zq_RC c1 c2
        have l1 : (2 : Int32) * zq B < zq R * zq C ↔ 2 * B < R * C := by
          rw [zq_l2, zq_mul, zq_mul, zq_lt (by omega)]
        have l2 : zq R * zq C ≤ (2 : Int32) * zq B ↔ ¬ 2 * B < R * C := by
          rw [zq_l2, zq_mul, zq_mul, zq_le (by omega)]; omega
        rw [if_neg (fun q => q c3), if_pos c3, if_neg x10]
        by_cases cB : 2 * B < R * C
        · rw [if_pos (l1.mpr cB)]
          by_cases c4 : 0 ≤ p0 ∧ p0 ≤ 6
          · rw [if_neg (fun q => q c4), if_pos c4]
            by_cases c5 : 0 ≤ p1 ∧ p1 ≤ 6
            · rw [if_neg (fun q => q c5), if_pos c5, if_neg (fun q => l2.mp q cB)]
              obtain ⟨S', e, z', s4, s5, s6⟩ := zc_start (S := S) (B := B) (p0 := p0) (p1 := p1) c1 c2
              unfold fX4_begin_j75 fX4_begin_j88
              rw [if_neg x10, zm_g0, e, zq_bnd]
              dsimp only
              rw [zq_l0, zq_l1, zq_nm, zq_nm, zq_nm, zq_ck _ (by omega), zq_nm, zq_ck _ (by omega), zq_nm]
              obtain ⟨M', e2, zm', m4, m5, m6, mk⟩ := zm_lay (M := setA (setA (setS (setS (setS (setS M 0 (zq 0)) 1 (zq R)) 2 (zq C)) 3 (zq B)) 0 (zq 0) (zq p0)) 0 (zq 1) (zq p1)) (R := R) (C := C) (B := B) (p0 := p0) (p1 := p1) rfl rfl rfl rfl rfl
              have hn : S'.1 0 = zq (R * C) := z'.n
              have cl : fX4_cells M' = some (zq (R * C)) := zm_cells zm'
              rw [e2, zq_bnd, cl, zq_bnd]
              refine ⟨(.inl (S'.1 0), S'), (zq (R * C), M'), rfl, rfl, ?_, fun v hv => ?_, ⟨_, _, _, _, zq_J0 c1 c2 c3 c4 c5 z' zm' s4 s5 s6 m4 m5 m6⟩⟩
              · show some 0 = some (M'.1 0)
                rw [mk 0 (by omega) (by omega) (by omega)]; rfl
              · cases hv; exact hn
            · rw [if_pos c5, if_neg c5]; exact bad2
          · rw [if_pos c4, if_neg c4]; exact bad2
        · rw [if_neg (fun q => cB (l1.mp q)), if_pos (l2.mpr cB)]
          have e2 : ∀ (A B : Prop) (t : Option (Int32 × SC)), @ite _ A (Classical.propDecidable A) (@ite _ B (Classical.propDecidable B) t t) t = t := by
            intro A B t
            split
            · split <;> rfl
            · rfl
          rw [e2]; exact bad2
      · rw [if_pos c3, if_neg c3, if_pos trivial]; exact bad2
    · rw [if_pos c2, if_neg c2, if_pos trivial]; exact bad2
  · rw [if_pos c1, if_neg c1, if_pos trivial]; exact bad2
theorem zi_place {S M : SC} {g : ZG} {q v : Int} {H : List (ZG × Int)} (J : zqJ S M g q v H) (a1 : Int32) : ∃ r rm, fX3_place S a1 = some r ∧ fX4_place M a1 = some rm ∧ wk [2, 1] r.1 = some (rm.2.1 0) ∧ (∀ v, r.1 = .inl v → v = rm.1) ∧ zqK r.2 rm.2 := by
  obtain ⟨x, rfl, hx⟩ := zq_ex1 a1
  have pl := zm_placed J
  obtain ⟨z, w, zm, a1, a2, a3, a4, a5, a6, a7, a8, a9, a10, a11, a12⟩ := id J
  have hn := w.n
  have hB := w.B
  have ic := zm_isCell zm w hx
  have j1 : (fX4_place_j63 (zq x) 1 M) = some (0, setS M 0 1) := by
    unfold fX4_place_j63
    rw [zm_g1 M (show ¬ (1 : Int32) = 0 by decide)]
  have j2 : (fX4_place_j63 (zq x) 2 M) = some (0, setS M 0 2) := by
    unfold fX4_place_j63
    rw [zm_g1 M (show ¬ (2 : Int32) = 0 by decide)]
  unfold fX3_place fX4_place
  rw [zc_reqCell z w hx, ic, zq_bnd, zq_ifL]
  by_cases h : 0 ≤ x ∧ x < g.n
  · have hh := w.h x h.1 (by omega)
    have hb := zq_bI g x
    have j35 : fX4_place_j35 (zq x) M = some (0, setS M 0 2) := by
      unfold fX4_place_j35 fX4_place_j40
      rw [ic, zq_bnd, zq_ifL, if_pos h, if_neg (show ¬ (1 : Int32) = 0 by decide), j2]
    have j39 : fX4_place_j39 (zq x) M = fX4_place_j63 (zq x) 0 M := by
      unfold fX4_place_j39 fX4_place_j40
      rw [ic, zq_bnd, zq_ifL, if_pos h, if_pos rfl]
    have no : ∃ r rm, (some ((.inr 1 : Int32 ⊕ Nat), S)) = some r ∧ some ((0 : Int32), setS M 0 2) = some rm ∧ wk [2, 1] r.1 = some (rm.2.1 0) ∧ (∀ v, r.1 = .inl v → v = rm.1) ∧ zqK r.2 rm.2 :=
      ⟨(.inr 1, S), (0, setS M 0 2), rfl, rfl, rfl, (fun v hv => by cases hv), ⟨g, q, v, H, J.s0 2⟩⟩
    have bi := zm_builderIn zm w (by omega) h.1 (show x < 25 by omega)
    have mh := zm.h x h.1 (by omega)
    rw [show 25 * 0 + x = x by omega] at mh
    rw [if_pos h, if_pos h, pl, zq_bnd, zq_ifL]
    show ∃ r rm, bnd (fX0_isSet S) _ = some r ∧ _
    rw [zc_isSet z w a1 a3, zq_bnd, zq_ifL]
    by_cases hq : q = 2 * g.B
    · rw [if_pos hq, if_pos hq, j35]; exact no
    · rw [if_neg hq, if_neg hq, zc_isOpen z w h.1 (by omega), zq_bnd, zq_ifL]
      have q1 : (zq (g.bI x) = -1) = (g.bI x = -1) := by rw [zq_m1]; exact zq_eq (by omega)
      have q2 : (zq (g.h x) = 4) = (g.h x = 4) := by rw [zq_l4]; exact zq_eq (by omega)
      rw [zq_l0, bi, zq_bnd, zq_ck _ (by omega), zq_tn (by omega), mh]
      simp only [q1, q2]
      by_cases hbi : g.bI x = -1
      · rw [if_pos hbi]
        by_cases h4 : g.h x = 4
        · have ho : ¬ g.opn x := fun r => by have := r.2; omega
          rw [if_pos h4, if_neg ho, j35]; exact no
        · have ho : g.opn x := ⟨hbi, by omega⟩
          obtain ⟨b1, b2, b3⟩ := a11 (by omega)
          subst b1 b2
          have hP := zq_putQ w a4 (by omega) h
          obtain ⟨i0, i2, ia, Q'⟩ := hP
          have w' := zw_put w i0 i2 h hbi (show g.h x < 4 by omega)
          obtain ⟨S', e1, z', s4, s5, s6⟩ := zc_addBuilder z w a1 a4 (by omega) b3 a7 h hbi (by omega)
          obtain ⟨M', e2, m0, zm', m4, m6, m5⟩ := zm_place63 zm w a2 a4 (by omega) b3 h hbi (by omega)
          rw [if_neg h4, if_pos ho, j39, e1, zq_bnd, e2]
          have eB : (g.put (zqIx g.B q) x).B = g.B := rfl
          have em : (g.put (zqIx g.B q) x).m = 0 := b3
          generalize hv : (if q + 1 = 2 * g.B ∧ (g.put (zqIx g.B q) x).trs = [] then (1 : Int) else -1) = v' at *
          have v0 : -1 ≤ v' ∧ v' ≤ 1 := by rw [← hv]; split <;> omega
          have s5' : S'.1 5 = zq 0 := by rw [s5]; exact a5
          have mv := zc_mover z' w' (q := q + 1) (v := v') (T := 0) s4 (by rw [eB]; omega) s6 v0 s5' (by omega) (fun _ => by rw [em]; omega)
          rw [eB, em] at mv
          rw [mv, zq_bnd]
          refine ⟨_, _, rfl, rfl, ?_, fun v hv => ?_, ⟨g.put (zqIx g.B q) x, q + 1, v', [], z', w', zm', s4, m4, by rw [eB]; omega, Q', s5', by rw [m6]; exact a6, s6, m5, v0, trivial, fun hc => ?_, fun hc => ?_⟩⟩
          · show some 0 = some (M'.1 0)
            rw [m0]; rfl
          · cases hv; rfl
          · rw [eB] at hc
            refine ⟨rfl, ?_, em⟩
            rw [← hv, if_neg (fun r => by omega)]
          · rw [eB] at hc
            refine ⟨by rw [em]; rfl, fun hv1 => ⟨fun ht => ?_, zq_hs0 w'⟩⟩
            rw [if_pos ⟨hc, ht⟩] at hv
            omega
      · have ho : ¬ g.opn x := fun r => hbi r.1
        rw [if_neg hbi, if_neg ho, j35]; exact no
  · rw [if_neg h, if_neg h]
    unfold fX4_place_j39 fX4_place_j40
    rw [ic, zq_bnd, zq_ifL, if_neg h, j1]
    exact ⟨(.inr 2, S), (0, setS M 0 1), rfl, rfl, rfl, (fun v hv => by cases hv), ⟨g, q, v, H, J.s0 1⟩⟩
/-- a height is set -/
def ZG.rs (g : ZG) (c k : Int) : ZG := ZG.mk g.R g.C g.B g.p (fun x => if x = c then k else g.h x) g.a g.m g.b
theorem zr_h (g : ZG) (c k x : Int) : (g.rs c k).h x = if x = c then k else g.h x := rfl
theorem zw_rs {g : ZG} (w : ZW g) {c k : Int} (hc : 0 ≤ c) (hk : 0 ≤ k ∧ k ≤ 4) (hb : g.bI c = -1) : ZW (g.rs c k) := by
  refine ⟨w.R, w.C, w.B, w.p, ?_, w.a, w.inj, ?_, w.m, w.b, w.out⟩
  · intro x x0 x1
    rw [zr_h]
    have := w.h x x0 x1
    split <;> omega
  · intro i i0 i4 hi
    have hi : g.a i ≠ -1 := hi
    show (g.rs c k).h (g.a i) < 4
    rw [zr_h, if_neg (zq_bIno w hc hb i i0 i4)]
    exact w.low i i0 i4 hi
theorem zi_raise {S M : SC} {g : ZG} {q v : Int} {H : List (ZG × Int)} (J : zqJ S M g q v H) (a1 a2 : Int32) : ∃ r rm, fX3_raise S a1 a2 = some r ∧ fX4_raise M a1 a2 = some rm ∧ wk [2, 0, 1] r.1 = some (rm.2.1 0) ∧ (∀ v, r.1 = .inl v → v = rm.1) ∧ zqK r.2 rm.2 := by
  obtain ⟨x, rfl, hx⟩ := zq_ex1 a1
  obtain ⟨y, rfl, hy⟩ := zq_ex1 a2
  have pl := zm_placed J
  obtain ⟨z, w, zm, a1, a2, a3, a4, a5, a6, a7, a8, a9, a10, a11, a12⟩ := id J
  have hn := w.n
  have ic := zm_isCell zm w hx
  have ii : fX4_in M (zq y) 0 4 = some (zq (zqB (0 ≤ y ∧ y ≤ 4))) := by rw [zq_l0, zq_l4]; exact zm_in (by omega)
  have io : fX3_isOutside S (zq y) 0 4 = some (zq (zqB (¬ (0 ≤ y ∧ y ≤ 4)))) := by rw [zq_l0, zq_l4]; exact zc_isOut (by omega)
  have jj : ∀ k : Int32, ¬ k = 0 → fX4_raise_j66 (zq x) (zq y) k M = some (0, setS M 0 k) := by
    intro k hk
    unfold fX4_raise_j66
    rw [zm_g1 M hk]
  unfold fX3_raise fX4_raise
  rw [zc_reqCell z w hx, ic, zq_bnd, zq_ifL]
  by_cases h : 0 ≤ x ∧ x < g.n
  · have hh := w.h x h.1 (by omega)
    have hb := zq_bI g x
    have ah := zq_hold g x
    have bi := zm_builderIn zm w (by omega) h.1 (show x < 25 by omega)
    rw [← zq_l0] at bi
    have j30 : ∀ k : Int32, fX4_raise_j30 (zq x) (zq y) k M = if 0 ≤ y ∧ y ≤ 4 then (if k = 0 then fX4_raise_j66 (zq x) (zq y) 0 M else some (0, setS M 0 3)) else some (0, setS M 0 2) := by
      intro k
      unfold fX4_raise_j30
      rw [ic, zq_bnd, zq_ifL, if_pos h, ii, zq_bnd, zq_ifL, jj 2 (by decide), jj 3 (by decide)]
      by_cases hy : 0 ≤ y ∧ y ≤ 4
      · rw [if_pos hy, if_pos hy]
      · rw [if_neg hy, if_neg hy]
    unfold fX4_raise_j29 fX4_raise_j25
    rw [if_pos h, if_pos h, pl, zq_bnd, zq_ifL, bi, zq_bnd, j30, j30]
    show ∃ r rm, bnd (fX3_isOutside S (zq y) 0 4) _ = some r ∧ _
    rw [io, zq_bnd, zq_ifL, zc_isSet z w a1 a3, zq_bnd, zq_ifL, zc_holderOf z h.1 (by omega), zq_bnd]
    have q1 : (zq (g.bI x) = -1) = (g.bI x = -1) := by rw [zq_m1]; exact zq_eq (by omega)
    have q2 : (zq (g.hold x) = -1) = (g.bI x = -1) := by rw [zq_m1, zq_eq (by omega)]; exact propext ah.2.2.1
    simp only [q1, q2]
    by_cases hy4 : 0 ≤ y ∧ y ≤ 4
    · rw [if_neg (fun r => r hy4), if_pos hy4, if_pos hy4, if_pos trivial, if_neg (show ¬ (1 : Int32) = 0 by decide)]
      have no : ∃ r rm, (some ((.inr 1 : Int32 ⊕ Nat), S)) = some r ∧ some ((0 : Int32), setS M 0 3) = some rm ∧ wk [2, 0, 1] r.1 = some (rm.2.1 0) ∧ (∀ v, r.1 = .inl v → v = rm.1) ∧ zqK r.2 rm.2 :=
        ⟨(.inr 1, S), (0, setS M 0 3), rfl, rfl, rfl, (fun v hv => by cases hv), ⟨g, q, v, H, J.s0 3⟩⟩
      by_cases hq : q = 2 * g.B
      · rw [if_pos hq, if_pos hq]; exact no
      · rw [if_neg hq, if_neg hq]
        by_cases hbi : g.bI x = -1
        · rw [if_pos hbi, if_pos hbi, zc_storeysOf z h.1 (by omega), zq_bnd, zc_setStoreys (by omega), zq_bnd]
          obtain ⟨b1, b2, b3⟩ := a11 (by omega)
          subst b1 b2
          have w' := zw_rs w (c := x) (k := y) h.1 hy4 hbi
          have J0 := J.s0 0
          have zm0 := J0.2.2.1
          have mh := zm.h x h.1 (by omega)
          rw [show 25 * 0 + x = x by omega] at mh
          have mr : fX4_raise_j66 (zq x) (zq y) 0 M = some (zq (g.h x), setA (setS M 0 0) 1 (zq x) (zq y)) := by
            unfold fX4_raise_j66
            rw [zm_g0]
            dsimp only
            rw [zq_ck _ (by omega), zq_nm, zq_ck _ (by omega), zq_nm, zq_tn (by omega), zq_setS_2, mh]
          rw [mr]
          refine ⟨_, _, rfl, rfl, rfl, fun v hv => by cases hv; rfl, ⟨g.rs x y, q, -1, [], ⟨z.n, z.B, z.p0, z.p1, z.b, ?_, ?_, ?_, ?_⟩, w', ⟨zm0.R, zm0.C, zm0.B, ?_, ?_, ?_, ?_, ?_, ?_⟩, a1, a2, a3, a4, a5, a6, a7, a8, by omega, trivial, fun _ => ⟨rfl, rfl, b3⟩, fun hc => absurd hc hq⟩⟩
          · intro c c0 c1
            show (setA S 1 (zq x) (zq y)).2 1 _ = _
            rw [zq_wr _ _ _ _ (by omega) c0, zr_h]
            by_cases hc : c = x
            · rw [if_pos ⟨rfl, hc⟩, if_pos hc]
            · rw [if_neg (fun r => hc r.2), if_neg hc]; exact z.h c c0 c1
          · intro c c0 c1
            show (setA S 1 (zq x) (zq y)).2 2 _ = _
            rw [zq_setA_other _ _ _ _ _ (by omega)]; exact z.o c c0 c1
          · intro c c0 c1
            show (setA S 1 (zq x) (zq y)).2 3 _ = _
            rw [zq_setA_other _ _ _ _ _ (by omega)]; exact z.a c c0 c1
          · intro c d c0 c1 d0 d1
            show (setA S 1 (zq x) (zq y)).2 0 _ = _
            rw [zq_setA_other _ _ _ _ _ (by omega)]; exact z.nb c d c0 c1 d0 d1
          · show (setA (setS M 0 0) 1 (zq x) (zq y)).2 0 0 = _
            rw [zq_setA_other _ _ _ _ _ (by omega)]; exact zm0.p0
          · show (setA (setS M 0 0) 1 (zq x) (zq y)).2 0 1 = _
            rw [zq_setA_other _ _ _ _ _ (by omega)]; exact zm0.p1
          · intro c c0 c1
            show (setA (setS M 0 0) 1 (zq x) (zq y)).2 1 _ = _
            rw [zq_wr _ _ _ _ (by omega) (by omega), zr_h]
            by_cases hc : c = x
            · rw [if_pos ⟨rfl, by omega⟩, if_pos hc]
            · rw [if_neg (by omega), if_neg hc]; exact zm0.h c c0 c1
          · intro c c0 c1
            show (setA (setS M 0 0) 1 (zq x) (zq y)).2 2 _ = _
            rw [zq_setA_other _ _ _ _ _ (by omega)]; exact zm0.a c c0 c1
          · show (setA (setS M 0 0) 1 (zq x) (zq y)).2 3 (Int.toNat 0) = _
            rw [zq_setA_other _ _ _ _ _ (by omega)]; exact zm0.m
          · show (setA (setS M 0 0) 1 (zq x) (zq y)).2 4 (Int.toNat 0) = _
            rw [zq_setA_other _ _ _ _ _ (by omega)]; exact zm0.b
        · rw [if_neg hbi, if_neg hbi]; exact no
    · rw [if_pos hy4, if_neg hy4, if_neg hy4]
      rw [ite_self, ite_self]
      exact ⟨(.inr 0, S), (0, setS M 0 2), rfl, rfl, rfl, (fun v hv => by cases hv), ⟨g, q, v, H, J.s0 2⟩⟩
  · rw [if_neg h, if_neg h]
    unfold fX4_raise_j29 fX4_raise_j30
    rw [ic, zq_bnd, zq_ifL, if_neg h, jj 1 (by decide)]
    exact ⟨(.inr 2, S), (0, setS M 0 1), rfl, rfl, rfl, (fun v hv => by cases hv), ⟨g, q, v, H, J.s0 1⟩⟩
/-! the pure facts -/
theorem zl_law : LawOK zqK := by
  rintro S M ⟨g, q, v, H, J⟩
  exact ⟨fun a1 a2 a3 a4 a5 => zi_begin J a1 a2 a3 a4 a5, fun a1 => zi_place J a1, fun a1 a2 => zi_raise J a1 a2, zi_onTurn J, zi_winner J, fun a1 => zi_height J a1, fun a1 => zi_builderAt J a1, zi_played J, zi_turnCount J, fun a1 => zi_turnAt J a1, fun a1 => zi_play J a1, zi_takeBack J, fun a1 => zi_worth J a1, fun a1 => zi_best J a1, fun a1 => zi_reached J a1⟩
theorem zl_start : ∃ S0 M0, fX0_start S0C 5 5 2 0 0 = some S0 ∧ fX4_lay S0M = some M0 ∧ zqK S0 M0 := by
  obtain ⟨S0, e, z, s4, s5, s6⟩ := zc_start (S := S0C) (R := 5) (C := 5) (B := 2) (p0 := 0) (p1 := 0) (by omega) (by omega)
  obtain ⟨M0, e2, zm, m4, m5, m6, -⟩ := zm_lay (M := S0M) (R := 5) (C := 5) (B := 2) (p0 := 0) (p1 := 0) rfl rfl rfl rfl rfl
  exact ⟨S0, M0, e, e2, _, _, _, _, zq_J0 (by omega) (by omega) (by omega) (by omega) (by omega) z zm s4 s5 s6 m4 m5 m6⟩
