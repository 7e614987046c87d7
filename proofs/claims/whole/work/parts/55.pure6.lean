set_option maxRecDepth 100000
theorem ZM.s {M : SC} {L : Int} {g : ZG} (z : ZM M L g) (k : Nat) (v : Int32) (h1 : k ≠ 1) (h2 : k ≠ 2) (h3 : k ≠ 3) : ZM (setS M k v) L g :=
  ⟨by rw [zq_setS_other _ _ _ _ (by omega)]; exact z.R, by rw [zq_setS_other _ _ _ _ (by omega)]; exact z.C, by rw [zq_setS_other _ _ _ _ (by omega)]; exact z.B, z.p0, z.p1, z.h, z.a, z.m, z.b⟩
theorem zm_goes0 (M : SC) : fX4_goesWell M (zq 0) = some (zq 1, setS M 0 (zq 0)) := by
  unfold fX4_goesWell
  simp (disch := omega) only [zq_l0, zq_l1, zq_l2, zq_l3, zq_l4, zq_l5, zq_l6, zq_l8, zq_l10, zq_l25, zq_l29, zq_l30, zq_l32, zq_l50, zq_l63, zq_l99, zq_l100, zq_l125, zq_l200, zq_l338, zq_l505, zq_l6000, zq_l10000, zq_l20, zq_bnd, zq_nm, zq_ck, zq_ex, zq_neg, zq_add, zq_sub, zq_mul, zq_div, zq_lt, zq_le, zq_eq, zq_tn, zq_setA_1, zq_setS_2, if_pos, if_neg, zq_if0, zq_if1, ite_true, ite_false]
theorem zm_goes1 (M : SC) {k : Int} (h : 1 ≤ k ∧ k < 10) : fX4_goesWell M (zq k) = some (zq 0, setS M 0 (zq k)) := by
  unfold fX4_goesWell
  simp (disch := omega) only [zq_l0, zq_l1, zq_l2, zq_l3, zq_l4, zq_l5, zq_l6, zq_l8, zq_l10, zq_l25, zq_l29, zq_l30, zq_l32, zq_l50, zq_l63, zq_l99, zq_l100, zq_l125, zq_l200, zq_l338, zq_l505, zq_l6000, zq_l10000, zq_l20, zq_bnd, zq_nm, zq_ck, zq_ex, zq_neg, zq_add, zq_sub, zq_mul, zq_div, zq_lt, zq_le, zq_eq, zq_tn, zq_setA_1, zq_setS_2, if_pos, if_neg, zq_if0, zq_if1, ite_true, ite_false]
theorem zm_isPlaced {M : SC} {L : Int} {g : ZG} (z : ZM M L g) (w : ZW g) {q : Int} (hq : M.1 4 = zq q) (h0 : 0 ≤ q ∧ q ≤ 4) : fX4_isPlaced M = some (zq (zqB (q = 2 * g.B))) := by
  have hB := w.B
  unfold fX4_isPlaced
  rw [hq, z.B]
  simp (disch := omega) only [zq_l0, zq_l1, zq_l2, zq_l3, zq_l4, zq_l5, zq_l6, zq_l8, zq_l10, zq_l25, zq_l29, zq_l30, zq_l32, zq_l50, zq_l63, zq_l99, zq_l100, zq_l125, zq_l200, zq_l338, zq_l505, zq_l6000, zq_l10000, zq_l20, zq_bnd, zq_nm, zq_ck, zq_ex, zq_neg, zq_add, zq_sub, zq_mul, zq_div, zq_lt, zq_le, zq_eq, zq_tn, zq_setA_1, zq_setS_2, if_pos, if_neg, zq_if0, zq_if1, ite_true, ite_false]
  rw [zqB_if]
theorem zm_judge {M : SC} {g : ZG} (z : ZM M 0 g) (w : ZW g) {q : Int} (hq : M.1 4 = zq q) (h0 : 0 ≤ q ∧ q ≤ 4) (hp : q = 2 * g.B → ZP g) : fX4_judge M = some (setS M 5 (zq (if q = 2 * g.B ∧ g.trs = [] then 1 - g.m else -1))) := by
  have hB := w.B
  have hm : 0 ≤ g.m ∧ g.m ≤ 1 := by rcases w.m with h | h <;> omega
  unfold fX4_judge fX4_judge_j29 fX4_judge_j30
  rw [zm_isPlaced z w hq h0, zq_bnd, zq_l0, zq_if0]
  by_cases h : q = 2 * g.B
  · have hp := hp h
    rw [if_pos h, zq_m1, zm_next0 z w hp (by omega), zq_bnd]
    have tr := zq_trr w 0
    have zm := z.m
    by_cases ht : g.trs = []
    · have e : g.tr 0 = -1 := zq_trn (by rw [ht]; simp)
      have er : (if q = 2 * g.B ∧ g.trs = [] then 1 - g.m else -1) = 1 - g.m := if_pos ⟨h, ht⟩
      rw [er, e, if_pos rfl]
      simp (disch := omega) only [zq_l0, zq_l1, zq_l2, zq_l3, zq_l4, zq_l5, zq_l6, zq_l8, zq_l10, zq_l25, zq_l29, zq_l30, zq_l32, zq_l50, zq_l63, zq_l99, zq_l100, zq_l125, zq_l200, zq_l338, zq_l505, zq_l6000, zq_l10000, zq_l20, zq_bnd, zq_nm, zq_ck, zq_ex, zq_neg, zq_add, zq_sub, zq_mul, zq_div, zq_lt, zq_le, zq_eq, zq_tn, zq_setA_1, zq_setS_2, if_pos, if_neg, zq_if0, zq_if1, ite_true, ite_false, zm]
    · have hl : 0 < g.trs.length := List.length_pos_iff.mpr ht
      have e : ¬ zq (g.tr 0) = zq (-1) := by
        have := zq_hi w (zq_trm hl)
        rw [zq_eq (by omega)]; omega
      have er : (if q = 2 * g.B ∧ g.trs = [] then 1 - g.m else -1) = -1 := if_neg (fun q => ht q.2)
      rw [er, if_neg e, zq_nm]
  · have er : (if q = 2 * g.B ∧ g.trs = [] then 1 - g.m else -1) = -1 := if_neg (fun r => h r.1)
    rw [er, if_neg h, zq_nm, zq_m1]
/-- a row of the kept boards -/
def zmK (M : SC) (g : ZG) (T : Int) : Prop := (∀ c : Int, 0 ≤ c → c < 25 → M.2 5 (30 * T + c).toNat = zq (g.h c)) ∧ (∀ i : Int, 0 ≤ i → i < 4 → M.2 5 (30 * T + 25 + i).toNat = zq (g.a i)) ∧ M.2 5 (30 * T + 29).toNat = zq g.b
/-- nothing but row T of the kept boards is changed -/
def zmF (T : Int) (M M' : SC) : Prop := M'.1 = M.1 ∧ (∀ b, b ≠ 5 → M'.2 b = M.2 b) ∧ (∀ x : Int, 0 ≤ x → ¬ (30 * T ≤ x ∧ x < 30 * T + 30) → M'.2 5 x.toNat = M.2 5 x.toNat)
theorem zmF.rf {T : Int} {M : SC} : zmF T M M := ⟨rfl, fun _ _ => rfl, fun _ _ _ => rfl⟩
theorem zmF.tr {T : Int} {M M' M'' : SC} (a : zmF T M M') (b : zmF T M' M'') : zmF T M M'' := ⟨b.1.trans a.1, fun c h => (b.2.1 c h).trans (a.2.1 c h), fun x h0 h => (b.2.2 x h0 h).trans (a.2.2 x h0 h)⟩
theorem zmF_1 {T : Int} (h0 : 0 ≤ T ∧ T ≤ 150) (S : SC) {i : Int} (hi : 30 * T ≤ i ∧ i < 30 * T + 30) (v : Int32) : zmF T S (setA S 5 (zq i) v) :=
  ⟨rfl, fun b h => zq_setA_other _ _ _ _ _ h, fun x x0 h => by rw [zq_wr _ _ _ _ (by omega) x0, if_neg (by omega)]⟩
theorem zmF.z {T L : Int} {M M' : SC} {g : ZG} (e : zmF T M M') (z : ZM M L g) : ZM M' L g :=
  ⟨by rw [e.1]; exact z.R, by rw [e.1]; exact z.C, by rw [e.1]; exact z.B, by rw [e.2.1 0 (by omega)]; exact z.p0, by rw [e.2.1 0 (by omega)]; exact z.p1, by rw [e.2.1 1 (by omega)]; exact z.h, by rw [e.2.1 2 (by omega)]; exact z.a, by rw [e.2.1 3 (by omega)]; exact z.m, by rw [e.2.1 4 (by omega)]; exact z.b⟩
theorem zm_keep36 {M S : SC} {g : ZG} {T : Int} (z : ZM M 0 g) (w : ZW g) (hT : M.1 6 = zq T) (h0 : 0 ≤ T ∧ T ≤ 150) (F : zmF T M S) (hh : ∀ c : Int, 0 ≤ c → c < 25 → S.2 5 (30 * T + c).toNat = zq (g.h c)) : ∃ M', loop fX4_keep_b36 FUEL (0, S) = some M' ∧ zmK M' g T ∧ zmF T M M' := by
  refine zq_forP (b := fX4_keep_b36) (fun i s => s.1 = zq i ∧ zmF T M s.2 ∧ (∀ c : Int, 0 ≤ c → c < 25 → s.2.2 5 (30 * T + c).toNat = zq (g.h c)) ∧ ∀ j : Int, 0 ≤ j → j < i → s.2.2 5 (30 * T + 25 + j).toNat = zq (g.a j)) (fun M' => zmK M' g T ∧ zmF T M M') 4 (by omega) ?_ ?_ ⟨rfl, F, hh, fun j j0 j1 => by omega⟩
  · rintro i hi ⟨s1, s⟩ ⟨e, hE, h1, h2⟩
    have e : s1 = zq i := e
    subst e
    have hE : zmF T M s := hE
    have h1 : ∀ c : Int, 0 ≤ c → c < 25 → s.2 5 (30 * T + c).toNat = zq (g.h c) := h1
    have h2 : ∀ j : Int, 0 ≤ j → j < i → s.2 5 (30 * T + 25 + j).toNat = zq (g.a j) := h2
    have za := (hE.z z).a i (by omega) (by omega)
    rw [show 4 * 0 + (i : Int) = i by omega] at za
    have hT2 : s.1 6 = zq T := by rw [hE.1]; exact hT
    refine ⟨(zq (i + 1), setA s 5 (zq (30 * T + 25 + i)) (zq (g.a i))), ?_, rfl, hE.tr (zmF_1 h0 s (by omega) _), ?_, ?_⟩
    · unfold fX4_keep_b36
      simp (disch := omega) only [zq_l0, zq_l1, zq_l2, zq_l3, zq_l4, zq_l5, zq_l6, zq_l8, zq_l10, zq_l25, zq_l29, zq_l30, zq_l32, zq_l50, zq_l63, zq_l99, zq_l100, zq_l125, zq_l200, zq_l338, zq_l505, zq_l6000, zq_l10000, zq_l20, zq_bnd, zq_nm, zq_ck, zq_ex, zq_neg, zq_add, zq_sub, zq_mul, zq_div, zq_lt, zq_le, zq_eq, zq_tn, zq_setA_1, zq_setS_2, if_pos, if_neg, zq_if0, zq_if1, ite_true, ite_false, za, hT2]
    · intro c c0 c1
      show (setA s 5 (zq (30 * T + 25 + i)) (zq (g.a i))).2 5 _ = _
      rw [zq_wr _ _ _ _ (by omega) (by omega), if_neg (by omega)]; exact h1 c c0 c1
    · intro j j0 j1
      show (setA s 5 (zq (30 * T + 25 + i)) (zq (g.a i))).2 5 _ = _
      rw [zq_wr _ _ _ _ (by omega) (by omega)]
      by_cases hj : j = i
      · rw [if_pos ⟨rfl, by omega⟩, hj]
      · rw [if_neg (by omega)]; exact h2 j j0 (by omega)
  · rintro ⟨s1, s⟩ ⟨e, hE, h1, h2⟩
    have e : s1 = zq 4 := e
    subst e
    have hE : zmF T M s := hE
    have h1 : ∀ c : Int, 0 ≤ c → c < 25 → s.2 5 (30 * T + c).toNat = zq (g.h c) := h1
    have h2 : ∀ j : Int, 0 ≤ j → j < (4 : Nat) → s.2 5 (30 * T + 25 + j).toNat = zq (g.a j) := h2
    have zb := (hE.z z).b
    have hT2 : s.1 6 = zq T := by rw [hE.1]; exact hT
    have hb := w.b
    refine ⟨setA s 5 (zq (30 * T + 29)) (zq g.b), ?_, ⟨?_, ?_, ?_⟩, hE.tr (zmF_1 h0 s (by omega) _)⟩
    · unfold fX4_keep_b36 fX4_keep_j100
      have e29 : 30 * T + 30 - 1 = 30 * T + 29 := by omega
      simp (disch := omega) only [zq_l0, zq_l1, zq_l2, zq_l3, zq_l4, zq_l5, zq_l6, zq_l8, zq_l10, zq_l25, zq_l29, zq_l30, zq_l32, zq_l50, zq_l63, zq_l99, zq_l100, zq_l125, zq_l200, zq_l338, zq_l505, zq_l6000, zq_l10000, zq_l20, zq_bnd, zq_nm, zq_ck, zq_ex, zq_neg, zq_add, zq_sub, zq_mul, zq_div, zq_lt, zq_le, zq_eq, zq_tn, zq_setA_1, zq_setS_2, if_pos, if_neg, zq_if0, zq_if1, ite_true, ite_false, hT2, e29, zb]
      rcases hb with h | h
      · rw [h, if_pos rfl]; rfl
      · rw [h, if_neg (by omega)]; rfl
    · intro c c0 c1
      rw [zq_wr _ _ _ _ (by omega) (by omega), if_neg (by omega)]; exact h1 c c0 c1
    · intro j j0 j1
      rw [zq_wr _ _ _ _ (by omega) (by omega), if_neg (by omega)]; exact h2 j j0 (by omega)
    · rw [zq_wr _ _ _ _ (by omega) (by omega), if_pos ⟨rfl, rfl⟩]
theorem zm_keep {M : SC} {g : ZG} {T : Int} (z : ZM M 0 g) (w : ZW g) (hT : M.1 6 = zq T) (h0 : 0 ≤ T ∧ T ≤ 150) : ∃ M', fX4_keep M = some M' ∧ zmK M' g T ∧ zmF T M M' := by
  unfold fX4_keep
  refine zq_forP (b := fX4_keep_b2) (fun i s => s.1 = zq i ∧ zmF T M s.2 ∧ (∀ c : Int, 0 ≤ c → c < i → s.2.2 5 (30 * T + c).toNat = zq (g.h c))) (fun M' => zmK M' g T ∧ zmF T M M') 25 (by omega) ?_ ?_ ⟨rfl, zmF.rf, fun j j0 j1 => by omega⟩
  · rintro i hi ⟨s1, s⟩ ⟨e, hE, h2⟩
    have e : s1 = zq i := e
    subst e
    have hE : zmF T M s := hE
    have h2 : ∀ j : Int, 0 ≤ j → j < i → s.2 5 (30 * T + j).toNat = zq (g.h j) := h2
    have za := (hE.z z).h i (by omega) (by omega)
    rw [show 25 * 0 + (i : Int) = i by omega] at za
    have hT2 : s.1 6 = zq T := by rw [hE.1]; exact hT
    refine ⟨(zq (i + 1), setA s 5 (zq (30 * T + i)) (zq (g.h i))), ?_, rfl, hE.tr (zmF_1 h0 s (by omega) _), ?_⟩
    · unfold fX4_keep_b2
      simp (disch := omega) only [zq_l0, zq_l1, zq_l2, zq_l3, zq_l4, zq_l5, zq_l6, zq_l8, zq_l10, zq_l25, zq_l29, zq_l30, zq_l32, zq_l50, zq_l63, zq_l99, zq_l100, zq_l125, zq_l200, zq_l338, zq_l505, zq_l6000, zq_l10000, zq_l20, zq_bnd, zq_nm, zq_ck, zq_ex, zq_neg, zq_add, zq_sub, zq_mul, zq_div, zq_lt, zq_le, zq_eq, zq_tn, zq_setA_1, zq_setS_2, if_pos, if_neg, zq_if0, zq_if1, ite_true, ite_false, za, hT2]
    · intro j j0 j1
      show (setA s 5 (zq (30 * T + i)) (zq (g.h i))).2 5 _ = _
      rw [zq_wr _ _ _ _ (by omega) (by omega)]
      by_cases hj : j = i
      · rw [if_pos ⟨rfl, by omega⟩, hj]
      · rw [if_neg (by omega)]; exact h2 j j0 (by omega)
  · rintro ⟨s1, s⟩ ⟨e, hE, h2⟩
    have e : s1 = zq 25 := e
    subst e
    have hE : zmF T M s := hE
    have h2 : ∀ j : Int, 0 ≤ j → j < (25 : Nat) → s.2 5 (30 * T + j).toNat = zq (g.h j) := h2
    obtain ⟨M', e, q⟩ := zm_keep36 z w hT h0 hE (fun c c0 c1 => h2 c c0 (by omega))
    refine ⟨M', ?_, q⟩
    unfold fX4_keep_b2
    rw [zq_l0] at e
    simp (disch := omega) only [zq_l0, zq_l1, zq_l2, zq_l3, zq_l4, zq_l5, zq_l6, zq_l8, zq_l10, zq_l25, zq_l29, zq_l30, zq_l32, zq_l50, zq_l63, zq_l99, zq_l100, zq_l125, zq_l200, zq_l338, zq_l505, zq_l6000, zq_l10000, zq_l20, zq_bnd, zq_nm, zq_ck, zq_ex, zq_neg, zq_add, zq_sub, zq_mul, zq_div, zq_lt, zq_le, zq_eq, zq_tn, zq_setA_1, zq_setS_2, if_pos, if_neg, zq_if0, zq_if1, ite_true, ite_false, e]
/-! the reference takes a turn back -/
theorem zm_g0 {β : Type} (M : SC) (a k : Int32 × SC → Option β) : bnd (fX4_goesWell M 0) (fun v => if v.1 = 0 then a v else k v) = k (1, setS M 0 0) := by
  unfold fX4_goesWell
  rw [zq_nm, if_pos rfl, zq_bnd]
  exact if_neg (show ¬ (1 : Int32) = 0 by decide)
theorem zm_g1 {β : Type} (M : SC) {x : Int32} (h : ¬ x = 0) (a k : Int32 × SC → Option β) : bnd (fX4_goesWell M x) (fun v => if v.1 = 0 then a v else k v) = a (0, setS M 0 x) := by
  unfold fX4_goesWell
  rw [zq_nm, if_neg h, zq_bnd]
  exact if_pos rfl
theorem zm_back67 {M0 S : SC} {g : ZG} {T n : Int} (z : ZM M0 0 (g.act n)) (w : ZW g) (hT : M0.1 6 = zq T) (h0 : 0 ≤ T ∧ T ≤ 150) (K : zmK M0 g T) (E : zmE 0 M0 S) (hh : ∀ c : Int, 0 ≤ c → c < 25 → S.2 1 c.toNat = zq (g.h c)) (hm3 : S.2 3 = M0.2 3) :
    ∃ r, loop fX4_takeBack_b67 FUEL (0, S) = some r ∧ r.1 = zq T ∧ ZM r.2 0 g ∧ r.2.1 5 = zq (-1) ∧ (∀ k, k ≠ 5 → r.2.1 k = M0.1 k) ∧ r.2.2 5 = M0.2 5 := by
  have hm : 0 ≤ g.m ∧ g.m ≤ 1 := by rcases w.m with h | h <;> omega
  refine zq_forP (b := fX4_takeBack_b67) (fun i s => s.1 = zq i ∧ zmE 0 M0 s.2 ∧ (∀ c : Int, 0 ≤ c → c < 25 → s.2.2 1 c.toNat = zq (g.h c)) ∧ (s.2.2 3 = M0.2 3) ∧ ∀ j : Int, 0 ≤ j → j < i → s.2.2 2 j.toNat = zq (g.a j)) (fun r => r.1 = zq T ∧ ZM r.2 0 g ∧ r.2.1 5 = zq (-1) ∧ (∀ k, k ≠ 5 → r.2.1 k = M0.1 k) ∧ r.2.2 5 = M0.2 5) 4 (by omega) ?_ ?_ ⟨rfl, E, hh, hm3, fun j j0 j1 => by omega⟩
  · rintro i hi ⟨s1, s⟩ ⟨e, hE, h1, h3, h2⟩
    have e : s1 = zq i := e
    subst e
    have hE : zmE 0 M0 s := hE
    have h1 : ∀ c : Int, 0 ≤ c → c < 25 → s.2 1 c.toNat = zq (g.h c) := h1
    have h3 : s.2 3 = M0.2 3 := h3
    have h2 : ∀ j : Int, 0 ≤ j → j < i → s.2 2 j.toNat = zq (g.a j) := h2
    have hT2 : s.1 6 = zq T := by rw [hE.1]; exact hT
    have za : s.2 5 (30 * T + 25 + i).toNat = zq (g.a i) := by rw [hE.2.1 5 (by omega) (by omega) (by omega) (by omega)]; exact K.2.1 i (by omega) (by omega)
    refine ⟨(zq (i + 1), setA s 2 (zq i) (zq (g.a i))), ?_, rfl, hE.tr (zmE_a (by omega) s (by omega) _), ?_, ?_, ?_⟩
    · unfold fX4_takeBack_b67
      simp (disch := omega) only [zq_l0, zq_l1, zq_l2, zq_l3, zq_l4, zq_l5, zq_l6, zq_l8, zq_l10, zq_l25, zq_l29, zq_l30, zq_l32, zq_l50, zq_l63, zq_l99, zq_l100, zq_l125, zq_l200, zq_l338, zq_l505, zq_l6000, zq_l10000, zq_l20, zq_bnd, zq_nm, zq_ck, zq_ex, zq_neg, zq_add, zq_sub, zq_mul, zq_div, zq_lt, zq_le, zq_eq, zq_tn, zq_setA_1, zq_setS_2, if_pos, if_neg, zq_if0, zq_if1, ite_true, ite_false, za, hT2]
    · intro c c0 c1
      show (setA s 2 (zq i) (zq (g.a i))).2 1 _ = _
      rw [zq_setA_other _ _ _ _ _ (by omega)]; exact h1 c c0 c1
    · show (setA s 2 (zq i) (zq (g.a i))).2 3 = _
      rw [zq_setA_other _ _ _ _ _ (by omega)]; exact h3
    · intro j j0 j1
      show (setA s 2 (zq i) (zq (g.a i))).2 2 _ = _
      rw [zq_wr _ _ _ _ (by omega) (by omega)]
      by_cases hj : j = i
      · rw [if_pos ⟨rfl, by omega⟩, hj]
      · rw [if_neg (by omega)]; exact h2 j j0 (by omega)
  · rintro ⟨s1, s⟩ ⟨e, hE, h1, h3, h2⟩
    have e : s1 = zq 4 := e
    subst e
    have hE : zmE 0 M0 s := hE
    have h1 : ∀ c : Int, 0 ≤ c → c < 25 → s.2 1 c.toNat = zq (g.h c) := h1
    have h3 : s.2 3 = M0.2 3 := h3
    have h2 : ∀ j : Int, 0 ≤ j → j < (4 : Nat) → s.2 2 j.toNat = zq (g.a j) := h2
    have hT2 : s.1 6 = zq T := by rw [hE.1]; exact hT
    have zb : s.2 5 (30 * T + 29).toNat = zq g.b := by rw [hE.2.1 5 (by omega) (by omega) (by omega) (by omega)]; exact K.2.2
    have zm0 : M0.2 3 (Int.toNat 0) = zq (1 - g.m) := z.m
    have zm : s.2 3 (Int.toNat 0) = zq (1 - g.m) := by rw [h3]; exact zm0
    have zm4 : (setA s 4 (zq 0) (zq g.b)).2 3 (Int.toNat 0) = zq (1 - g.m) := by rw [zq_setA_other _ _ _ _ _ (by omega)]; exact zm
    have z0 : s.2 0 = M0.2 0 := hE.2.1 0 (by omega) (by omega) (by omega) (by omega)
    refine ⟨(zq T, setS (setA (setA s 4 (zq 0) (zq g.b)) 3 (zq 0) (zq g.m)) 5 (zq (-1))), ?_, rfl, ?_, ?_, ?_, ?_⟩
    · unfold fX4_takeBack_b67 fX4_takeBack_j132
      have e29 : 30 * T + 30 - 1 = 30 * T + 29 := by omega
      have e11 : 1 - (1 - g.m) = g.m := by omega
      have hb := w.b
      simp (disch := omega) only [zq_l0, zq_l1, zq_l2, zq_l3, zq_l4, zq_l5, zq_l6, zq_l8, zq_l10, zq_l25, zq_l29, zq_l30, zq_l32, zq_l50, zq_l63, zq_l99, zq_l100, zq_l125, zq_l200, zq_l338, zq_l505, zq_l6000, zq_l10000, zq_l20, zq_bnd, zq_nm, zq_ck, zq_ex, zq_neg, zq_add, zq_sub, zq_mul, zq_div, zq_lt, zq_le, zq_eq, zq_tn, zq_setA_1, zq_setS_2, if_pos, if_neg, zq_if0, zq_if1, ite_true, ite_false, hT2, e29, zb]
      have n0 := zq_nar (b := 0) (Or.inl rfl)
      have n1 := zq_nar (b := 1) (Or.inr rfl)
      have s6 : ∀ S : SC, S.1 6 = zq T → (setS S 5 (zq (-1))).1 6 = zq T := fun S h => by rw [zq_setS_other _ _ _ _ (by omega)]; exact h
      have t6 : (setA (setA s 4 (zq 0) (zq g.b)) 3 (zq 0) (zq g.m)).1 6 = zq T := hT2
      rcases hb with h | h
      · rw [h] at zm4 t6 ⊢
        rw [if_neg (by omega)]
        simp (disch := omega) only [zq_l0, zq_l1, zq_l2, zq_l3, zq_l4, zq_l5, zq_l6, zq_l8, zq_l10, zq_l25, zq_l29, zq_l30, zq_l32, zq_l50, zq_l63, zq_l99, zq_l100, zq_l125, zq_l200, zq_l338, zq_l505, zq_l6000, zq_l10000, zq_l20, zq_bnd, zq_nm, zq_ck, zq_ex, zq_neg, zq_add, zq_sub, zq_mul, zq_div, zq_lt, zq_le, zq_eq, zq_tn, zq_setA_1, zq_setS_2, if_pos, if_neg, zq_if0, zq_if1, ite_true, ite_false, n0, zm4, e11, zq_m1, s6 _ t6]
      · rw [h] at zm4 t6 ⊢
        rw [if_pos rfl]
        simp (disch := omega) only [zq_l0, zq_l1, zq_l2, zq_l3, zq_l4, zq_l5, zq_l6, zq_l8, zq_l10, zq_l25, zq_l29, zq_l30, zq_l32, zq_l50, zq_l63, zq_l99, zq_l100, zq_l125, zq_l200, zq_l338, zq_l505, zq_l6000, zq_l10000, zq_l20, zq_bnd, zq_nm, zq_ck, zq_ex, zq_neg, zq_add, zq_sub, zq_mul, zq_div, zq_lt, zq_le, zq_eq, zq_tn, zq_setA_1, zq_setS_2, if_pos, if_neg, zq_if0, zq_if1, ite_true, ite_false, n1, zm4, e11, zq_m1, s6 _ t6]
    · refine ⟨?_, ?_, ?_, ?_, ?_, ?_, ?_, ?_, ?_⟩
      · show (setS (setA (setA s 4 (zq 0) (zq g.b)) 3 (zq 0) (zq g.m)) 5 (zq (-1))).1 1 = _
        rw [zq_setS_other _ _ _ _ (by omega)]; show s.1 1 = _; rw [hE.1]; exact z.R
      · show (setS (setA (setA s 4 (zq 0) (zq g.b)) 3 (zq 0) (zq g.m)) 5 (zq (-1))).1 2 = _
        rw [zq_setS_other _ _ _ _ (by omega)]; show s.1 2 = _; rw [hE.1]; exact z.C
      · show (setS (setA (setA s 4 (zq 0) (zq g.b)) 3 (zq 0) (zq g.m)) 5 (zq (-1))).1 3 = _
        rw [zq_setS_other _ _ _ _ (by omega)]; show s.1 3 = _; rw [hE.1]; exact z.B
      · show (setA (setA s 4 (zq 0) (zq g.b)) 3 (zq 0) (zq g.m)).2 0 _ = _
        rw [zq_setA_other _ _ _ _ _ (by omega), zq_setA_other _ _ _ _ _ (by omega), z0]; exact z.p0
      · show (setA (setA s 4 (zq 0) (zq g.b)) 3 (zq 0) (zq g.m)).2 0 _ = _
        rw [zq_setA_other _ _ _ _ _ (by omega), zq_setA_other _ _ _ _ _ (by omega), z0]; exact z.p1
      · intro c c0 c1
        show (setA (setA s 4 (zq 0) (zq g.b)) 3 (zq 0) (zq g.m)).2 1 _ = _
        rw [zq_setA_other _ _ _ _ _ (by omega), zq_setA_other _ _ _ _ _ (by omega), show 25 * 0 + c = c by omega]; exact h1 c c0 c1
      · intro c c0 c1
        show (setA (setA s 4 (zq 0) (zq g.b)) 3 (zq 0) (zq g.m)).2 2 _ = _
        rw [zq_setA_other _ _ _ _ _ (by omega), zq_setA_other _ _ _ _ _ (by omega), show 4 * 0 + c = c by omega]; exact h2 c c0 (by omega)
      · show (setA (setA s 4 (zq 0) (zq g.b)) 3 (zq 0) (zq g.m)).2 3 (Int.toNat 0) = zq g.m
        rw [zq_wr _ _ _ _ (by omega) (by omega), if_pos ⟨rfl, rfl⟩]
      · show (setA (setA s 4 (zq 0) (zq g.b)) 3 (zq 0) (zq g.m)).2 4 (Int.toNat 0) = zq g.b
        rw [zq_setA_other _ _ _ _ _ (by omega), zq_wr _ _ _ _ (by omega) (by omega), if_pos ⟨rfl, rfl⟩]
    · exact zq_setS_same _ _ _
    · intro k hk
      show (setS (setA (setA s 4 (zq 0) (zq g.b)) 3 (zq 0) (zq g.m)) 5 (zq (-1))).1 k = _
      rw [zq_setS_other _ _ _ _ hk]; exact hE.1 k
    · show (setA (setA s 4 (zq 0) (zq g.b)) 3 (zq 0) (zq g.m)).2 5 = _
      rw [zq_setA_other _ _ _ _ _ (by omega), zq_setA_other _ _ _ _ _ (by omega)]
      exact hE.2.1 5 (by omega) (by omega) (by omega) (by omega)
theorem zm_back33 {M0 : SC} {g : ZG} {T n : Int} (z : ZM M0 0 (g.act n)) (w : ZW g) (hT : M0.1 6 = zq T) (h0 : 0 ≤ T ∧ T ≤ 150) (K : zmK M0 g T) :
    ∃ r, loop fX4_takeBack_b33 FUEL (0, M0) = some r ∧ r.1 = zq T ∧ ZM r.2 0 g ∧ r.2.1 5 = zq (-1) ∧ (∀ k, k ≠ 5 → r.2.1 k = M0.1 k) ∧ r.2.2 5 = M0.2 5 := by
  refine zq_forP (b := fX4_takeBack_b33) (fun i s => s.1 = zq i ∧ zmE 0 M0 s.2 ∧ (s.2.2 3 = M0.2 3) ∧ ∀ j : Int, 0 ≤ j → j < i → s.2.2 1 j.toNat = zq (g.h j)) (fun r => r.1 = zq T ∧ ZM r.2 0 g ∧ r.2.1 5 = zq (-1) ∧ (∀ k, k ≠ 5 → r.2.1 k = M0.1 k) ∧ r.2.2 5 = M0.2 5) 25 (by omega) ?_ ?_ ⟨rfl, zmE.rf, rfl, fun j j0 j1 => by omega⟩
  · rintro i hi ⟨s1, s⟩ ⟨e, hE, h3, h2⟩
    have e : s1 = zq i := e
    subst e
    have hE : zmE 0 M0 s := hE
    have h3 : s.2 3 = M0.2 3 := h3
    have h2 : ∀ j : Int, 0 ≤ j → j < i → s.2 1 j.toNat = zq (g.h j) := h2
    have hT2 : s.1 6 = zq T := by rw [hE.1]; exact hT
    have za : s.2 5 (30 * T + i).toNat = zq (g.h i) := by rw [hE.2.1 5 (by omega) (by omega) (by omega) (by omega)]; exact K.1 i (by omega) (by omega)
    refine ⟨(zq (i + 1), setA s 1 (zq i) (zq (g.h i))), ?_, rfl, hE.tr (zmE_h (by omega) s (by omega) _), ?_, ?_⟩
    · unfold fX4_takeBack_b33
      simp (disch := omega) only [zq_l0, zq_l1, zq_l2, zq_l3, zq_l4, zq_l5, zq_l6, zq_l8, zq_l10, zq_l25, zq_l29, zq_l30, zq_l32, zq_l50, zq_l63, zq_l99, zq_l100, zq_l125, zq_l200, zq_l338, zq_l505, zq_l6000, zq_l10000, zq_l20, zq_bnd, zq_nm, zq_ck, zq_ex, zq_neg, zq_add, zq_sub, zq_mul, zq_div, zq_lt, zq_le, zq_eq, zq_tn, zq_setA_1, zq_setS_2, if_pos, if_neg, zq_if0, zq_if1, ite_true, ite_false, za, hT2]
    · show (setA s 1 (zq i) (zq (g.h i))).2 3 = _
      rw [zq_setA_other _ _ _ _ _ (by omega)]; exact h3
    · intro j j0 j1
      show (setA s 1 (zq i) (zq (g.h i))).2 1 _ = _
      rw [zq_wr _ _ _ _ (by omega) (by omega)]
      by_cases hj : j = i
      · rw [if_pos ⟨rfl, by omega⟩, hj]
      · rw [if_neg (by omega)]; exact h2 j j0 (by omega)
  · rintro ⟨s1, s⟩ ⟨e, hE, h3, h2⟩
    have e : s1 = zq 25 := e
    subst e
    have hE : zmE 0 M0 s := hE
    have h3 : s.2 3 = M0.2 3 := h3
    have h2 : ∀ j : Int, 0 ≤ j → j < (25 : Nat) → s.2 1 j.toNat = zq (g.h j) := h2
    obtain ⟨r, e, q⟩ := zm_back67 z w hT h0 K hE (fun c c0 c1 => h2 c c0 (by omega)) h3
    refine ⟨r, ?_, q⟩
    unfold fX4_takeBack_b33
    rw [zq_l0] at e
    simp (disch := omega) only [zq_l0, zq_l1, zq_l2, zq_l3, zq_l4, zq_l5, zq_l6, zq_l8, zq_l10, zq_l25, zq_l29, zq_l30, zq_l32, zq_l50, zq_l63, zq_l99, zq_l100, zq_l125, zq_l200, zq_l338, zq_l505, zq_l6000, zq_l10000, zq_l20, zq_bnd, zq_nm, zq_ck, zq_ex, zq_neg, zq_add, zq_sub, zq_mul, zq_div, zq_lt, zq_le, zq_eq, zq_tn, zq_setA_1, zq_setS_2, if_pos, if_neg, zq_if0, zq_if1, ite_true, ite_false, e]
theorem zm_takeBack {M : SC} {g : ZG} {T n : Int} (z : ZM M 0 (g.act n)) (w : ZW g) (hT : M.1 6 = zq (T + 1)) (h0 : 0 ≤ T ∧ T ≤ 150) (K : zmK M g T) :
    ∃ M', fX4_takeBack M = some (zq T, M') ∧ M'.1 0 = zq 0 ∧ ZM M' 0 g ∧ M'.1 6 = zq T ∧ M'.1 5 = zq (-1) ∧ M'.1 4 = M.1 4 ∧ M'.2 5 = M.2 5 := by
  have z1 := (z.s 0 (zq 0) (by omega) (by omega) (by omega)).s 6 (zq T) (by omega) (by omega) (by omega)
  obtain ⟨⟨r1, M'⟩, e, q1, q2, q3, q4, q5⟩ := zm_back33 (M0 := setS (setS M 0 (zq 0)) 6 (zq T)) z1 w (zq_setS_same _ _ _) h0 K
  have q1 : r1 = zq T := q1
  have q4 : ∀ k, k ≠ 5 → M'.1 k = (setS (setS M 0 (zq 0)) 6 (zq T)).1 k := q4
  subst q1
  refine ⟨M', ?_, ?_, q2, ?_, q3, ?_, q5⟩
  · have n0 : ¬ zq (T + 1) = 0 := by rw [zq_l0, zq_eq (by omega)]; omega
    unfold fX4_takeBack fX4_takeBack_j13
    rw [hT, if_neg n0, zm_g0]
    dsimp only
    rw [zq_l0, zq_setS_other _ _ _ _ (by omega), hT, zq_l1, zq_sub, show T + 1 - 1 = T by omega, zq_nm]
    rw [zq_l0] at e
    exact e
  · rw [q4 0 (by omega), zq_setS_other _ _ _ _ (by omega), zq_setS_same]
  · rw [q4 6 (by omega), zq_setS_same]
  · rw [q4 4 (by omega), zq_setS_other _ _ _ _ (by omega), zq_setS_other _ _ _ _ (by omega)]
theorem zm_takeBack0 {M : SC} (hT : M.1 6 = zq 0) : fX4_takeBack M = some (zq 0, setS M 0 (zq 1)) := by
  unfold fX4_takeBack fX4_takeBack_j13
  rw [hT, if_pos (show zq 0 = 0 from rfl), zm_g1 M (by decide)]; rfl
/-- the reference plays a turn -/
theorem zm_play30 {M : SC} {g : ZG} {T n k c d e q : Int} (z : ZM M 0 g) (w : ZW g) (hp : ZP g) (t : ZT g n k c d e) (hT : M.1 6 = zq T) (h0 : 0 ≤ T ∧ T ≤ 150) (hq : M.1 4 = zq q) (hq2 : q = 2 * g.B) :
    ∃ M', fX4_play_j30 (zq n) (zq 0) M = some (zq (if e = 99 ∨ (g.act n).trs = [] then g.m else -1), M') ∧ M'.1 0 = zq 0 ∧ ZM M' 0 (g.act n) ∧ M'.1 6 = zq (T + 1) ∧ M'.1 5 = zq (if e = 99 ∨ (g.act n).trs = [] then g.m else -1) ∧ M'.1 4 = zq q ∧ zmK M' g T ∧ (∀ x : Int, 0 ≤ x → ¬ (30 * T ≤ x ∧ x < 30 * T + 30) → M'.2 5 x.toNat = M.2 5 x.toNat) := by
  have hB := w.B
  have hm : 0 ≤ g.m ∧ g.m ≤ 1 := by rcases w.m with h | h <;> omega
  have w' := zw_act w t
  have hp' := zp_act w hp t
  have hk := t.k0
  have hd := t.d0
  have he := t.e0
  have ht := t.en
  have hn := w.n
  obtain ⟨n1, n2, n3⟩ := t.nums w
  obtain ⟨p1, p2, p3⟩ := zq_parts (n := n) (by omega)
  rw [n3] at p3
  clear p1 p2 n1 n2 n3 ht
  have z0 := z.s 0 (zq 0) (by omega) (by omega) (by omega)
  obtain ⟨M1, e1, K1, F1⟩ := zm_keep z0 w (T := T) (by rw [zq_setS_other _ _ _ _ (by omega)]; exact hT) h0
  have z1 := F1.z z0
  obtain ⟨M2, e2, z2, E2⟩ := zm_act z1 w hp (by omega) t
  have i2 : ∀ j, j ≠ 0 → M2.1 j = M.1 j := fun j hj => by rw [E2.1, F1.1, zq_setS_other _ _ _ _ hj]
  have r5 : M2.2 5 = M1.2 5 := E2.2.1 5 (by omega) (by omega) (by omega) (by omega)
  have z3 := z2.s 6 (zq (T + 1)) (by omega) (by omega) (by omega)
  have jd := zm_judge (M := setS M2 6 (zq (T + 1))) z3 w' (q := q) (by rw [zq_setS_other _ _ _ _ (by omega), i2 4 (by omega)]; exact hq) (by omega) (fun _ => hp')
  have em : (g.act n).m = 1 - g.m := rfl
  have eB : (g.act n).B = g.B := rfl
  rw [em, eB, show 1 - (1 - g.m) = g.m by omega] at jd
  have z3m : (setS M2 6 (zq (T + 1))).2 3 (Int.toNat 0) = zq (1 - g.m) := z3.m
  have n1 : ¬ zq 1 = 0 := by decide
  have fin : ∀ v : Int, v = (if e = 99 ∨ (g.act n).trs = [] then g.m else -1) → ∀ M4 : SC, M4.2 = M2.2 → (∀ j, j ≠ 5 → M4.1 j = (setS M2 6 (zq (T + 1))).1 j) →
      ∃ M', fX4_play_j87 (zq v) M4 = some (zq (if e = 99 ∨ (g.act n).trs = [] then g.m else -1), M') ∧ M'.1 0 = zq 0 ∧ ZM M' 0 (g.act n) ∧ M'.1 6 = zq (T + 1) ∧ M'.1 5 = zq (if e = 99 ∨ (g.act n).trs = [] then g.m else -1) ∧ M'.1 4 = zq q ∧ zmK M' g T ∧ (∀ x : Int, 0 ≤ x → ¬ (30 * T ≤ x ∧ x < 30 * T + 30) → M'.2 5 x.toNat = M.2 5 x.toNat) := by
    intro v hv M4 h2 h1
    rw [← hv]
    have k1 : ∀ j, j ≠ 5 → (setS M4 5 (zq v)).1 j = (setS M2 6 (zq (T + 1))).1 j := fun j hj => by rw [zq_setS_other _ _ _ _ hj, h1 j hj]
    have k2 : (setS M4 5 (zq v)).2 = M2.2 := h2
    refine ⟨setS M4 5 (zq v), ?_, ?_, ?_, ?_, zq_setS_same _ _ _, ?_, ?_, ?_⟩
    · unfold fX4_play_j87
      rw [zq_nm, zq_setS_same]
    · rw [k1 0 (by omega), zq_setS_other _ _ _ _ (by omega), E2.1, F1.1, zq_setS_same]
    · exact ⟨by rw [k1 1 (by omega)]; exact z3.R, by rw [k1 2 (by omega)]; exact z3.C, by rw [k1 3 (by omega)]; exact z3.B, by rw [k2]; exact z2.p0, by rw [k2]; exact z2.p1, by rw [k2]; exact z2.h, by rw [k2]; exact z2.a, by rw [k2]; exact z2.m, by rw [k2]; exact z2.b⟩
    · rw [k1 6 (by omega), zq_setS_same]
    · rw [k1 4 (by omega), zq_setS_other _ _ _ _ (by omega), i2 4 (by omega)]; exact hq
    · unfold zmK
      rw [k2, r5]; exact K1
    · intro x x0 hx
      rw [k2, r5, F1.2.2 x x0 hx]; rfl
  have x4 : ∀ v : Int32, (setS (setS M2 6 (zq (T + 1))) 5 v).2 3 (Int.toNat 0) = zq (1 - g.m) := fun v => z3m
  unfold fX4_play_j30
  rw [← zq_l0, zm_g0]
  dsimp only
  rw [zq_l0, e1, zq_bnd, e2, zq_bnd, i2 6 (by omega), hT, zq_l1, zq_add, zq_nm, jd, zq_bnd, p3, zq_l99]
  clear p3
  have q9 : (zq e = zq 99) = (e = 99) := zq_eq (by omega)
  simp only [q9]
  by_cases h9 : e = 99
  · rw [if_pos h9, zq_tn (by omega), x4, zq_sub, show 1 - (1 - g.m) = g.m by omega, zq_ck _ (by omega)]
    exact fin g.m (by rw [if_pos (Or.inl h9)]) _ rfl (fun j hj => zq_setS_other _ _ _ _ hj)
  · rw [if_neg h9, zq_setS_same]
    refine fin _ ?_ _ rfl (fun j hj => zq_setS_other _ _ _ _ hj)
    by_cases ht : (g.act n).trs = []
    · rw [if_pos ⟨hq2, ht⟩, if_pos (Or.inr ht)]
    · rw [if_neg (fun r => ht r.2), if_neg (fun r => r.elim h9 ht)]
/-! the class begins a game -/
def zqG0 (R C B p0 p1 : Int) : ZG := ZG.mk R C B (fun i => if i = 0 then p0 else p1) (fun _ => 0) (fun _ => -1) 0 0
theorem zq_dn : ∀ d : Fin 8, dnD d.val = zq (zqDn d.val) ∧ dnA d.val = zq (zqAc d.val) := by decide +kernel
theorem zq_dn' {d : Int} (h : 0 ≤ d ∧ d < 8) : dnD d.toNat = zq (zqDn d) ∧ dnA d.toNat = zq (zqAc d) := by
  have e := zq_dn ⟨d.toNat, by omega⟩
  have e1 : ((d.toNat : Nat) : Int) = d := by omega
  rw [e1] at e; exact e
theorem zq_dnr (d : Int) : -1 ≤ zqDn d ∧ zqDn d ≤ 1 ∧ -1 ≤ zqAc d ∧ zqAc d ≤ 1 := by
  unfold zqDn zqAc
  refine ⟨?_, ?_, ?_, ?_⟩ <;> (repeat' split) <;> omega
theorem zq_cdiv {C r q : Int} (hC : 2 ≤ C ∧ C ≤ 5) (hr : 0 ≤ r) (hq : 0 ≤ q ∧ q < C) : (r * C + q) / C = r ∧ (r * C + q) % C = q := by
  constructor
  · rw [Int.add_comm, Int.add_mul_ediv_right _ _ (by omega), Int.ediv_eq_zero_of_lt hq.1 hq.2, Int.zero_add]
  · rw [Int.add_comm, Int.add_mul_emod_self_right, Int.emod_eq_of_lt hq.1 hq.2]
theorem zq_rc {R C r : Int} (hR : 2 ≤ R ∧ R ≤ 5) (hC : 2 ≤ C ∧ C ≤ 5) (hr : 0 ≤ r ∧ r < R) : 0 ≤ r * C ∧ r * C + C ≤ R * C := by
  have h1 : 0 ≤ r * C := Int.mul_nonneg hr.1 (by omega)
  have h2 : (r + 1) * C ≤ R * C := Int.mul_le_mul_of_nonneg_right (by omega) (by omega)
  rw [Int.add_mul] at h2
  omega
def zjE (S S' : SC) : Prop := S'.1 = S.1 ∧ ∀ b, b ≠ 0 → S'.2 b = S.2 b
theorem zc_join {S : SC} {R C r q : Int} (hR : 2 ≤ R ∧ R ≤ 5) (hC : 2 ≤ C ∧ C ≤ 5) (hr : 0 ≤ r ∧ r < R) (hq : 0 ≤ q ∧ q < C) : ∃ S', fX0_joinNeighbours S (zq r) (zq q) (zq R) (zq C) = some S' ∧ zjE S S' ∧ (∀ d : Int, 0 ≤ d → d < 8 → S'.2 0 ((r * C + q) * 8 + d).toNat = zq (zqNb R C (r * C + q) d)) ∧ (∀ x : Int, 0 ≤ x → ¬ ((r * C + q) * 8 ≤ x ∧ x < (r * C + q) * 8 + 8) → S'.2 0 x.toNat = S.2 0 x.toNat) := by
  have rc := zq_rc hR hC hr
  have RC := zq_RC hR hC
  obtain ⟨cd, cm⟩ := zq_cdiv hC hr.1 hq
  unfold fX0_joinNeighbours
  refine zq_forP (b := fX0_joinNeighbours_b3 (zq r) (zq q) (zq R) (zq C)) (fun i s => s.1 = zq i ∧ zjE S s.2 ∧ (∀ d : Int, 0 ≤ d → d < i → s.2.2 0 ((r * C + q) * 8 + d).toNat = zq (zqNb R C (r * C + q) d)) ∧ (∀ x : Int, 0 ≤ x → ¬ ((r * C + q) * 8 ≤ x ∧ x < (r * C + q) * 8 + 8) → s.2.2 0 x.toNat = S.2 0 x.toNat)) (fun S' => zjE S S' ∧ (∀ d : Int, 0 ≤ d → d < 8 → S'.2 0 ((r * C + q) * 8 + d).toNat = zq (zqNb R C (r * C + q) d)) ∧ (∀ x : Int, 0 ≤ x → ¬ ((r * C + q) * 8 ≤ x ∧ x < (r * C + q) * 8 + 8) → S'.2 0 x.toNat = S.2 0 x.toNat)) 8 (by omega) ?_ ?_ ⟨rfl, ⟨rfl, fun _ _ => rfl⟩, fun d d0 d1 => by omega, fun _ _ _ => rfl⟩
  · rintro i hi ⟨s1, s⟩ ⟨e, hE, h1, h2⟩
    have e : s1 = zq i := e
    subst e
    have hE : zjE S s := hE
    have h1 : ∀ d : Int, 0 ≤ d → d < i → s.2 0 ((r * C + q) * 8 + d).toNat = zq (zqNb R C (r * C + q) d) := h1
    have h2 : ∀ x : Int, 0 ≤ x → ¬ ((r * C + q) * 8 ≤ x ∧ x < (r * C + q) * 8 + 8) → s.2 0 x.toNat = S.2 0 x.toNat := h2
    obtain ⟨dD, dA⟩ := zq_dn' (d := (i : Int)) (by omega)
    have dr := zq_dnr i
    have nbE : zqNb R C (r * C + q) i = zqAt R C (r + zqDn i) (q + zqAc i) := by unfold zqNb; rw [cd, cm]
    clear cd cm
    have wr : ∀ v : Int, v = zqNb R C (r * C + q) i → ∃ s', fX0_joinNeighbours_j112 (zq r) (zq q) (zq R) (zq C) (zq i) (zq ((r * C + q) * 8 + i)) (zq v) s = some (.inl s') ∧ (s'.1 = zq ((i + 1 : Nat) : Int) ∧ zjE S s'.2 ∧ (∀ d : Int, 0 ≤ d → d < (i + 1 : Nat) → s'.2.2 0 ((r * C + q) * 8 + d).toNat = zq (zqNb R C (r * C + q) d)) ∧ (∀ x : Int, 0 ≤ x → ¬ ((r * C + q) * 8 ≤ x ∧ x < (r * C + q) * 8 + 8) → s'.2.2 0 x.toNat = S.2 0 x.toNat)) := by
      intro v hv
      refine ⟨(zq (i + 1), setA s 0 (zq ((r * C + q) * 8 + i)) (zq v)), ?_, rfl, ⟨hE.1, fun b hb => ?_⟩, ?_, ?_⟩
      · unfold fX0_joinNeighbours_j112 fX0_joinNeighbours_j113
        simp (disch := omega) only [zq_l0, zq_l1, zq_l2, zq_l3, zq_l4, zq_l5, zq_l6, zq_l8, zq_l10, zq_l25, zq_l29, zq_l30, zq_l32, zq_l50, zq_l63, zq_l99, zq_l100, zq_l125, zq_l200, zq_l338, zq_l505, zq_l6000, zq_l10000, zq_l20, zq_bnd, zq_nm, zq_ck, zq_ex, zq_neg, zq_add, zq_sub, zq_mul, zq_div, zq_lt, zq_le, zq_eq, zq_tn, zq_setA_1, zq_setS_2, if_pos, if_neg, zq_if0, zq_if1, ite_true, ite_false]
      · show (setA s 0 _ (zq v)).2 b = _
        rw [zq_setA_other _ _ _ _ _ hb]; exact hE.2 b hb
      · intro d d0 d1
        show (setA s 0 (zq ((r * C + q) * 8 + i)) (zq v)).2 0 _ = _
        rw [zq_wr _ _ _ _ (by omega) (by omega)]
        by_cases hd : d = i
        · rw [if_pos ⟨rfl, by omega⟩, hv, hd]
        · rw [if_neg (by omega)]; exact h1 d d0 (by omega)
      · intro x x0 hx
        show (setA s 0 (zq ((r * C + q) * 8 + i)) (zq v)).2 0 _ = _
        rw [zq_wr _ _ _ _ (by omega) (by omega), if_neg (by omega)]; exact h2 x x0 hx
    have b3 : fX0_joinNeighbours_b3 (zq r) (zq q) (zq R) (zq C) (zq i, s) = fX0_joinNeighbours_j112 (zq r) (zq q) (zq R) (zq C) (zq i) (zq ((r * C + q) * 8 + i)) (zq (zqNb R C (r * C + q) i)) s := by
      rw [nbE]
      generalize zqDn (i : Int) = dn at *
      generalize zqAc (i : Int) = ac at *
      unfold fX0_joinNeighbours_b3 fX0_joinNeighbours_j57 fX0_joinNeighbours_j58 zqAt
      simp (disch := omega) only [zq_l0, zq_l1, zq_l2, zq_l3, zq_l4, zq_l5, zq_l6, zq_l8, zq_l10, zq_l25, zq_l29, zq_l30, zq_l32, zq_l50, zq_l63, zq_l99, zq_l100, zq_l125, zq_l200, zq_l338, zq_l505, zq_l6000, zq_l10000, zq_l20, zq_bnd, zq_nm, zq_ck, zq_ex, zq_neg, zq_add, zq_sub, zq_mul, zq_div, zq_lt, zq_le, zq_eq, zq_tn, zq_setA_1, zq_setS_2, if_pos, if_neg, zq_if0, zq_if1, ite_true, ite_false, dD, dA, zq_m1]
      by_cases q1 : r + dn < 0
      · rw [if_pos q1, if_neg (by omega)]
      · rw [if_neg q1]
        by_cases q2 : R ≤ r + dn
        · rw [if_pos q2, if_neg (by omega)]
        · rw [if_neg q2]
          by_cases q3 : q + ac < 0
          · rw [if_pos q3, if_neg (by omega)]
          · rw [if_neg q3]
            by_cases q4 : C ≤ q + ac
            · rw [if_pos q4, if_neg (by omega)]
            · rw [if_neg q4, if_pos (by omega)]
    rw [b3]
    exact wr _ rfl
  · rintro ⟨s1, s⟩ ⟨e, hE, h1, h2⟩
    have e : s1 = zq 8 := e
    subst e
    refine ⟨s, ?_, hE, fun d d0 d1 => h1 d d0 (by omega), h2⟩
    unfold fX0_joinNeighbours_b3
    simp (disch := omega) only [zq_l0, zq_l1, zq_l2, zq_l3, zq_l4, zq_l5, zq_l6, zq_l8, zq_l10, zq_l25, zq_l29, zq_l30, zq_l32, zq_l50, zq_l63, zq_l99, zq_l100, zq_l125, zq_l200, zq_l338, zq_l505, zq_l6000, zq_l10000, zq_l20, zq_bnd, zq_nm, zq_ck, zq_ex, zq_neg, zq_add, zq_sub, zq_mul, zq_div, zq_lt, zq_le, zq_eq, zq_tn, zq_setA_1, zq_setS_2, if_pos, if_neg, zq_if0, zq_if1, ite_true, ite_false]
/-- the table of neighbours, as far as cell k -/
def zjD (S S' : SC) (R C k : Int) : Prop := zjE S S' ∧ ∀ c d : Int, 0 ≤ c → c < k → 0 ≤ d → d < 8 → S'.2 0 (c * 8 + d).toNat = zq (zqNb R C c d)
theorem zc_start80 {S S1 : SC} {R C r : Int} (hR : 2 ≤ R ∧ R ≤ 5) (hC : 2 ≤ C ∧ C ≤ 5) (hr : 0 ≤ r ∧ r < R) (D : zjD S S1 R C (r * C)) : ∃ S', loop (fX0_start_b80 (zq R) (zq C) (zq r)) FUEL (0, S1) = some (.inl (zq (r + 1), S')) ∧ zjD S S' R C ((r + 1) * C) := by
  have rc := zq_rc hR hC hr
  have RC := zq_RC hR hC
  have e1 : (r + 1) * C = r * C + C := by rw [Int.add_mul]; omega
  obtain ⟨x, e, S', q1, q2⟩ := zq_forP (b := fX0_start_b80 (zq R) (zq C) (zq r)) (s := (0, S1)) (fun i s => s.1 = zq i ∧ zjD S s.2 R C (r * C + i)) (fun x => ∃ S', x = .inl (zq (r + 1), S') ∧ zjD S S' R C ((r + 1) * C)) C.toNat (by omega)
    (by
      rintro i hi ⟨s1, s⟩ ⟨e, hD⟩
      have e : s1 = zq i := e
      subst e
      have hD : zjD S s R C (r * C + i) := hD
      obtain ⟨s', e', E', n1, n2⟩ := zc_join (S := s) hR hC hr (q := (i : Int)) (by omega)
      refine ⟨(zq (i + 1), s'), ?_, rfl, ⟨E'.1.trans hD.1.1, fun b hb => (E'.2 b hb).trans (hD.1.2 b hb)⟩, ?_⟩
      · unfold fX0_start_b80
        simp (disch := omega) only [zq_l0, zq_l1, zq_l2, zq_l3, zq_l4, zq_l5, zq_l6, zq_l8, zq_l10, zq_l25, zq_l29, zq_l30, zq_l32, zq_l50, zq_l63, zq_l99, zq_l100, zq_l125, zq_l200, zq_l338, zq_l505, zq_l6000, zq_l10000, zq_l20, zq_bnd, zq_nm, zq_ck, zq_ex, zq_neg, zq_add, zq_sub, zq_mul, zq_div, zq_lt, zq_le, zq_eq, zq_tn, zq_setA_1, zq_setS_2, if_pos, if_neg, zq_if0, zq_if1, ite_true, ite_false, e']
      · intro c d c0 c1 d0 d1
        show s'.2 0 _ = _
        by_cases hc : c = r * C + i
        · rw [hc]; exact n1 d d0 d1
        · rw [n2 _ (by omega) (by omega)]
          exact hD.2 c d c0 (by omega) d0 d1)
    (by
      rintro ⟨s1, s⟩ ⟨e, hD⟩
      have e : s1 = zq (C.toNat : Nat) := e
      subst e
      have hD : zjD S s R C (r * C + (C.toNat : Nat)) := hD
      rw [show ((C.toNat : Nat) : Int) = C by omega] at hD ⊢
      refine ⟨.inl (zq (r + 1), s), ?_, s, rfl, by rw [e1]; exact hD⟩
      unfold fX0_start_b80
      simp (disch := omega) only [zq_l0, zq_l1, zq_l2, zq_l3, zq_l4, zq_l5, zq_l6, zq_l8, zq_l10, zq_l25, zq_l29, zq_l30, zq_l32, zq_l50, zq_l63, zq_l99, zq_l100, zq_l125, zq_l200, zq_l338, zq_l505, zq_l6000, zq_l10000, zq_l20, zq_bnd, zq_nm, zq_ck, zq_ex, zq_neg, zq_add, zq_sub, zq_mul, zq_div, zq_lt, zq_le, zq_eq, zq_tn, zq_setA_1, zq_setS_2, if_pos, if_neg, zq_if0, zq_if1, ite_true, ite_false])
    ⟨rfl, by rw [show r * C + ((0 : Nat) : Int) = r * C by omega]; exact D⟩
  exact ⟨S', by rw [e, q1], q2⟩
theorem zc_start71 {S : SC} {R C : Int} (hR : 2 ≤ R ∧ R ≤ 5) (hC : 2 ≤ C ∧ C ≤ 5) : ∃ S', loop (fX0_start_b71 (zq R) (zq C)) FUEL (0, S) = some S' ∧ zjD S S' R C (R * C) := by
  refine zq_forP (b := fX0_start_b71 (zq R) (zq C)) (s := (0, S)) (fun i s => s.1 = zq i ∧ zjD S s.2 R C (i * C)) (fun S' => zjD S S' R C (R * C)) R.toNat (by omega) ?_ ?_ ⟨rfl, ⟨rfl, fun _ _ => rfl⟩, fun c d c0 c1 d0 d1 => by rw [show (((0 : Nat) : Int) * C) = 0 by rw [show ((0 : Nat) : Int) = 0 from rfl, Int.zero_mul]] at c1; omega⟩
  · rintro i hi ⟨s1, s⟩ ⟨e, hD⟩
    have e : s1 = zq i := e
    subst e
    have hD : zjD S s R C (i * C) := hD
    obtain ⟨S', e', D'⟩ := zc_start80 hR hC (r := (i : Int)) (by omega) hD
    refine ⟨(zq (i + 1), S'), ?_, rfl, D'⟩
    unfold fX0_start_b71
    rw [zq_l0] at e'
    simp (disch := omega) only [zq_l0, zq_l1, zq_l2, zq_l3, zq_l4, zq_l5, zq_l6, zq_l8, zq_l10, zq_l25, zq_l29, zq_l30, zq_l32, zq_l50, zq_l63, zq_l99, zq_l100, zq_l125, zq_l200, zq_l338, zq_l505, zq_l6000, zq_l10000, zq_l20, zq_bnd, zq_nm, zq_ck, zq_ex, zq_neg, zq_add, zq_sub, zq_mul, zq_div, zq_lt, zq_le, zq_eq, zq_tn, zq_setA_1, zq_setS_2, if_pos, if_neg, zq_if0, zq_if1, ite_true, ite_false, e']
  · rintro ⟨s1, s⟩ ⟨e, hD⟩
    have e : s1 = zq (R.toNat : Nat) := e
    subst e
    have hD : zjD S s R C ((R.toNat : Nat) * C) := hD
    rw [show ((R.toNat : Nat) : Int) = R by omega] at hD ⊢
    refine ⟨s, ?_, hD⟩
    unfold fX0_start_b71
    simp (disch := omega) only [zq_l0, zq_l1, zq_l2, zq_l3, zq_l4, zq_l5, zq_l6, zq_l8, zq_l10, zq_l25, zq_l29, zq_l30, zq_l32, zq_l50, zq_l63, zq_l99, zq_l100, zq_l125, zq_l200, zq_l338, zq_l505, zq_l6000, zq_l10000, zq_l20, zq_bnd, zq_nm, zq_ck, zq_ex, zq_neg, zq_add, zq_sub, zq_mul, zq_div, zq_lt, zq_le, zq_eq, zq_tn, zq_setA_1, zq_setS_2, if_pos, if_neg, zq_if0, zq_if1, ite_true, ite_false]
theorem zc_fill (k : Nat) (n : Int) (hn : 0 ≤ n ∧ n < 1000) (h1 : lenA k = n.toNat) (h2 : Int32.ofNat (lenA k) = zq n) (S : SC) (v : Int32) : ∃ S', fJ7_fill_53178 k S v = some S' ∧ S'.1 = S.1 ∧ (∀ b, b ≠ k → S'.2 b = S.2 b) ∧ ∀ x : Int, 0 ≤ x → x < n → S'.2 k x.toNat = v := by
  unfold fJ7_fill_53178
  rw [h2, zq_nm]
  refine zq_forP (b := fJ7_fill_53178_b5 k v (zq n)) (s := (0, S)) (fun i s => s.1 = zq i ∧ s.2.1 = S.1 ∧ (∀ b, b ≠ k → s.2.2 b = S.2 b) ∧ ∀ x : Int, 0 ≤ x → x < i → s.2.2 k x.toNat = v) (fun S' => S'.1 = S.1 ∧ (∀ b, b ≠ k → S'.2 b = S.2 b) ∧ ∀ x : Int, 0 ≤ x → x < n → S'.2 k x.toNat = v) n.toNat (by omega) ?_ ?_ ⟨rfl, rfl, fun _ _ => rfl, fun x x0 x1 => by omega⟩
  · rintro i hi ⟨s1, s⟩ ⟨e, q1, q2, q3⟩
    have e : s1 = zq i := e
    subst e
    have q2 : ∀ b, b ≠ k → s.2 b = S.2 b := q2
    have q3 : ∀ x : Int, 0 ≤ x → x < i → s.2 k x.toNat = v := q3
    refine ⟨(zq (i + 1), setA s k (zq i) v), ?_, rfl, q1, ?_, ?_⟩
    · unfold fJ7_fill_53178_b5
      rw [h1]
      simp (disch := omega) only [zq_l0, zq_l1, zq_l2, zq_l3, zq_l4, zq_l5, zq_l6, zq_l8, zq_l10, zq_l25, zq_l29, zq_l30, zq_l32, zq_l50, zq_l63, zq_l99, zq_l100, zq_l125, zq_l200, zq_l338, zq_l505, zq_l6000, zq_l10000, zq_l20, zq_bnd, zq_nm, zq_ck, zq_ex, zq_neg, zq_add, zq_sub, zq_mul, zq_div, zq_lt, zq_le, zq_eq, zq_tn, zq_setA_1, zq_setS_2, if_pos, if_neg, zq_if0, zq_if1, ite_true, ite_false]
    · intro b hb
      show (setA s k (zq i) v).2 b = _
      rw [zq_setA_other _ _ _ _ _ hb]; exact q2 b hb
    · intro x x0 x1
      show (setA s k (zq i) v).2 k _ = _
      rw [zq_wr _ _ _ _ (by omega) (by omega)]
      by_cases hx : x = i
      · rw [if_pos ⟨rfl, hx⟩]
      · rw [if_neg (fun q => hx q.2)]; exact q3 x x0 (by omega)
  · rintro ⟨s1, s⟩ ⟨e, q1, q2, q3⟩
    have e : s1 = zq (n.toNat : Nat) := e
    subst e
    refine ⟨s, ?_, q1, q2, fun x x0 x1 => q3 x x0 (by omega)⟩
    rw [show ((n.toNat : Nat) : Int) = n by omega]
    unfold fJ7_fill_53178_b5
    simp (disch := omega) only [zq_l0, zq_l1, zq_l2, zq_l3, zq_l4, zq_l5, zq_l6, zq_l8, zq_l10, zq_l25, zq_l29, zq_l30, zq_l32, zq_l50, zq_l63, zq_l99, zq_l100, zq_l125, zq_l200, zq_l338, zq_l505, zq_l6000, zq_l10000, zq_l20, zq_bnd, zq_nm, zq_ck, zq_ex, zq_neg, zq_add, zq_sub, zq_mul, zq_div, zq_lt, zq_le, zq_eq, zq_tn, zq_setA_1, zq_setS_2, if_pos, if_neg, zq_if0, zq_if1, ite_true, ite_false]
theorem zq_bI0 (R C B p0 p1 : Int) {c : Int} (h : 0 ≤ c) : (zqG0 R C B p0 p1).bI c = -1 := zq_bIn (fun i _ _ => by show (-1 : Int) ≠ c; omega)
theorem zc_start {S : SC} {R C B p0 p1 : Int} (hR : 2 ≤ R ∧ R ≤ 5) (hC : 2 ≤ C ∧ C ≤ 5) : ∃ S', fX0_start S (zq R) (zq C) (zq B) (zq p0) (zq p1) = some S' ∧ ZC S' (zqG0 R C B p0 p1) ∧ S'.1 4 = zq 0 ∧ S'.1 5 = zq 0 ∧ S'.1 6 = zq (-1) := by
  unfold fX0_start
  rw [zq_mul]
  simp only [zq_nm]
  generalize hS : setS (setS (setS (setS (setS (setS (setS (setS S 0 (zq (R * C))) 1 (zq B)) 2 (zq p0)) 3 (zq p1)) 4 0) 5 0) 6 (-1)) 7 0 = S1
  have i0 : S1.1 0 = zq (R * C) ∧ S1.1 1 = zq B ∧ S1.1 2 = zq p0 ∧ S1.1 3 = zq p1 ∧ S1.1 4 = zq 0 ∧ S1.1 5 = zq 0 ∧ S1.1 6 = zq (-1) ∧ S1.1 7 = zq 0 := by
    rw [← hS]
    refine ⟨rfl, rfl, rfl, rfl, rfl, rfl, rfl, rfl⟩
  clear hS
  obtain ⟨S2, e2, a2, b2, c2⟩ := zc_fill 1 25 (by omega) rfl rfl S1 0
  obtain ⟨S3, e3, a3, b3, c3⟩ := zc_fill 2 25 (by omega) rfl rfl S2 (-1)
  obtain ⟨S4, e4, a4, b4, c4⟩ := zc_fill 3 4 (by omega) rfl rfl S3 (-1)
  obtain ⟨S5, e5, D5⟩ := zc_start71 (S := S4) hR hC
  have i5 : ∀ k, S5.1 k = S1.1 k := fun k => by rw [D5.1.1, a4, a3, a2]
  refine ⟨S5, ?_, ⟨?_, ?_, ?_, ?_, ?_, ?_, ?_, ?_, ?_⟩, ?_, ?_, ?_⟩
  · rw [e2, zq_bnd, e3, zq_bnd, e4, zq_bnd, e5]
  · rw [i5]; exact i0.1
  · rw [i5]; exact i0.2.1
  · rw [i5]; exact i0.2.2.1
  · rw [i5]; exact i0.2.2.2.1
  · rw [i5]; exact i0.2.2.2.2.2.2.2
  · intro c c0 c1
    rw [D5.1.2 1 (by omega), b4 1 (by omega), b3 1 (by omega), c2 c c0 c1]; rfl
  · intro c c0 c1
    rw [D5.1.2 2 (by omega), b4 2 (by omega), c3 c c0 c1]
    unfold ZG.hold
    rw [zq_bI0 R C B p0 p1 c0, if_pos rfl]; rfl
  · intro c c0 c1
    rw [D5.1.2 3 (by omega), c4 c c0 c1]; rfl
  · intro c d c0 c1 d0 d1
    exact D5.2 c d c0 c1 d0 d1
  · rw [i5]; exact i0.2.2.2.2.1
  · rw [i5]; exact i0.2.2.2.2.2.1
  · rw [i5]; exact i0.2.2.2.2.2.2.1
theorem zw_G0 {R C B p0 p1 : Int} (hR : 2 ≤ R ∧ R ≤ 5) (hC : 2 ≤ C ∧ C ≤ 5) (hB : 1 ≤ B ∧ B ≤ 2) (h0 : 0 ≤ p0 ∧ p0 ≤ 6) (h1 : 0 ≤ p1 ∧ p1 ≤ 6) : ZW (zqG0 R C B p0 p1) := by
  have RC := zq_RC hR hC
  refine ⟨hR, hC, hB, ?_, ?_, ?_, ?_, ?_, Or.inl rfl, Or.inl rfl, ?_⟩
  · intro i _ _
    show 0 ≤ (if i = 0 then p0 else p1) ∧ (if i = 0 then p0 else p1) ≤ 6
    split <;> omega
  · intro c _ _; show (0 : Int) ≤ 0 ∧ (0 : Int) ≤ 4; omega
  · intro i _ _; show (-1 : Int) ≤ -1 ∧ (-1 : Int) < R * C; omega
  · intro i j _ _ _ _ _ h; exact absurd rfl h
  · intro i _ _ h; exact absurd rfl h
  · intro i _ _ _; rfl
/-! a builder is placed -/
def zqIx (B q : Int) : Int := if B = 2 then q else 2 * q
theorem zq_Ix {B q : Int} (hB : 1 ≤ B ∧ B ≤ 2) : (B = 1 ∧ zqIx B q = 2 * q) ∨ (B = 2 ∧ zqIx B q = q) := by
  unfold zqIx
  rcases (show B = 1 ∨ B = 2 by omega) with h | h
  · left; rw [if_neg (by omega)]; exact ⟨h, rfl⟩
  · right; rw [if_pos h]; exact ⟨h, rfl⟩
/-- q builders are placed -/
def ZQ (g : ZG) (q : Int) : Prop := ∀ i, 0 ≤ i → i < 4 → i % 2 < g.B → (g.a i ≠ -1 ↔ i < zqIx g.B q)
theorem ZQ.p {g : ZG} {q : Int} (w : ZW g) (h : ZQ g q) (hq : q = 2 * g.B) : ZP g := by
  have hB := w.B
  intro i i0 i4 hi
  have := zq_Ix (q := q) hB
  exact (h i i0 i4 hi).mpr (by omega)
def ZG.put (g : ZG) (i c : Int) : ZG := ZG.mk g.R g.C g.B g.p g.h (fun x => if x = i then c else g.a x) g.m g.b
theorem zp_a (g : ZG) (i c x : Int) : (g.put i c).a x = if x = i then c else g.a x := rfl
theorem zw_put {g : ZG} (w : ZW g) {i c : Int} (hi : 0 ≤ i ∧ i < 4) (hb : i % 2 < g.B) (hc : 0 ≤ c ∧ c < g.n) (h1 : g.bI c = -1) (h4 : g.h c < 4) : ZW (g.put i c) := by
  have no := zq_bIno w hc.1 h1
  refine ⟨w.R, w.C, w.B, w.p, w.h, ?_, ?_, ?_, w.m, w.b, ?_⟩
  · intro x x0 x4
    rw [zp_a]
    have := w.a x x0 x4
    show -1 ≤ _ ∧ _ < g.n
    split <;> omega
  · intro x y x0 x4 y0 y4
    rw [zp_a, zp_a]
    by_cases hx : x = i
    · rw [if_pos hx]
      by_cases hy : y = i
      · intro _ _; omega
      · rw [if_neg hy]; intro q; exact absurd q.symm (no y y0 y4)
    · rw [if_neg hx]
      by_cases hy : y = i
      · rw [if_pos hy]; intro q; exact absurd q (no x x0 x4)
      · rw [if_neg hy]; exact w.inj x y x0 x4 y0 y4
  · intro x x0 x4
    rw [zp_a]
    show _ → g.h _ < 4
    by_cases hx : x = i
    · rw [if_pos hx]; exact fun _ => h4
    · rw [if_neg hx]; exact w.low x x0 x4
  · intro x x0 x4 hx
    have hx : g.B ≤ x % 2 := hx
    rw [zp_a]
    by_cases he : x = i
    · rw [he] at hx; omega
    · rw [if_neg he]; exact w.out x x0 x4 hx
theorem zp_bI {g : ZG} (w : ZW g) {i c : Int} (hi : 0 ≤ i ∧ i < 4) (hb : i % 2 < g.B) (hc : 0 ≤ c ∧ c < g.n) (h1 : g.bI c = -1) (h4 : g.h c < 4) (ha : g.a i = -1) {x : Int} (x0 : 0 ≤ x) : (g.put i c).bI x = if x = c then i else g.bI x := by
  have w' := zw_put w hi hb hc h1 h4
  by_cases hx : x = c
  · rw [if_pos hx]
    exact zq_bIe w' hi.1 hi.2 x0 (by rw [zp_a, if_pos rfl, hx])
  · rw [if_neg hx]
    by_cases hb : g.bI x = -1
    · rw [hb]
      refine zq_bIn (fun j j0 j4 => ?_)
      rw [zp_a]
      by_cases hj : j = i
      · rw [if_pos hj]; exact fun q => hx q.symm
      · rw [if_neg hj]; exact zq_bIno w x0 hb j j0 j4
    · have e := zq_bIa hb
      have r := zq_bI g x
      refine zq_bIe w' (by omega) (by omega) x0 ?_
      rw [zp_a, if_neg, e]
      intro h; rw [h, ha] at e; omega
theorem zq_putQ {g : ZG} (w : ZW g) {q c : Int} (h : ZQ g q) (hq : 0 ≤ q ∧ q < 2 * g.B) (hc : 0 ≤ c ∧ c < g.n) : (0 ≤ zqIx g.B q ∧ zqIx g.B q < 4) ∧ zqIx g.B q % 2 < g.B ∧ g.a (zqIx g.B q) = -1 ∧ ZQ (g.put (zqIx g.B q) c) (q + 1) := by
  have hB := w.B
  have ix := zq_Ix (q := q) hB
  have ix1 := zq_Ix (q := q + 1) hB
  have r1 : 0 ≤ zqIx g.B q ∧ zqIx g.B q < 4 := by omega
  have r2 : zqIx g.B q % 2 < g.B := by omega
  refine ⟨r1, r2, ?_, ?_⟩
  · exact Classical.byContradiction fun hn => by have := (h _ r1.1 r1.2 r2).mp hn; omega
  · intro i i0 i4 hi
    have hi : i % 2 < g.B := hi
    rw [zp_a]
    have eB : (g.put (zqIx g.B q) c).B = g.B := rfl
    rw [eB]
    by_cases he : i = zqIx g.B q
    · rw [if_pos he]
      constructor
      · intro _; omega
      · intro _; omega
    · rw [if_neg he, h i i0 i4 hi]
      omega
/-- the class places one -/
theorem zc_addBuilder {S : SC} {g : ZG} (z : ZC S g) (w : ZW g) {q c : Int} (hq : S.1 4 = zq q) (hQ : ZQ g q) (q0 : 0 ≤ q ∧ q < 2 * g.B) (hm : g.m = 0) (hv : S.1 6 = zq (-1)) (hc : 0 ≤ c ∧ c < g.n) (h1 : g.bI c = -1) (h4 : g.h c < 4) :
    ∃ S', fX0_addBuilder S (zq c) = some S' ∧ ZC S' (g.put (zqIx g.B q) c) ∧ S'.1 4 = zq (q + 1) ∧ S'.1 5 = S.1 5 ∧ S'.1 6 = zq (if q + 1 = 2 * g.B ∧ (g.put (zqIx g.B q) c).trs = [] then 1 else -1) := by
  have hB := w.B
  have hn := w.n
  obtain ⟨i0, i2, ia, Q'⟩ := zq_putQ w hQ q0 hc
  have w' := zw_put w i0 i2 hc h1 h4
  have ix := zq_Ix (q := q) hB
  have bi := fun x (x0 : 0 ≤ x) => zp_bI w i0 i2 hc h1 h4 ia x0
  have pZ : (g.put (zqIx g.B q) c).trs ≠ [] ∨ True := Or.inr trivial
  generalize hi : zqIx g.B q = i at *
  -- behind the writes
  have zS : ∀ S4 : SC, S4 = setS (setA (setA S 2 (zq c) (zq (10 * (i / 2) + i % 2))) 3 (zq i) (zq c)) 4 (zq (q + 1)) → ZC S4 (g.put i c) ∧ S4.1 4 = zq (q + 1) ∧ S4.1 5 = S.1 5 ∧ S4.1 6 = zq (-1) ∧ S4.1 1 = zq g.B := by
    intro S4 e4
    have k1 : ∀ k, k ≠ 4 → S4.1 k = S.1 k := fun k hk => by rw [e4, zq_setS_other _ _ _ _ hk]; rfl
    refine ⟨⟨by rw [k1 0 (by omega)]; exact z.n, by rw [k1 1 (by omega)]; exact z.B, by rw [k1 2 (by omega)]; exact z.p0, by rw [k1 3 (by omega)]; exact z.p1, by rw [k1 7 (by omega)]; exact z.b, ?_, ?_, ?_, ?_⟩, by rw [e4, zq_setS_same], k1 5 (by omega), by rw [k1 6 (by omega)]; exact hv, by rw [k1 1 (by omega)]; exact z.B⟩
    · rw [e4, zq_setS_2, zq_setA_other _ _ _ _ _ (by omega), zq_setA_other _ _ _ _ _ (by omega)]; exact z.h
    · intro x x0 x1
      rw [e4, zq_setS_2, zq_wr _ _ _ _ (by omega) x0, zq_wr _ _ _ _ (by omega) x0, if_neg (by omega)]
      unfold ZG.hold
      rw [bi x x0]
      by_cases hx : x = c
      · rw [if_pos ⟨rfl, hx⟩, if_pos hx, if_neg (by omega)]
      · rw [if_neg (fun r => hx r.2), if_neg hx, z.o x x0 x1]; rfl
    · intro y y0 y4
      rw [e4, zq_setS_2, zq_wr _ _ _ _ (by omega) y0, zq_wr _ _ _ _ (by omega) y0, zp_a]
      by_cases hy : y = i
      · rw [if_pos ⟨rfl, hy⟩, if_pos hy]
      · rw [if_neg (fun r => hy r.2), if_neg hy, if_neg (by omega)]; exact z.a y y0 y4
    · rw [e4, zq_setS_2, zq_setA_other _ _ _ _ _ (by omega), zq_setA_other _ _ _ _ _ (by omega)]; exact z.nb
  have fin : ∀ k : Int, (k = if g.B ≤ q then 1 else 0) → ∃ S', fX0_addBuilder_j16 (zq c) (zq k) S = some S' ∧ ZC S' (g.put i c) ∧ S'.1 4 = zq (q + 1) ∧ S'.1 5 = S.1 5 ∧ S'.1 6 = zq (if q + 1 = 2 * g.B ∧ (g.put i c).trs = [] then 1 else -1) := by
    intro k hk
    have ek : 10 * k + (q - k * g.B) = 10 * (i / 2) + i % 2 := by
      by_cases hb : g.B ≤ q
      · rw [if_pos hb] at hk; subst hk; omega
      · rw [if_neg hb] at hk; subst hk; omega
    unfold fX0_addBuilder_j16
    rw [hq, z.B, zq_mul, zq_sub, zq_nm, zq_l10, zq_mul, zq_add, ek, zc_put (by omega) (by omega), zq_bnd]
    have e6 : (setA (setA S 2 (zq c) (zq (10 * (i / 2) + i % 2))) 3 (zq i) (zq c)).1 4 = zq q := hq
    rw [e6, zq_l1, zq_add, zq_nm]
    obtain ⟨z4, a4, a5, a6, a1⟩ := zS _ rfl
    generalize setS (setA (setA S 2 (zq c) (zq (10 * (i / 2) + i % 2))) 3 (zq i) (zq c)) 4 (zq (q + 1)) = S4 at *
    have is : fX0_isSet S4 = some (zq (zqB (q + 1 = 2 * g.B))) := by
      unfold fX0_isSet
      rw [a4, a1]
      simp (disch := omega) only [zq_l0, zq_l1, zq_l2, zq_l3, zq_l4, zq_l5, zq_l6, zq_l8, zq_l10, zq_l25, zq_l29, zq_l30, zq_l32, zq_l50, zq_l63, zq_l99, zq_l100, zq_l125, zq_l200, zq_l338, zq_l505, zq_l6000, zq_l10000, zq_l20, zq_bnd, zq_nm, zq_ck, zq_ex, zq_neg, zq_add, zq_sub, zq_mul, zq_div, zq_lt, zq_le, zq_eq, zq_tn, zq_setA_1, zq_setS_2, if_pos, if_neg, zq_if0, zq_if1, ite_true, ite_false]
      rw [zqB_if]
    rw [is, zq_bnd, zq_l0, zq_if0]
    by_cases hs : q + 1 = 2 * g.B
    · have hp : ZP (g.put i c) := Q'.p w' hs
      have ht := zc_hasTurn z4 w' hp
      have em : (g.put i c).m = 0 := hm
      rw [em] at ht
      rw [if_pos hs, ht, zq_bnd, zq_if0]
      by_cases hn : (g.put i c).trs = []
      · rw [if_neg (fun q => q hn)]
        refine ⟨setS S4 6 (zq 1), rfl, z4.v _, by rw [zq_setS_other _ _ _ _ (by omega)]; exact a4, by rw [zq_setS_other _ _ _ _ (by omega)]; exact a5, by rw [zq_setS_same, if_pos ⟨hs, hn⟩]⟩
      · rw [if_pos hn]
        exact ⟨S4, rfl, z4, a4, a5, by rw [a6, if_neg (fun r => hn r.2)]⟩
    · rw [if_neg hs]
      exact ⟨S4, rfl, z4, a4, a5, by rw [a6, if_neg (fun r => hs r.1)]⟩
  unfold fX0_addBuilder
  rw [z.B, hq]
  have q1 : (zq g.B ≤ zq q) = (g.B ≤ q) := zq_le (by omega)
  simp only [q1]
  by_cases hb : g.B ≤ q
  · rw [if_pos hb, zq_l1]; exact fin 1 (by rw [if_pos hb])
  · rw [if_neg hb, zq_l0]; exact fin 0 (by rw [if_neg hb])
/-! the reference lays an empty board -/
theorem zm_lay23 {M0 S : SC} (E : zmE 0 M0 S) (hh : ∀ c : Int, 0 ≤ c → c < 25 → S.2 1 c.toNat = zq 0) {R C B p0 p1 : Int} (i1 : M0.1 1 = zq R) (i2 : M0.1 2 = zq C) (i3 : M0.1 3 = zq B) (j0 : M0.2 0 0 = zq p0) (j1 : M0.2 0 1 = zq p1) :
    ∃ r, loop fX4_lay_b23 FUEL (0, S) = some r ∧ ZM r 0 (zqG0 R C B p0 p1) ∧ r.1 4 = zq 0 ∧ r.1 5 = zq (-1) ∧ r.1 6 = zq 0 ∧ (∀ k, k ≠ 4 → k ≠ 5 → k ≠ 6 → r.1 k = M0.1 k) := by
  refine zq_forP (b := fX4_lay_b23) (fun i s => s.1 = zq i ∧ zmE 0 M0 s.2 ∧ (∀ c : Int, 0 ≤ c → c < 25 → s.2.2 1 c.toNat = zq 0) ∧ ∀ j : Int, 0 ≤ j → j < i → s.2.2 2 j.toNat = zq (-1)) (fun r => ZM r 0 (zqG0 R C B p0 p1) ∧ r.1 4 = zq 0 ∧ r.1 5 = zq (-1) ∧ r.1 6 = zq 0 ∧ (∀ k, k ≠ 4 → k ≠ 5 → k ≠ 6 → r.1 k = M0.1 k)) 4 (by omega) ?_ ?_ ⟨rfl, E, hh, fun j j0 j1 => by omega⟩
  · rintro i hi ⟨s1, s⟩ ⟨e, hE, h1, h2⟩
    have e : s1 = zq i := e
    subst e
    have hE : zmE 0 M0 s := hE
    have h1 : ∀ c : Int, 0 ≤ c → c < 25 → s.2 1 c.toNat = zq 0 := h1
    have h2 : ∀ j : Int, 0 ≤ j → j < i → s.2 2 j.toNat = zq (-1) := h2
    refine ⟨(zq (i + 1), setA s 2 (zq i) (zq (-1))), ?_, rfl, hE.tr (zmE_a (by omega) s (by omega) _), ?_, ?_⟩
    · unfold fX4_lay_b23
      simp (disch := omega) only [zq_l0, zq_l1, zq_l2, zq_l3, zq_l4, zq_l5, zq_l6, zq_l8, zq_l10, zq_l25, zq_l29, zq_l30, zq_l32, zq_l50, zq_l63, zq_l99, zq_l100, zq_l125, zq_l200, zq_l338, zq_l505, zq_l6000, zq_l10000, zq_l20, zq_bnd, zq_nm, zq_ck, zq_ex, zq_neg, zq_add, zq_sub, zq_mul, zq_div, zq_lt, zq_le, zq_eq, zq_tn, zq_setA_1, zq_setS_2, if_pos, if_neg, zq_if0, zq_if1, ite_true, ite_false, zq_m1]
    · intro c c0 c1
      show (setA s 2 (zq i) (zq (-1))).2 1 _ = _
      rw [zq_setA_other _ _ _ _ _ (by omega)]; exact h1 c c0 c1
    · intro j j0 j1
      show (setA s 2 (zq i) (zq (-1))).2 2 _ = _
      rw [zq_wr _ _ _ _ (by omega) (by omega)]
      by_cases hj : j = i
      · rw [if_pos ⟨rfl, by omega⟩]
      · rw [if_neg (by omega)]; exact h2 j j0 (by omega)
  · rintro ⟨s1, s⟩ ⟨e, hE, h1, h2⟩
    have e : s1 = zq 4 := e
    subst e
    have hE : zmE 0 M0 s := hE
    have h1 : ∀ c : Int, 0 ≤ c → c < 25 → s.2 1 c.toNat = zq 0 := h1
    have h2 : ∀ j : Int, 0 ≤ j → j < (4 : Nat) → s.2 2 j.toNat = zq (-1) := h2
    have e0 : s.2 0 = M0.2 0 := hE.2.1 0 (by omega) (by omega) (by omega) (by omega)
    refine ⟨setS (setS (setS (setA (setA s 3 (zq 0) (zq 0)) 4 (zq 0) (zq 0)) 4 (zq 0)) 5 (zq (-1))) 6 (zq 0), ?_, ⟨?_, ?_, ?_, ?_, ?_, ?_, ?_, ?_, ?_⟩, rfl, rfl, rfl, ?_⟩
    · unfold fX4_lay_b23
      simp (disch := omega) only [zq_l0, zq_l1, zq_l2, zq_l3, zq_l4, zq_l5, zq_l6, zq_l8, zq_l10, zq_l25, zq_l29, zq_l30, zq_l32, zq_l50, zq_l63, zq_l99, zq_l100, zq_l125, zq_l200, zq_l338, zq_l505, zq_l6000, zq_l10000, zq_l20, zq_bnd, zq_nm, zq_ck, zq_ex, zq_neg, zq_add, zq_sub, zq_mul, zq_div, zq_lt, zq_le, zq_eq, zq_tn, zq_setA_1, zq_setS_2, if_pos, if_neg, zq_if0, zq_if1, ite_true, ite_false, zq_nar (b := 0) (Or.inl rfl), zq_m1]
    · show s.1 1 = _; rw [hE.1]; exact i1
    · show s.1 2 = _; rw [hE.1]; exact i2
    · show s.1 3 = _; rw [hE.1]; exact i3
    · show (setA (setA s 3 (zq 0) (zq 0)) 4 (zq 0) (zq 0)).2 0 0 = _
      rw [zq_setA_other _ _ _ _ _ (by omega), zq_setA_other _ _ _ _ _ (by omega), e0]; exact j0
    · show (setA (setA s 3 (zq 0) (zq 0)) 4 (zq 0) (zq 0)).2 0 1 = _
      rw [zq_setA_other _ _ _ _ _ (by omega), zq_setA_other _ _ _ _ _ (by omega), e0]; exact j1
    · intro c c0 c1
      show (setA (setA s 3 (zq 0) (zq 0)) 4 (zq 0) (zq 0)).2 1 _ = _
      rw [zq_setA_other _ _ _ _ _ (by omega), zq_setA_other _ _ _ _ _ (by omega), show 25 * 0 + c = c by omega, h1 c c0 c1]; rfl
    · intro c c0 c1
      show (setA (setA s 3 (zq 0) (zq 0)) 4 (zq 0) (zq 0)).2 2 _ = _
      rw [zq_setA_other _ _ _ _ _ (by omega), zq_setA_other _ _ _ _ _ (by omega), show 4 * 0 + c = c by omega, h2 c c0 (by omega)]; rfl
    · show (setA (setA s 3 (zq 0) (zq 0)) 4 (zq 0) (zq 0)).2 3 (Int.toNat 0) = zq 0
      rw [zq_setA_other _ _ _ _ _ (by omega), zq_wr _ _ _ _ (by omega) (by omega), if_pos ⟨rfl, rfl⟩]
    · show (setA (setA s 3 (zq 0) (zq 0)) 4 (zq 0) (zq 0)).2 4 (Int.toNat 0) = zq 0
      rw [zq_wr _ _ _ _ (by omega) (by omega), if_pos ⟨rfl, rfl⟩]
    · intro k k4 k5 k6
      rw [zq_setS_other _ _ _ _ k6, zq_setS_other _ _ _ _ k5, zq_setS_other _ _ _ _ k4]; exact hE.1 k
theorem zm_lay {M : SC} {R C B p0 p1 : Int} (i1 : M.1 1 = zq R) (i2 : M.1 2 = zq C) (i3 : M.1 3 = zq B) (j0 : M.2 0 0 = zq p0) (j1 : M.2 0 1 = zq p1) :
    ∃ r, fX4_lay M = some r ∧ ZM r 0 (zqG0 R C B p0 p1) ∧ r.1 4 = zq 0 ∧ r.1 5 = zq (-1) ∧ r.1 6 = zq 0 ∧ (∀ k, k ≠ 4 → k ≠ 5 → k ≠ 6 → r.1 k = M.1 k) := by
  unfold fX4_lay
  refine zq_forP (b := fX4_lay_b2) (fun i s => s.1 = zq i ∧ zmE 0 M s.2 ∧ ∀ j : Int, 0 ≤ j → j < i → s.2.2 1 j.toNat = zq 0) (fun r => ZM r 0 (zqG0 R C B p0 p1) ∧ r.1 4 = zq 0 ∧ r.1 5 = zq (-1) ∧ r.1 6 = zq 0 ∧ (∀ k, k ≠ 4 → k ≠ 5 → k ≠ 6 → r.1 k = M.1 k)) 25 (by omega) ?_ ?_ ⟨rfl, zmE.rf, fun j j0 j1 => by omega⟩
  · rintro i hi ⟨s1, s⟩ ⟨e, hE, h2⟩
    have e : s1 = zq i := e
    subst e
    have hE : zmE 0 M s := hE
    have h2 : ∀ j : Int, 0 ≤ j → j < i → s.2 1 j.toNat = zq 0 := h2
    refine ⟨(zq (i + 1), setA s 1 (zq i) (zq 0)), ?_, rfl, hE.tr (zmE_h (by omega) s (by omega) _), ?_⟩
    · unfold fX4_lay_b2
      simp (disch := omega) only [zq_l0, zq_l1, zq_l2, zq_l3, zq_l4, zq_l5, zq_l6, zq_l8, zq_l10, zq_l25, zq_l29, zq_l30, zq_l32, zq_l50, zq_l63, zq_l99, zq_l100, zq_l125, zq_l200, zq_l338, zq_l505, zq_l6000, zq_l10000, zq_l20, zq_bnd, zq_nm, zq_ck, zq_ex, zq_neg, zq_add, zq_sub, zq_mul, zq_div, zq_lt, zq_le, zq_eq, zq_tn, zq_setA_1, zq_setS_2, if_pos, if_neg, zq_if0, zq_if1, ite_true, ite_false]
    · intro j j0 j1
      show (setA s 1 (zq i) (zq 0)).2 1 _ = _
      rw [zq_wr _ _ _ _ (by omega) (by omega)]
      by_cases hj : j = i
      · rw [if_pos ⟨rfl, by omega⟩]
      · rw [if_neg (by omega)]; exact h2 j j0 (by omega)
  · rintro ⟨s1, s⟩ ⟨e, hE, h2⟩
    have e : s1 = zq 25 := e
    subst e
    have hE : zmE 0 M s := hE
    have h2 : ∀ j : Int, 0 ≤ j → j < (25 : Nat) → s.2 1 j.toNat = zq 0 := h2
    obtain ⟨r, e, q⟩ := zm_lay23 hE (fun c c0 c1 => h2 c c0 (by omega)) i1 i2 i3 j0 j1
    refine ⟨r, ?_, q⟩
    unfold fX4_lay_b2
    rw [zq_l0] at e
    simp (disch := omega) only [zq_l0, zq_l1, zq_l2, zq_l3, zq_l4, zq_l5, zq_l6, zq_l8, zq_l10, zq_l25, zq_l29, zq_l30, zq_l32, zq_l50, zq_l63, zq_l99, zq_l100, zq_l125, zq_l200, zq_l338, zq_l505, zq_l6000, zq_l10000, zq_l20, zq_bnd, zq_nm, zq_ck, zq_ex, zq_neg, zq_add, zq_sub, zq_mul, zq_div, zq_lt, zq_le, zq_eq, zq_tn, zq_setA_1, zq_setS_2, if_pos, if_neg, zq_if0, zq_if1, ite_true, ite_false, e]
/-- who is on turn, as both tell it -/
def zqOT (B q m v : Int) : Int := if v = -1 then (if q = 2 * B then m else if q < B then 0 else 1) else -1
theorem zm_onTurnNow {M : SC} {L : Int} {g : ZG} (z : ZM M 0 g) (w : ZW g) {q v : Int} (hq : M.1 4 = zq q) (q0 : 0 ≤ q ∧ q ≤ 2 * g.B) (hv : M.1 5 = zq v) (v0 : -1 ≤ v ∧ v ≤ 1) : fX4_onTurnNow M = some (zq (zqOT g.B q g.m v)) := by
  have hB := w.B
  have zm : M.2 3 (Int.toNat 0) = zq g.m := z.m
  unfold fX4_onTurnNow zqOT
  rw [hv, zm_isPlaced z w hq (by omega), zq_bnd, hq, z.B]
  have d : zq q / zq g.B = zq (q / g.B) := zq_div (by omega)
  have nz : ¬ zq g.B = 0 := by rw [zq_l0, zq_eq (by omega)]; omega
  have dv : q ≠ 2 * g.B → q / g.B = if q < g.B then 0 else 1 := by
    intro hne
    rcases (show g.B = 1 ∨ g.B = 2 by omega) with h | h
    · rw [h] at hne q0 ⊢
      split <;> omega
    · rw [h] at hne q0 ⊢
      split <;> omega
  rw [d, zq_cp _ nz, zq_l0, zq_if0]
  simp (disch := omega) only [zq_l0, zq_l1, zq_l2, zq_l3, zq_l4, zq_l5, zq_l6, zq_l8, zq_l10, zq_l25, zq_l29, zq_l30, zq_l32, zq_l50, zq_l63, zq_l99, zq_l100, zq_l125, zq_l200, zq_l338, zq_l505, zq_l6000, zq_l10000, zq_l20, zq_bnd, zq_nm, zq_ck, zq_ex, zq_neg, zq_add, zq_sub, zq_mul, zq_div, zq_lt, zq_le, zq_eq, zq_tn, zq_setA_1, zq_setS_2, if_pos, if_neg, zq_if0, zq_if1, ite_true, ite_false, zm, zq_m1]
  by_cases h1 : v = -1
  · rw [if_pos h1, if_pos h1]
    by_cases h2 : q = 2 * g.B
    · rw [if_pos h2, if_pos h2]
    · rw [if_neg h2, if_neg h2, dv h2]
  · rw [if_neg h1, if_neg h1]
theorem zc_isSet {S : SC} {g : ZG} (z : ZC S g) (w : ZW g) {q : Int} (hq : S.1 4 = zq q) (q0 : 0 ≤ q ∧ q ≤ 2 * g.B) : fX0_isSet S = some (zq (zqB (q = 2 * g.B))) := by
  have hB := w.B
  unfold fX0_isSet
  rw [hq, z.B]
  simp (disch := omega) only [zq_l0, zq_l1, zq_l2, zq_l3, zq_l4, zq_l5, zq_l6, zq_l8, zq_l10, zq_l25, zq_l29, zq_l30, zq_l32, zq_l50, zq_l63, zq_l99, zq_l100, zq_l125, zq_l200, zq_l338, zq_l505, zq_l6000, zq_l10000, zq_l20, zq_bnd, zq_nm, zq_ck, zq_ex, zq_neg, zq_add, zq_sub, zq_mul, zq_div, zq_lt, zq_le, zq_eq, zq_tn, zq_setA_1, zq_setS_2, if_pos, if_neg, zq_if0, zq_if1, ite_true, ite_false]
  rw [zqB_if]
theorem zc_mover {S : SC} {g : ZG} (z : ZC S g) (w : ZW g) {q v T : Int} (hq : S.1 4 = zq q) (q0 : 0 ≤ q ∧ q ≤ 2 * g.B) (hv : S.1 6 = zq v) (v0 : -1 ≤ v ∧ v ≤ 1) (hT : S.1 5 = zq T) (T0 : 0 ≤ T ∧ T ≤ 200) (hm : q = 2 * g.B → T % 2 = g.m) : fX0_mover S = some (zq (zqOT g.B q g.m v)) := by
  have hB := w.B
  unfold fX0_mover zqOT
  rw [hv, zc_isSet z w hq q0, zq_bnd, hq, hT, z.B, zq_l0, zq_if0]
  simp (disch := omega) only [zq_l0, zq_l1, zq_l2, zq_l3, zq_l4, zq_l5, zq_l6, zq_l8, zq_l10, zq_l25, zq_l29, zq_l30, zq_l32, zq_l50, zq_l63, zq_l99, zq_l100, zq_l125, zq_l200, zq_l338, zq_l505, zq_l6000, zq_l10000, zq_l20, zq_bnd, zq_nm, zq_ck, zq_ex, zq_neg, zq_add, zq_sub, zq_mul, zq_div, zq_lt, zq_le, zq_eq, zq_tn, zq_setA_1, zq_setS_2, if_pos, if_neg, zq_if0, zq_if1, ite_true, ite_false, zq_m1]
  by_cases h1 : v = -1
  · rw [if_pos h1, if_pos h1]
    by_cases h2 : q = 2 * g.B
    · rw [if_pos h2, if_pos h2, show T - T / 2 * 2 = T % 2 by omega, hm h2]
    · rw [if_neg h2, if_neg h2]
      by_cases h3 : g.B ≤ q
      · rw [if_pos h3, if_neg (by omega)]
      · rw [if_neg h3, if_pos (by omega)]
  · rw [if_neg h1, if_neg h1]
/-- the reference places one -/
theorem zm_place63 {M : SC} {g : ZG} (z : ZM M 0 g) (w : ZW g) {q c : Int} (hq : M.1 4 = zq q) (hQ : ZQ g q) (q0 : 0 ≤ q ∧ q < 2 * g.B) (hm : g.m = 0) (hc : 0 ≤ c ∧ c < g.n) (h1 : g.bI c = -1) (h4 : g.h c < 4) :
    ∃ M', fX4_place_j63 (zq c) 0 M = some (zq (zqOT g.B (q + 1) 0 (if q + 1 = 2 * g.B ∧ (g.put (zqIx g.B q) c).trs = [] then 1 else -1)), M') ∧ M'.1 0 = zq 0 ∧ ZM M' 0 (g.put (zqIx g.B q) c) ∧ M'.1 4 = zq (q + 1) ∧ M'.1 6 = M.1 6 ∧ M'.1 5 = zq (if q + 1 = 2 * g.B ∧ (g.put (zqIx g.B q) c).trs = [] then 1 else -1) := by
  have hB := w.B
  obtain ⟨i0, i2, ia, Q'⟩ := zq_putQ w hQ q0 hc
  have w' := zw_put w i0 i2 hc h1 h4
  have ix := zq_Ix (q := q) hB
  generalize hi : zqIx g.B q = i at *
  have e : 2 * (q / g.B) + (q - q / g.B * g.B) = i := by
    rcases ix with ⟨h, h2⟩ | ⟨h, h2⟩
    · rw [h]; omega
    · rw [h]; omega
  have d : zq q / zq g.B = zq (q / g.B) := zq_div (by omega)
  have nz : ¬ zq g.B = 0 := by rw [zq_l0, zq_eq (by omega)]; omega
  unfold fX4_place_j63
  rw [zm_g0]
  dsimp only
  have b4 : (setS M 0 0).1 4 = zq q := by rw [zq_setS_other _ _ _ _ (by omega)]; exact hq
  have b3 : (setS M 0 0).1 3 = zq g.B := by rw [zq_setS_other _ _ _ _ (by omega)]; exact z.B
  rw [b4, b3, d, zq_cp _ nz, zq_cp _ nz, zq_mul, zq_sub, zq_l2, zq_mul, zq_add, e, zq_ck _ (by omega), zq_nm, zq_setA_1, b4, zq_l1, zq_add, zq_nm]
  have z3 : ZM (setS (setA (setS M 0 0) 2 (zq i) (zq c)) 4 (zq (q + 1))) 0 (g.put i c) := by
    have z0 := z.s 0 (zq 0) (by omega) (by omega) (by omega)
    suffices h : ZM (setA (setS M 0 0) 2 (zq i) (zq c)) 0 (g.put i c) from h.s 4 _ (by omega) (by omega) (by omega)
    refine ⟨z0.R, z0.C, z0.B, ?_, ?_, ?_, ?_, ?_, ?_⟩
    · rw [zq_setA_other _ _ _ _ _ (by omega)]; exact z0.p0
    · rw [zq_setA_other _ _ _ _ _ (by omega)]; exact z0.p1
    · rw [zq_setA_other _ _ _ _ _ (by omega)]; exact z0.h
    · intro y y0 y4
      rw [zq_wr _ _ _ _ (by omega) (by omega), zp_a]
      by_cases hy : y = i
      · rw [if_pos ⟨rfl, by omega⟩, if_pos hy]
      · rw [if_neg (by omega), if_neg hy]; exact z0.a y y0 y4
    · rw [zq_setA_other _ _ _ _ _ (by omega)]; exact z0.m
    · rw [zq_setA_other _ _ _ _ _ (by omega)]; exact z0.b
  have k1 : ∀ k, k ≠ 4 → k ≠ 0 → (setS (setA (setS M 0 0) 2 (zq i) (zq c)) 4 (zq (q + 1))).1 k = M.1 k := fun k h4 h0 => by rw [zq_setS_other _ _ _ _ h4, zq_setA_1, zq_setS_other _ _ _ _ h0]
  have k0 : (setS (setA (setS M 0 0) 2 (zq i) (zq c)) 4 (zq (q + 1))).1 0 = zq 0 := rfl
  have k4 : (setS (setA (setS M 0 0) 2 (zq i) (zq c)) 4 (zq (q + 1))).1 4 = zq (q + 1) := zq_setS_same _ _ _
  generalize setS (setA (setS M 0 0) 2 (zq i) (zq c)) 4 (zq (q + 1)) = M3 at *
  have eB : (g.put i c).B = g.B := rfl
  have em : (g.put i c).m = 0 := hm
  have jd := zm_judge z3 w' k4 (by omega) (fun h => Q'.p w' h)
  rw [eB, em, show (1 : Int) - 0 = 1 by omega] at jd
  rw [jd, zq_bnd]
  generalize hv : (if q + 1 = 2 * g.B ∧ (g.put i c).trs = [] then (1 : Int) else -1) = v
  have v0 : -1 ≤ v ∧ v ≤ 1 := by rw [← hv]; split <;> omega
  have z4 := z3.s 5 (zq v) (by omega) (by omega) (by omega)
  have ot := zm_onTurnNow (L := 0) z4 w' (q := q + 1) (v := v) (by rw [zq_setS_other _ _ _ _ (by omega)]; exact k4) (by rw [eB]; omega) (zq_setS_same _ _ _) v0
  rw [eB, em] at ot
  rw [ot, zq_bnd]
  exact ⟨_, rfl, by rw [zq_setS_other _ _ _ _ (by omega)]; exact k0, z4, by rw [zq_setS_other _ _ _ _ (by omega)]; exact k4, by rw [zq_setS_other _ _ _ _ (by omega)]; exact k1 6 (by omega) (by omega), zq_setS_same _ _ _⟩
/-! no game is longer than its storeys -/
def ZG.hs (g : ZG) : Int := ((zqRg 25).map g.h).sum
theorem zq_sumle {f g : Int → Int} : ∀ l : List Int, (∀ x ∈ l, f x ≤ g x) → (l.map f).sum ≤ (l.map g).sum
  | [], _ => by simp
  | a :: l, h => by
    have h1 := h a (by simp)
    have h2 := zq_sumle l (fun x hx => h x (by simp [hx]))
    simp only [List.map_cons, List.sum_cons]
    omega
theorem zq_sumlt {f g : Int → Int} : ∀ l : List Int, (∀ x ∈ l, f x ≤ g x) → (∃ x ∈ l, f x < g x) → (l.map f).sum + 1 ≤ (l.map g).sum
  | [], _, h => by obtain ⟨x, hx, _⟩ := h; exact absurd hx List.not_mem_nil
  | a :: l, h, ⟨x, hx, hlt⟩ => by
    have h1 := h a (by simp)
    simp only [List.map_cons, List.sum_cons]
    rcases List.mem_cons.mp hx with e | hx
    · have h2 := zq_sumle l (fun x hx => h x (by simp [hx]))
      rw [e] at hlt
      omega
    · have h2 := zq_sumlt l (fun x hx => h x (by simp [hx])) ⟨x, hx, hlt⟩
      omega
theorem zq_hs {g : ZG} (w : ZW g) : g.hs ≤ 100 := by
  unfold ZG.hs
  have h := zq_sumle (f := g.h) (g := fun _ => 4) (zqRg 25) (fun x hx => by have := zqRg_mem.mp hx; exact (w.h x this.1 this.2).2)
  have e : ((zqRg 25).map (fun _ => (4 : Int))).sum = 100 := by decide
  omega
theorem zq_hs0 {g : ZG} (w : ZW g) : 0 ≤ g.hs := by
  unfold ZG.hs
  have h := zq_sumle (f := fun _ => (0 : Int)) (g := g.h) (zqRg 25) (fun x hx => by have := zqRg_mem.mp hx; exact (w.h x this.1 this.2).1)
  have e : ((zqRg 25).map (fun _ => (0 : Int))).sum = 0 := by decide
  omega
theorem zt_hs {g : ZG} (w : ZW g) {n k c d e : Int} (t : ZT g n k c d e) (h9 : e ≠ 99) : g.hs + 1 ≤ (g.act n).hs := by
  have hn := w.n
  obtain ⟨fr, b0, b1⟩ := t.fre h9
  have h4 := fr.2.1
  unfold ZG.hs
  refine zq_sumlt (zqRg 25) (fun x hx => ?_) ⟨zqBc e, zqRg_mem.mpr ⟨b0, by omega⟩, ?_⟩
  · have hx := zqRg_mem.mp hx
    have hh := w.h x hx.1 hx.2
    rw [zt_h w t x hx.1]
    by_cases hb : x = zqBc e
    · rw [if_pos hb]; split <;> omega
    · rw [if_neg hb]; omega
  · rw [zt_h w t _ b0, if_pos rfl]
    by_cases h5 : 50 ≤ e
    · rw [if_pos h5]; exact h4
    · rw [if_neg h5]; omega
