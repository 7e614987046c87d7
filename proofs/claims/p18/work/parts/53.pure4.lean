set_option maxRecDepth 100000
/-- the class makes a turn -/
theorem zc_perform {S : SC} {g : ZG} (z : ZC S g) (w : ZW g) (hp : ZP g) {T n k c d e : Int} (t : ZT g n k c d e) (hT : S.1 5 = zq T) (h0 : 0 ≤ T ∧ T ≤ 100) (hm : T % 2 = g.m) : ∃ S9, fX0_perform S (zq n) = some (if e = 99 ∨ (g.act n).trs = [] then setS S9 6 (zq g.m) else S9) ∧ ZC S9 (g.act n) ∧ S9.1 5 = zq (T + 1) ∧ (∀ k, k ≠ 5 → k ≠ 7 → S9.1 k = S.1 k) ∧ (∀ b, 5 ≤ b → S9.2 b = S.2 b) ∧
    (∀ y : Int, 0 ≤ y → S9.2 4 y.toNat = if y = 5 * T then zq n else if y = 5 * T + 1 then zq c else if y = 5 * T + 2 then zq (g.as c d) else if y = 5 * T + 3 then zq (g.old n) else if y = 5 * T + 4 then zq g.b else S.2 4 y.toNat) := by
  have hn := w.n
  have hB := w.B
  have hk := t.k0
  have hd := t.d0
  have hc := t.c0
  have he := t.e0
  have ht := t.en
  have hi := t.i
  have a2 := zq_pm w
  obtain ⟨n1, n2, n3⟩ := t.nums w
  have em : T - T / 2 * 2 = g.m := by omega
  have ee : n - n / 100 * 100 = e := by omega
  have hb : n % 100 = 99 ∨ (0 ≤ zqBc (n % 100) ∧ zqBc (n % 100) < 25) := by
    rw [n3]
    by_cases h9 : e = 99
    · exact Or.inl h9
    · have := (t.fre h9).2
      exact Or.inr ⟨this.1, by omega⟩
  obtain ⟨S2, r1, r2, r3, r4⟩ := zc_remember (c := c) (s := g.as c d) z w hT h0 (show 0 ≤ n ∧ n < 100000 by omega) hb
  have z2 : ZC S2 g := ⟨by rw [r2]; exact z.n, by rw [r2]; exact z.B, by rw [r2]; exact z.p0, by rw [r2]; exact z.p1, by rw [r2]; exact z.b, by rw [r3 1 (by omega)]; exact z.h, by rw [r3 2 (by omega)]; exact z.o, by rw [r3 3 (by omega)]; exact z.a, by rw [r3 0 (by omega)]; exact z.nb⟩
  obtain ⟨S9, p1, p2, p3, p4, p5⟩ := zc_p77 z2 w hp t (T := T) (by rw [r2]; exact hT) rfl
  refine ⟨S9, ?_, p2, p3, fun j j5 j7 => by rw [p4 j j5 j7, r2], fun b hb => by rw [p5 b (by omega), r3 b (by omega)], fun y y0 => by rw [p5 4 (by omega)]; exact r4 y y0⟩
  rw [← p1]
  have sp := zc_spotOf z hi.1 hi.2
  rw [t.ec] at sp
  have as := zc_asideOf z w (c := c) (d := d) (by omega) (by omega)
  rw [t.as] at as
  have hb : (g.act n).b = if g.pm = 4 ∧ g.h c < g.h d then 1 else 0 := by
    show (if g.pm = 4 ∧ g.h (g.a (2 * g.m + n / 10000)) < g.h (n / 100 % 100) then (1 : Int) else 0) = _
    rw [n1, n2, t.ec]
  have hhc := w.h c hc.1 (by omega)
  have hhd := w.h d hd.1 (by omega)
  unfold fX0_perform fX0_perform_j76
  rw [hT]
  have dst := zc_dest (S := S) (n := n) (by omega)
  rw [n2] at dst
  simp (disch := omega) only [zq_l0, zq_l1, zq_l2, zq_l3, zq_l4, zq_l5, zq_l6, zq_l8, zq_l10, zq_l25, zq_l29, zq_l30, zq_l32, zq_l50, zq_l63, zq_l99, zq_l100, zq_l125, zq_l200, zq_l338, zq_l505, zq_l6000, zq_l10000, zq_l20, zq_bnd, zq_nm, zq_ck, zq_ex, zq_neg, zq_add, zq_sub, zq_mul, zq_div, zq_lt, zq_le, zq_eq, zq_tn, zq_setA_1, zq_setS_2, if_pos, if_neg, zq_if0, zq_if1, ite_true, ite_false, em, ee, n1, sp, dst, as, r1, zc_powerOf z2 w, zc_storeysOf z2 hd.1 (show d < 25 by omega), zc_storeysOf z2 hc.1 (show c < 25 by omega)]
  rw [hb]
  by_cases h4 : g.pm = 4
  · rw [if_pos h4]
    by_cases hle : g.h d ≤ g.h c
    · rw [if_pos hle, if_neg (by omega)]
    · rw [if_neg hle, if_pos (by omega)]
  · rw [if_neg h4, if_neg (by omega)]
theorem zq_holdE {g : ZG} {x i : Int} (h : g.bI x = i) (hi : 0 ≤ i) : g.hold x = 10 * (i / 2) + i % 2 := by
  unfold ZG.hold; rw [h, if_neg (by omega)]
/-- the class takes a step back -/
theorem zc_carryBack {S : SC} {g : ZG} (w : ZW g) {n k c d e : Int} (t : ZT g n k c d e) (zo : ∀ x, 0 ≤ x → x < 25 → S.2 2 x.toNat = zq ((g.act n).hold x)) (za : ∀ i, 0 ≤ i → i < 4 → S.2 3 i.toNat = zq ((g.act n).a i)) : ∃ S', fX0_carryBack S (zq c) (zq d) (zq (g.as c d)) = some S' ∧ S'.1 = S.1 ∧ (∀ b, b ≠ 2 → b ≠ 3 → S'.2 b = S.2 b) ∧ (∀ x, 0 ≤ x → x < 25 → S'.2 2 x.toNat = zq (g.hold x)) ∧ (∀ y, 0 ≤ y → y < 4 → S'.2 3 y.toNat = zq (g.a y)) := by
  have hn := w.n
  have ci := t.i
  have c0 := t.c0
  have d0 := t.d0
  have hcd := t.cd
  have hbd := zq_bI g d
  have hc : g.hold c = 10 * ((2 * g.m + k) / 2) + (2 * g.m + k) % 2 := zq_holdE t.bc ci.1
  have hd' : (g.act n).hold d = 10 * ((2 * g.m + k) / 2) + (2 * g.m + k) % 2 := zq_holdE (by rw [zt_bI w t d0.1, if_pos rfl]) ci.1
  have oth : ∀ x, 0 ≤ x → x ≠ d → x ≠ g.as c d → x ≠ c → (g.act n).hold x = g.hold x := by
    intro x x0 h1 h2 h3
    unfold ZG.hold
    rw [zt_bI w t x0, if_neg h1, if_neg h2, if_neg h3]
  unfold fX0_carryBack fX0_carryBack_j36
  rw [zc_holderO zo d0.1 (by omega), zq_bnd, hd']
  by_cases ho : g.bI d = -1
  · have ha : g.as c d = -1 := by unfold ZG.as; rw [if_pos ho]
    rw [ha, zc_holderOf', zq_bnd, zc_clear (by omega), zq_bnd, if_pos (show zq (-1) = -1 from rfl), zc_put ci (by omega), zq_bnd]
    refine ⟨_, rfl, rfl, ?_, ?_, ?_⟩
    · intro b h2 h3
      rw [zq_setA_other _ _ _ _ _ h3, zq_setA_other _ _ _ _ _ h2, zq_setA_other _ _ _ _ _ h2]
    · intro x x0 x1
      rw [zq_wr _ _ _ _ (by omega) x0, zq_wr _ _ _ _ (by omega) x0, zq_wr _ _ _ _ (by omega) x0]
      by_cases h1 : x = c
      · subst h1; simp [hc]
      · by_cases h2 : x = d
        · subst h2
          have : g.hold x = -1 := by unfold ZG.hold; rw [if_pos ho]
          simp [h1, this]
        · simp [h1, h2]
          rw [zo x x0 x1, oth x x0 h2 (by omega) h1]
    · intro y y0 y1
      rw [zq_wr _ _ _ _ (by omega) y0, zq_wr _ _ _ _ (by omega) y0, zq_wr _ _ _ _ (by omega) y0]
      by_cases h1 : y = 2 * g.m + k
      · subst h1; simp [t.ec]
      · have h2 : y ≠ g.bI d := by omega
        simp [h1]
        rw [za y y0 y1, zt_a w t, if_neg h1, if_neg h2]
  · have s := t.sd w ho
    have ha : g.as c d = g.sd c d := by unfold ZG.as; rw [if_neg ho]
    have hd : g.hold d = 10 * (g.bI d / 2) + g.bI d % 2 := by unfold ZG.hold; rw [if_neg ho]
    have hs' : (g.act n).hold (g.sd c d) = 10 * (g.bI d / 2) + g.bI d % 2 := zq_holdE (by rw [zt_bI w t s.1, if_neg s.2.2.1, ha, if_pos rfl]) s.2.2.2.2.2.2.1
    have hm : ¬ zq (g.sd c d) = -1 := by
      rw [zq_m1, zq_eq (by omega)]; omega
    rw [ha, zc_holderO zo s.1 (by omega), zq_bnd, hs', zc_clear (by omega), zq_bnd, if_neg hm, zc_clear (by omega), zq_bnd, zc_put (by omega) (by omega), zq_bnd, zc_put ci (by omega), zq_bnd]
    refine ⟨_, rfl, rfl, ?_, ?_, ?_⟩
    · intro b h2 h3
      rw [zq_setA_other _ _ _ _ _ h3, zq_setA_other _ _ _ _ _ h2, zq_setA_other _ _ _ _ _ h3, zq_setA_other _ _ _ _ _ h2, zq_setA_other _ _ _ _ _ h2, zq_setA_other _ _ _ _ _ h2]
    · intro x x0 x1
      rw [zq_wr _ _ _ _ (by omega) x0, zq_wr _ _ _ _ (by omega) x0, zq_wr _ _ _ _ (by omega) x0, zq_wr _ _ _ _ (by omega) x0, zq_wr _ _ _ _ (by omega) x0, zq_wr _ _ _ _ (by omega) x0]
      by_cases h1 : x = c
      · subst h1; simp [hc]
      · by_cases h2 : x = d
        · subst h2
          simp [h1, hd]
        · by_cases h3 : x = g.sd c d
          · have hh : g.hold x = -1 := by
              unfold ZG.hold
              rw [if_pos]
              have o2 := (t.occ ho).2
              unfold ZG.sd at h3
              by_cases h5 : g.pm = 2
              · rw [if_pos h5] at h3; exact absurd h3 h1
              · rw [if_neg h5] at h3
                rw [h3]; exact (o2.resolve_left h5).2.2.2.2.2.2.1
            rw [hh]
            simp [h1, h2, h3.symm]
          · simp [h1, h2, h3]
            rw [zo x x0 x1, oth x x0 h2 (by rw [ha]; exact h3) h1]
    · intro y y0 y1
      rw [zq_wr _ _ _ _ (by omega) y0, zq_wr _ _ _ _ (by omega) y0, zq_wr _ _ _ _ (by omega) y0, zq_wr _ _ _ _ (by omega) y0, zq_wr _ _ _ _ (by omega) y0, zq_wr _ _ _ _ (by omega) y0]
      by_cases h1 : y = 2 * g.m + k
      · subst h1; simp [t.ec]
      · by_cases h2 : y = g.bI d
        · subst h2
          simp [h1]
          rw [zq_bIa ho]
        · simp [h1, h2]
          rw [za y y0 y1, zt_a w t, if_neg h1, if_neg h2]
theorem zq_cpT {β : Type} [Decidable True] (k : Option β) : cp True k = k := zq_cp k trivial
/-- the row of a turn in the class's past -/
def ZR (S : SC) (g : ZG) (n T : Int) : Prop := S.2 4 (5 * T).toNat = zq n ∧ S.2 4 (5 * T + 1).toNat = zq (g.a (2 * g.m + n / 10000)) ∧ S.2 4 (5 * T + 2).toNat = zq (g.as (g.a (2 * g.m + n / 10000)) (n / 100 % 100)) ∧ S.2 4 (5 * T + 3).toNat = zq (g.old n) ∧ S.2 4 (5 * T + 4).toNat = zq g.b
/-- the class takes a turn back -/
theorem zc_undo {S : SC} {g : ZG} (w : ZW g) {T n k c d e : Int} (t : ZT g n k c d e) (z : ZC S (g.act n)) (hT : S.1 5 = zq (T + 1)) (h0 : 0 ≤ T ∧ T ≤ 100) (hr : ZR S g n T) : ∃ S', fX0_undo S = some S' ∧ ZC S' g ∧ S'.1 5 = zq T ∧ S'.1 6 = zq (-1) ∧ (∀ k, k ≠ 5 → k ≠ 6 → k ≠ 7 → S'.1 k = S.1 k) ∧ (∀ b, 4 ≤ b → S'.2 b = S.2 b) := by
  have hn := w.n
  have hB := w.B
  have hk := t.k0
  have hd := t.d0
  have hc := t.c0
  have he := t.e0
  have ht := t.en
  have hi := t.i
  obtain ⟨n1, n2, n3⟩ := t.nums w
  obtain ⟨r0, r1, r2, r3, r4⟩ := hr
  rw [n1, t.ec] at r1
  rw [n1, n2, t.ec] at r2
  have hbb := w.b
  have e0 : T * 5 = 5 * T := by omega
  have e1 : T + 1 - 1 = T := by omega
  -- behind the storeys
  have st : ∃ S13, fX0_setStoreys (setS (setS S 5 (zq T)) 6 (zq (-1))) (zq (zqBc e)) (zq (g.old n)) = some S13 ∧ S13.1 = (setS (setS S 5 (zq T)) 6 (zq (-1))).1 ∧ (∀ b, b ≠ 1 → S13.2 b = S.2 b) ∧ (∀ x, 0 ≤ x → x < 25 → S13.2 1 x.toNat = zq (g.h x)) := by
    unfold ZG.old
    rw [n3]
    by_cases h9 : e = 99
    · have : zqBc e = -1 := by unfold zqBc; rw [if_pos h9]
      refine ⟨_, by rw [this]; exact zc_setStoreys', rfl, fun _ _ => rfl, ?_⟩
      intro x x0 x1
      rw [zq_setS_2, zq_setS_2, z.h x x0 x1, zt_h w t x x0, if_neg (by omega)]
    · obtain ⟨fr, b0, b1⟩ := t.fre h9
      rw [if_neg h9]
      refine ⟨_, zc_setStoreys (by omega), rfl, fun b hb => zq_setA_other _ _ _ _ _ hb, ?_⟩
      intro x x0 x1
      rw [zq_wr _ _ _ _ (by omega) x0, zq_setS_2, zq_setS_2, z.h x x0 x1, zt_h w t x x0]
      by_cases hx : x = zqBc e
      · rw [if_pos ⟨rfl, hx⟩, hx]
      · rw [if_neg (fun q => hx q.2), if_neg hx]
  obtain ⟨S13, s1, s2, s3, s4⟩ := st
  obtain ⟨S', c1, c2, c3, c4, c5⟩ := zc_carryBack (S := setS S13 7 (zq g.b)) w t (by intro x x0 x1; rw [zq_setS_2, s3 2 (by omega)]; exact z.o x x0 x1) (by intro x x0 x1; rw [zq_setS_2, s3 3 (by omega)]; exact z.a x x0 x1)
  have q : ∀ k, k ≠ 5 → k ≠ 6 → k ≠ 7 → S'.1 k = S.1 k := fun k k5 k6 k7 => by rw [c2, zq_setS_other _ _ _ _ k7, s2, zq_setS_other _ _ _ _ k6, zq_setS_other _ _ _ _ k5]
  refine ⟨S', ?_, ⟨?_, ?_, ?_, ?_, ?_, ?_, c4, c5, ?_⟩, ?_, ?_, q, ?_⟩
  · have bt := zc_built (S := setS (setS S 5 (zq T)) 6 (zq (-1))) (n := n) (by omega)
    rw [n3] at bt
    have dst := zc_dest (S := setS S13 7 (zq g.b)) (n := n) (by omega)
    rw [n2] at dst
    unfold fX0_undo fX0_undo_j81
    rw [hT]
    simp (disch := omega) only [zq_l0, zq_l1, zq_l2, zq_l3, zq_l4, zq_l5, zq_l6, zq_l8, zq_l10, zq_l25, zq_l29, zq_l30, zq_l32, zq_l50, zq_l63, zq_l99, zq_l100, zq_l125, zq_l200, zq_l338, zq_l505, zq_l6000, zq_l10000, zq_l20, zq_bnd, zq_nm, zq_ck, zq_ex, zq_neg, zq_add, zq_sub, zq_mul, zq_div, zq_lt, zq_le, zq_eq, zq_tn, zq_setA_1, zq_setS_2, if_pos, if_neg, zq_if0, zq_if1, ite_true, ite_false, e0, e1, zq_m1, r0, bt, r3, s1, s3 4 (by omega), r4, or_true, true_or, zq_cpT]
    rcases hbb with h | h
    · rw [h] at dst c1
      rw [h]
      simp (disch := omega) only [zq_l0, zq_l1, zq_l2, zq_l3, zq_l4, zq_l5, zq_l6, zq_l8, zq_l10, zq_l25, zq_l29, zq_l30, zq_l32, zq_l50, zq_l63, zq_l99, zq_l100, zq_l125, zq_l200, zq_l338, zq_l505, zq_l6000, zq_l10000, zq_l20, zq_bnd, zq_nm, zq_ck, zq_ex, zq_neg, zq_add, zq_sub, zq_mul, zq_div, zq_lt, zq_le, zq_eq, zq_tn, zq_setA_1, zq_setS_2, if_pos, if_neg, zq_if0, zq_if1, ite_true, ite_false, dst, s3 4 (by omega), r0, r1, r2, c1]
    · rw [h] at dst c1
      rw [h]
      simp (disch := omega) only [zq_l0, zq_l1, zq_l2, zq_l3, zq_l4, zq_l5, zq_l6, zq_l8, zq_l10, zq_l25, zq_l29, zq_l30, zq_l32, zq_l50, zq_l63, zq_l99, zq_l100, zq_l125, zq_l200, zq_l338, zq_l505, zq_l6000, zq_l10000, zq_l20, zq_bnd, zq_nm, zq_ck, zq_ex, zq_neg, zq_add, zq_sub, zq_mul, zq_div, zq_lt, zq_le, zq_eq, zq_tn, zq_setA_1, zq_setS_2, if_pos, if_neg, zq_if0, zq_if1, ite_true, ite_false, dst, s3 4 (by omega), r0, r1, r2, c1]
  · rw [q 0 (by omega) (by omega) (by omega)]; exact z.n
  · rw [q 1 (by omega) (by omega) (by omega)]; exact z.B
  · rw [q 2 (by omega) (by omega) (by omega)]; exact z.p0
  · rw [q 3 (by omega) (by omega) (by omega)]; exact z.p1
  · rw [c2, zq_setS_same]
  · intro x x0 x1
    rw [c3 1 (by omega) (by omega), zq_setS_2]; exact s4 x x0 x1
  · rw [c3 0 (by omega) (by omega), zq_setS_2, s3 0 (by omega)]; exact z.nb
  · rw [c2, zq_setS_other _ _ _ _ (by omega), s2, zq_setS_other _ _ _ _ (by omega), zq_setS_same]
  · rw [c2, zq_setS_other _ _ _ _ (by omega), s2, zq_setS_same]
  · intro b hb
    rw [c3 b (by omega) (by omega), zq_setS_2, s3 b (by omega)]
/-! the reference: a level tells a position -/
def ZM (M : SC) (L : Int) (g : ZG) : Prop := (M.1 1 = zq g.R) ∧ (M.1 2 = zq g.C) ∧ (M.1 3 = zq g.B) ∧ (M.2 0 0 = zq (g.p 0)) ∧ (M.2 0 1 = zq (g.p 1)) ∧ (∀ c, 0 ≤ c → c < 25 → M.2 1 (25 * L + c).toNat = zq (g.h c)) ∧ (∀ i, 0 ≤ i → i < 4 → M.2 2 (4 * L + i).toNat = zq (g.a i)) ∧ (M.2 3 L.toNat = zq g.m) ∧ (M.2 4 L.toNat = zq g.b)
theorem ZM.R {M : SC} {L : Int} {g : ZG} (w : ZM M L g) : M.1 1 = zq g.R := w.1
theorem ZM.C {M : SC} {L : Int} {g : ZG} (w : ZM M L g) : M.1 2 = zq g.C := w.2.1
theorem ZM.B {M : SC} {L : Int} {g : ZG} (w : ZM M L g) : M.1 3 = zq g.B := w.2.2.1
theorem ZM.p0 {M : SC} {L : Int} {g : ZG} (w : ZM M L g) : M.2 0 0 = zq (g.p 0) := w.2.2.2.1
theorem ZM.p1 {M : SC} {L : Int} {g : ZG} (w : ZM M L g) : M.2 0 1 = zq (g.p 1) := w.2.2.2.2.1
theorem ZM.h {M : SC} {L : Int} {g : ZG} (w : ZM M L g) : ∀ c, 0 ≤ c → c < 25 → M.2 1 (25 * L + c).toNat = zq (g.h c) := w.2.2.2.2.2.1
theorem ZM.a {M : SC} {L : Int} {g : ZG} (w : ZM M L g) : ∀ i, 0 ≤ i → i < 4 → M.2 2 (4 * L + i).toNat = zq (g.a i) := w.2.2.2.2.2.2.1
theorem ZM.m {M : SC} {L : Int} {g : ZG} (w : ZM M L g) : M.2 3 L.toNat = zq g.m := w.2.2.2.2.2.2.2.1
theorem ZM.b {M : SC} {L : Int} {g : ZG} (w : ZM M L g) : M.2 4 L.toNat = zq g.b := w.2.2.2.2.2.2.2.2
theorem zq_dm {C c : Int} (hC : 2 ≤ C ∧ C ≤ 5) (hc : 0 ≤ c ∧ c < 25) : 0 ≤ c / C ∧ c / C < 25 ∧ 0 ≤ c % C ∧ c % C < 5 ∧ c - c / C * C = c % C := by
  have h1 := Int.ediv_nonneg hc.1 (show 0 ≤ C by omega)
  have h2 := Int.ediv_le_self C hc.1
  have h3 := Int.emod_nonneg c (show C ≠ 0 by omega)
  have h4 := Int.emod_lt_of_pos c (show 0 < C by omega)
  have h5 := Int.emod_def c C
  rw [Int.mul_comm] at h5
  omega

theorem ZM.pm {M : SC} {L : Int} {g : ZG} (z : ZM M L g) (w : ZW g) : M.2 0 g.m.toNat = zq g.pm := by
  unfold ZG.pm
  rcases w.m with h | h
  · rw [h]; exact z.p0
  · rw [h]; exact z.p1
theorem zq_bey {g : ZG} (w : ZW g) {c d : Int} (hd : 0 ≤ d ∧ d < g.n) : g.bey c d = -1 ∨ (0 ≤ g.bey c d ∧ g.bey c d < g.n) := by
  have hC := w.C
  have hR := w.R
  unfold ZG.bey zqBey zqAt
  generalize 2 * (d / g.C) - c / g.C = r
  generalize 2 * (d % g.C) - c % g.C = q
  split
  · right
    have hn : g.n = g.R * g.C := rfl
    rw [hn]
    have h1 : 0 ≤ r * g.C := Int.mul_nonneg (by omega) (by omega)
    have h2 : (r + 1) * g.C ≤ g.R * g.C := Int.mul_le_mul_of_nonneg_right (by omega) (by omega)
    rw [Int.add_mul] at h2
    omega
  · exact Or.inl rfl
