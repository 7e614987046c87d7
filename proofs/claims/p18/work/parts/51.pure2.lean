set_option maxRecDepth 100000
/-! has the mover a turn -/
abbrev ZG.gd (g : ZG) (c x : Int) : Prop := x ≠ -1 ∧ g.stp c x ∧ g.ent c x ∧ (g.win c x ∨ ∃ e ∈ zqRg g.n, g.fre c x e)
theorem zc_hasTurn20 {S : SC} {g : ZG} (z : ZC S g) (w : ZW g) {c k : Int} (hk : 0 ≤ k ∧ k < 2) (h0 : 0 ≤ c ∧ c < g.n) (hc : g.h c < 4) : loop (fX0_hasTurn_b20 S (zq g.m) (zq k) (zq c)) FUEL 0 = some (if ∃ j ∈ zqRg 8, g.gd c (zqNb g.R g.C c j) then .inr (zq 1) else .inl (zq (k + 1))) := by
  have a3 := w.n
  obtain ⟨r, e, q⟩ := zq_forE (b := fX0_hasTurn_b20 S (zq g.m) (zq k) (zq c)) (s := 0) (fun i s => s = zq i ∧ ∀ j : Int, 0 ≤ j → j < i → ¬ g.gd c (zqNb g.R g.C c j)) (fun r => r = if ∃ j ∈ zqRg 8, g.gd c (zqNb g.R g.C c j) then .inr (zq 1) else .inl (zq (k + 1))) 8 (by omega)
    (by
      rintro i hi s ⟨rfl, hn⟩
      have e : fX0_hasTurn_b20 S (zq g.m) (zq k) (zq c) (zq i) = if g.gd c (zqNb g.R g.C c i) then some (.inr (.inr (zq 1))) else some (.inl (zq (i + 1))) := by
        have nb := zq_nb w.R w.C (show 0 ≤ c ∧ c < g.R * g.C from h0) (d := (i : Int)) ⟨by omega, by omega⟩
        unfold fX0_hasTurn_b20 fX0_hasTurn_j72
        simp (disch := omega) only [zq_l0, zq_l1, zq_l2, zq_l3, zq_l4, zq_l5, zq_l6, zq_l8, zq_l10, zq_l25, zq_l29, zq_l30, zq_l32, zq_l50, zq_l63, zq_l99, zq_l100, zq_l125, zq_l200, zq_l338, zq_l505, zq_l6000, zq_l10000, zq_l20, zq_bnd, zq_nm, zq_ck, zq_ex, zq_neg, zq_add, zq_sub, zq_mul, zq_div, zq_lt, zq_le, zq_eq, zq_tn, zq_setA_1, zq_setS_2, if_pos, if_neg, zq_if0, zq_if1, ite_true, ite_false, zc_stepOf z w h0 (show 0 ≤ (i : Int) ∧ (i : Int) < 8 by omega), zc_nbOf z w h0 (show 0 ≤ (i : Int) ∧ (i : Int) < 8 by omega)]
        generalize zqNb g.R g.C c i = x at *
        unfold ZG.bit
        have f0 : lg_cmp ((0 : Int64) >>> ((zq 32).toInt64 &&& 63)) 0 = zq 0 := by decide +kernel
        have f1 : lg_cmp (0 : Int64) 0 = zq 0 := by decide +kernel
        by_cases hx : x = -1
        · have hn : ¬ g.gd c x := fun q => q.1 hx
          rw [if_pos hx, if_pos f0, if_pos f1, if_neg hn]
        · have hx1 : 0 ≤ x ∧ x < g.n := by
            rcases nb with q | q
            · exact absurd q hx
            · exact ⟨q.1, q.2.1⟩
          rw [if_neg hx]
          by_cases hs : g.stp c x ∧ g.ent c x
          · rw [if_pos hs]
            by_cases hw : g.win c x
            · rw [if_pos hw]
              have := zqM_hi' (d := x) (by omega)
              rw [zq_l32, zq_l0] at this
              have hp : g.gd c x := ⟨hx, hs.1, hs.2, Or.inl hw⟩
              rw [if_neg this, if_pos hp]
            · rw [if_neg hw]
              have := zqM_lo' (d := x) (by omega)
              rw [zq_l32, zq_l0] at this
              rw [if_pos this.1, if_neg this.2, zc_canBuild z w h0 hc hx1 (zq_ok w h0 hx1 hs.1.1 hs.2), zq_bnd, zq_if0]
              by_cases hf : ∃ e ∈ zqRg g.n, g.fre c x e
              · have hp : g.gd c x := ⟨hx, hs.1, hs.2, Or.inr hf⟩
                rw [if_pos hf, if_pos hp]
              · have hn : ¬ g.gd c x := fun q => q.2.2.2.elim hw hf
                rw [if_neg hf, if_neg hn]
          · have hn : ¬ g.gd c x := fun q => hs ⟨q.2.1, q.2.2.1⟩
            rw [if_neg hs, if_pos f0, if_pos f1, if_neg hn]
      rw [e]
      by_cases hg : g.gd c (zqNb g.R g.C c i)
      · rw [if_pos hg]
        exact Or.inr ⟨_, rfl, (if_pos ⟨i, zqRg_mem.mpr (by omega), hg⟩).symm⟩
      · rw [if_neg hg]
        refine Or.inl ⟨_, rfl, by simp, ?_⟩
        intro j j0 j1
        by_cases hj : j = i
        · rw [hj]; exact hg
        · exact hn j j0 (by omega))
    (by
      rintro s ⟨rfl, hn⟩
      refine ⟨.inl (zq (k + 1)), ?_, ?_⟩
      · unfold fX0_hasTurn_b20
        simp (disch := omega) only [zq_l0, zq_l1, zq_l2, zq_l3, zq_l4, zq_l5, zq_l6, zq_l8, zq_l10, zq_l25, zq_l29, zq_l30, zq_l32, zq_l50, zq_l63, zq_l99, zq_l100, zq_l125, zq_l200, zq_l338, zq_l505, zq_l6000, zq_l10000, zq_l20, zq_bnd, zq_nm, zq_ck, zq_ex, zq_neg, zq_add, zq_sub, zq_mul, zq_div, zq_lt, zq_le, zq_eq, zq_tn, zq_setA_1, zq_setS_2, if_pos, if_neg, zq_if0, zq_if1, ite_true, ite_false]
      · rw [if_neg]
        rintro ⟨j, hj, hf⟩
        rw [zqRg_mem] at hj
        exact hn j hj.1 (by omega) hf)
    ⟨rfl, by intro j j0 j1; omega⟩
  rw [e, q]
theorem zq_spot {g : ZG} (w : ZW g) (hp : ZP g) {k : Int} (hk : 0 ≤ k ∧ k < g.B) : 0 ≤ 2 * g.m + k ∧ 2 * g.m + k < 4 ∧ 0 ≤ g.a (2 * g.m + k) ∧ g.a (2 * g.m + k) < g.n ∧ g.h (g.a (2 * g.m + k)) < 4 ∧ g.bI (g.a (2 * g.m + k)) = 2 * g.m + k := by
  have b := w.B
  have i0 : 0 ≤ 2 * g.m + k := by rcases w.m with h | h <;> omega
  have i4 : 2 * g.m + k < 4 := by rcases w.m with h | h <;> omega
  have hne := hp (2 * g.m + k) i0 i4 (by omega)
  have ha := w.a (2 * g.m + k) i0 i4
  exact ⟨i0, i4, by omega, ha.2, w.low _ i0 i4 hne, zq_bIi w i0 i4 hne⟩
theorem zq_come1 {g : ZG} (w : ZW g) {c d : Int} (h0 : 0 ≤ c ∧ c < g.n) (hc : g.h c < 4) (h1 : 0 ≤ d ∧ d < g.n) {w1 : Bool} (h : g.come c d w1) (hf : w1 = false → ∃ e ∈ zqRg g.n, g.fre c d e) : ∃ j ∈ zqRg 8, g.gd c (zqNb g.R g.C c j) := by
  rcases h with ⟨-, h | h⟩
  · obtain ⟨-, j, j0, j8, hj⟩ := zq_adj w.R w.C h0 h1 h.1.1
    refine ⟨j, zqRg_mem.mpr ⟨j0, j8⟩, ?_⟩
    rw [hj]
    refine ⟨by omega, h.1, h.2.1, ?_⟩
    cases w1 with
    | true => exact Or.inl (of_decide_eq_true h.2.2)
    | false => exact Or.inr (hf rfl)
  · obtain ⟨-, x, hx, s1, s2, s3, -⟩ := h
    rw [zqRg_mem] at hx
    obtain ⟨hxc, j, j0, j8, hj⟩ := zq_adj w.R w.C h0 hx s1.1
    refine ⟨j, zqRg_mem.mpr ⟨j0, j8⟩, ?_⟩
    rw [hj]
    refine ⟨by omega, s1, Or.inl s2, Or.inr ⟨c, zqRg_mem.mpr h0, hxc, hc, Or.inl ⟨rfl, fun q => q.1 s2⟩⟩⟩
theorem zq_filne {n : Int} {p : Int → Bool} : (∃ e ∈ zqRg n, p e = true) ↔ (zqRg n).filter p ≠ [] := by
  rw [ne_eq, List.filter_eq_nil_iff]
  constructor
  · rintro ⟨e, he, hp⟩ h; exact h e he hp
  · intro h
    exact Classical.byContradiction fun q => h (fun a ha hp => q ⟨a, ha, hp⟩)
theorem zq_apne {α : Type} {a b : List α} : a ++ b ≠ [] ↔ a ≠ [] ∨ b ≠ [] := by
  cases a <;> simp
theorem zq_mpne {α β : Type} {f : α → β} {a : List α} : a.map f ≠ [] ↔ a ≠ [] := by
  cases a <;> simp
theorem zq_blk {g : ZG} {k d : Int} : g.blk k d ≠ [] ↔ (g.come (g.a (2 * g.m + k)) d false ∧ ∃ e ∈ zqRg g.n, g.fre (g.a (2 * g.m + k)) d e) ∨ g.come (g.a (2 * g.m + k)) d true := by
  have hf : (∃ e ∈ zqRg g.n, g.fre (g.a (2 * g.m + k)) d e) ↔ (zqRg g.n).filter (fun e => decide (g.fre (g.a (2 * g.m + k)) d e)) ≠ [] := by
    rw [← zq_filne]
    exact ⟨fun ⟨e, he, h⟩ => ⟨e, he, decide_eq_true h⟩, fun ⟨e, he, h⟩ => ⟨e, he, of_decide_eq_true h⟩⟩
  have h4 : (zqRg g.n).filter (fun e => decide (g.fre (g.a (2 * g.m + k)) d e ∧ g.h e < 3)) ≠ [] → (zqRg g.n).filter (fun e => decide (g.fre (g.a (2 * g.m + k)) d e)) ≠ [] := by
    rw [← zq_filne, ← zq_filne]
    exact fun ⟨e, he, h⟩ => ⟨e, he, decide_eq_true (of_decide_eq_true h).1⟩
  unfold ZG.blk
  rw [zq_apne]
  refine or_congr ?_ ?_
  · by_cases h2 : g.come (g.a (2 * g.m + k)) d false
    · rw [if_pos h2, zq_apne, zq_mpne, hf]
      constructor
      · rintro (q | q)
        · exact ⟨h2, q⟩
        · refine ⟨h2, ?_⟩
          by_cases h6 : g.pm = 6
          · rw [if_pos h6, zq_mpne] at q
            exact h4 q
          · rw [if_neg h6] at q; exact absurd rfl q
      · exact fun q => Or.inl q.2
    · rw [if_neg h2]
      exact ⟨fun q => absurd rfl q, fun q => absurd q.1 h2⟩
  · by_cases h1 : g.come (g.a (2 * g.m + k)) d true
    · rw [if_pos h1]
      exact ⟨fun _ => h1, fun _ q => by cases q⟩
    · rw [if_neg h1]
      exact ⟨fun q => absurd rfl q, fun q => absurd q h1⟩
theorem zq_trs {g : ZG} : g.trs ≠ [] ↔ ∃ k ∈ zqRg g.B, ∃ d ∈ zqRg g.n, g.blk k d ≠ [] := by
  unfold ZG.trs
  rw [ne_eq, List.flatMap_eq_nil_iff]
  simp only [List.flatMap_eq_nil_iff]
  constructor
  · intro h
    by_cases q : ∃ k ∈ zqRg g.B, ∃ d ∈ zqRg g.n, g.blk k d ≠ []
    · exact q
    · exact absurd (fun k hk d hd => Classical.byContradiction fun hne => q ⟨k, hk, d, hd, hne⟩) h
  · rintro ⟨k, hk, d, hd, hne⟩ h
    exact hne (h k hk d hd)
theorem zq_some {g : ZG} (w : ZW g) (hp : ZP g) : (∃ k ∈ zqRg g.B, ∃ j ∈ zqRg 8, g.gd (g.a (2 * g.m + k)) (zqNb g.R g.C (g.a (2 * g.m + k)) j)) ↔ g.trs ≠ [] := by
  rw [zq_trs]
  constructor
  · rintro ⟨k, hk, j, hj, hx, hs, he, hw⟩
    rw [zqRg_mem] at hj
    obtain ⟨-, -, c0, c1, c2, c3⟩ := zq_spot w hp (zqRg_mem.mp hk)
    have nb := zq_nb w.R w.C (show 0 ≤ g.a (2 * g.m + k) ∧ g.a (2 * g.m + k) < g.R * g.C from ⟨c0, c1⟩) hj
    rcases nb with q | q
    · exact absurd q hx
    · refine ⟨k, hk, _, zqRg_mem.mpr ⟨q.1, q.2.1⟩, zq_blk.mpr ?_⟩
      by_cases hwin : g.win (g.a (2 * g.m + k)) (zqNb g.R g.C (g.a (2 * g.m + k)) j)
      · exact Or.inr ⟨hs.1.1, Or.inl ⟨hs, he, decide_eq_true hwin⟩⟩
      · exact Or.inl ⟨⟨hs.1.1, Or.inl ⟨hs, he, decide_eq_false hwin⟩⟩, hw.resolve_left hwin⟩
  · rintro ⟨k, hk, d, hd, h⟩
    obtain ⟨-, -, c0, c1, c2, c3⟩ := zq_spot w hp (zqRg_mem.mp hk)
    refine ⟨k, hk, ?_⟩
    rcases zq_blk.mp h with ⟨h1, h2⟩ | h1
    · exact zq_come1 w ⟨c0, c1⟩ c2 (zqRg_mem.mp hd) h1 (fun _ => h2)
    · exact zq_come1 w ⟨c0, c1⟩ c2 (zqRg_mem.mp hd) h1 (fun q => by cases q)
theorem zc_hasTurn {S : SC} {g : ZG} (z : ZC S g) (w : ZW g) (hp : ZP g) : fX0_hasTurn S (zq g.m) = some (zq (zqB (g.trs ≠ []))) := by
  have a3 := w.n
  have hB := w.B
  have hm : 0 ≤ g.m ∧ g.m ≤ 1 := by rcases w.m with h | h <;> omega
  obtain ⟨r, e, q⟩ := zq_forE (b := fX0_hasTurn_b2 S (zq g.m)) (s := 0) (fun i s => s = zq i ∧ ∀ k : Int, 0 ≤ k → k < i → ¬ ∃ j ∈ zqRg 8, g.gd (g.a (2 * g.m + k)) (zqNb g.R g.C (g.a (2 * g.m + k)) j)) (fun r => r = zq (zqB (g.trs ≠ []))) g.B.toNat (by omega)
    (by
      rintro i hi s ⟨rfl, hn⟩
      have hk : 0 ≤ (i : Int) ∧ (i : Int) < g.B := by omega
      obtain ⟨i0, i4, c0, c1, c2, c3⟩ := zq_spot w hp hk
      have e : fX0_hasTurn_b2 S (zq g.m) (zq i) = some (if ∃ j ∈ zqRg 8, g.gd (g.a (2 * g.m + i)) (zqNb g.R g.C (g.a (2 * g.m + i)) j) then .inr (zq 1) else .inl (zq (i + 1))) := by
        unfold fX0_hasTurn_b2
        rw [z.B]
        simp (disch := omega) only [zq_l0, zq_l1, zq_l2, zq_l3, zq_l4, zq_l5, zq_l6, zq_l8, zq_l10, zq_l25, zq_l29, zq_l30, zq_l32, zq_l50, zq_l63, zq_l99, zq_l100, zq_l125, zq_l200, zq_l338, zq_l505, zq_l6000, zq_l10000, zq_l20, zq_bnd, zq_nm, zq_ck, zq_ex, zq_neg, zq_add, zq_sub, zq_mul, zq_div, zq_lt, zq_le, zq_eq, zq_tn, zq_setA_1, zq_setS_2, if_pos, if_neg, zq_if0, zq_if1, ite_true, ite_false, zc_spotOf z i0 i4]
        rw [← zq_l0]
        exact zc_hasTurn20 z w (by omega) ⟨c0, c1⟩ c2
      rw [e]
      by_cases hg : ∃ j ∈ zqRg 8, g.gd (g.a (2 * g.m + i)) (zqNb g.R g.C (g.a (2 * g.m + i)) j)
      · rw [if_pos hg]
        refine Or.inr ⟨_, rfl, ?_⟩
        rw [zqB_t ((zq_some w hp).mp ⟨i, zqRg_mem.mpr hk, hg⟩)]
      · rw [if_neg hg]
        refine Or.inl ⟨_, rfl, by simp, ?_⟩
        intro k k0 k1
        by_cases hj : k = i
        · rw [hj]; exact hg
        · exact hn k k0 (by omega))
    (by
      rintro s ⟨rfl, hn⟩
      refine ⟨zq 0, ?_, ?_⟩
      · unfold fX0_hasTurn_b2
        rw [z.B]
        simp (disch := omega) only [zq_l0, zq_l1, zq_l2, zq_l3, zq_l4, zq_l5, zq_l6, zq_l8, zq_l10, zq_l25, zq_l29, zq_l30, zq_l32, zq_l50, zq_l63, zq_l99, zq_l100, zq_l125, zq_l200, zq_l338, zq_l505, zq_l6000, zq_l10000, zq_l20, zq_bnd, zq_nm, zq_ck, zq_ex, zq_neg, zq_add, zq_sub, zq_mul, zq_div, zq_lt, zq_le, zq_eq, zq_tn, zq_setA_1, zq_setS_2, if_pos, if_neg, zq_if0, zq_if1, ite_true, ite_false]
      · rw [zqB_f]
        intro h
        obtain ⟨k, hk, hf⟩ := (zq_some w hp).mpr h
        rw [zqRg_mem] at hk
        exact hn k hk.1 (by omega) hf)
    ⟨rfl, by intro j j0 j1; omega⟩
  unfold fX0_hasTurn
  rw [e, q]
/-! the mask of the cells that a builder comes to -/
def zqI (y : Int) (v : Bool) : Int := y + (if v then 32 else 0)
def zqS (n : Int) (M : Int64) (F : Int → Bool → Prop) : Prop := ∀ y v, 0 ≤ y → y < n → (zqT M (zqI y v).toNat = true ↔ F y v)
theorem zqS_0 {n : Int} : zqS n 0 (fun _ _ => False) := fun y v _ _ => by rw [zqT_0]; simp
theorem zqS_or {n : Int} {A B : Int64} {F G : Int → Bool → Prop} (a : zqS n A F) (b : zqS n B G) : zqS n (A ||| B) (fun y v => F y v ∨ G y v) := fun y v h0 h1 => by
  rw [zqT_or, Bool.or_eq_true, a y v h0 h1, b y v h0 h1]
theorem zqS_iff {n : Int} {A : Int64} {F G : Int → Bool → Prop} (a : zqS n A F) (h : ∀ y v, 0 ≤ y → y < n → (F y v ↔ G y v)) : zqS n A G := fun y v h0 h1 => by
  rw [a y v h0 h1, h y v h0 h1]
theorem zqS_bit {g : ZG} (w : ZW g) {c x : Int} (hx : x = -1 ∨ (0 ≤ x ∧ x < g.n)) : zqS g.n (g.bit c x) (fun y v => x = y ∧ g.s1 c x v) := by
  have hn := w.n
  intro y v h0 h1
  unfold ZG.bit ZG.s1
  by_cases hm : x = -1
  · rw [if_pos hm, zqT_0]
    constructor
    · intro h; cases h
    · rintro ⟨h, -⟩; omega
  · have hx := hx.resolve_left hm
    rw [if_neg hm]
    by_cases hs : g.stp c x ∧ g.ent c x
    · rw [if_pos hs]
      by_cases hw : g.win c x
      · rw [if_pos hw]
        unfold zqI
        rw [zqT_M (by omega) (by split <;> omega)]
        cases v <;> simp [hw, hs.1, hs.2] <;> omega
      · rw [if_neg hw]
        unfold zqI
        rw [zqT_M (by omega) (by split <;> omega)]
        cases v <;> simp [hw, hs.1, hs.2] <;> omega
    · rw [if_neg hs, zqT_0]
      constructor
      · intro h; cases h
      · rintro ⟨-, h, h', -⟩; exact absurd ⟨h, h'⟩ hs
theorem zq_nbx {g : ZG} (w : ZW g) {c j : Int} (h0 : 0 ≤ c ∧ c < g.n) (hj : 0 ≤ j ∧ j < 8) : zqNb g.R g.C c j = -1 ∨ (0 ≤ zqNb g.R g.C c j ∧ zqNb g.R g.C c j < g.n) := by
  rcases zq_nb w.R w.C (show 0 ≤ c ∧ c < g.R * g.C from h0) hj with q | q
  · exact Or.inl q
  · exact Or.inr ⟨q.1, q.2.1⟩
theorem zq_s1nb {g : ZG} (w : ZW g) {c y : Int} {v : Bool} (h0 : 0 ≤ c ∧ c < g.n) (hy : 0 ≤ y ∧ y < g.n) : (∃ j, 0 ≤ j ∧ j < 8 ∧ zqNb g.R g.C c j = y ∧ g.s1 c (zqNb g.R g.C c j) v) ↔ g.s1 c y v := by
  constructor
  · rintro ⟨j, -, -, e, h⟩; rw [e] at h; exact h
  · intro h
    obtain ⟨-, j, j0, j8, hj⟩ := zq_adj w.R w.C h0 hy h.1.1
    exact ⟨j, j0, j8, hj, by rw [hj]; exact h⟩
/-- the loop over a cell's directions -/
theorem zc_reach72 {S : SC} {g : ZG} (z : ZC S g) (w : ZW g) {c : Int} (y3 y5 : Int64) {F : Int → Bool → Prop} (h0 : 0 ≤ c ∧ c < g.n) (h5 : zqS g.n y5 F) : ∃ r, loop (fX0_reachOf_b72 S (zq g.m) y3 (zq c)) FUEL (y5, 0) = some (.inl (r, zq (c + 1))) ∧ zqS g.n r (fun y v => F y v ∨ g.s1 c y v) := by
  have a3 := w.n
  obtain ⟨r, e, r2, q, q2⟩ := zq_forP (b := fX0_reachOf_b72 S (zq g.m) y3 (zq c)) (s := (y5, 0)) (fun i s => s.2 = zq i ∧ zqS g.n s.1 (fun y v => F y v ∨ ∃ j : Int, 0 ≤ j ∧ j < i ∧ zqNb g.R g.C c j = y ∧ g.s1 c (zqNb g.R g.C c j) v)) (fun r => ∃ r2, r = .inl (r2, zq (c + 1)) ∧ zqS g.n r2 (fun y v => F y v ∨ g.s1 c y v)) 8 (by omega)
    (by
      rintro i hi ⟨s1, s2⟩ ⟨e, hs⟩
      have hi8 : 0 ≤ (i : Int) ∧ (i : Int) < 8 := by omega
      have e : s2 = zq i := e
      subst e
      refine ⟨(s1 ||| g.bit c (zqNb g.R g.C c i), zq (i + 1)), ?_, rfl, ?_⟩
      · unfold fX0_reachOf_b72
        simp (disch := omega) only [zq_l0, zq_l1, zq_l2, zq_l3, zq_l4, zq_l5, zq_l6, zq_l8, zq_l10, zq_l25, zq_l29, zq_l30, zq_l32, zq_l50, zq_l63, zq_l99, zq_l100, zq_l125, zq_l200, zq_l338, zq_l505, zq_l6000, zq_l10000, zq_l20, zq_bnd, zq_nm, zq_ck, zq_ex, zq_neg, zq_add, zq_sub, zq_mul, zq_div, zq_lt, zq_le, zq_eq, zq_tn, zq_setA_1, zq_setS_2, if_pos, if_neg, zq_if0, zq_if1, ite_true, ite_false, zc_stepOf z w h0 hi8]
      · refine zqS_iff (zqS_or hs (zqS_bit w (zq_nbx w h0 hi8))) ?_
        intro y v y0 y1
        constructor
        · rintro ((h | ⟨j, j0, j1, h⟩) | h)
          · exact Or.inl h
          · exact Or.inr ⟨j, j0, by omega, h⟩
          · exact Or.inr ⟨i, by omega, by omega, h⟩
        · rintro (h | ⟨j, j0, j1, h⟩)
          · exact Or.inl (Or.inl h)
          · by_cases hji : j = i
            · rw [hji] at h; exact Or.inr h
            · exact Or.inl (Or.inr ⟨j, j0, by omega, h⟩))
    (by
      rintro ⟨s1, s2⟩ ⟨e, hs⟩
      have e : s2 = zq (8 : Nat) := e
      subst e
      refine ⟨.inl (s1, zq (c + 1)), ?_, s1, rfl, ?_⟩
      · unfold fX0_reachOf_b72 fX0_reachOf_j99
        simp (disch := omega) only [zq_l0, zq_l1, zq_l2, zq_l3, zq_l4, zq_l5, zq_l6, zq_l8, zq_l10, zq_l25, zq_l29, zq_l30, zq_l32, zq_l50, zq_l63, zq_l99, zq_l100, zq_l125, zq_l200, zq_l338, zq_l505, zq_l6000, zq_l10000, zq_l20, zq_bnd, zq_nm, zq_ck, zq_ex, zq_neg, zq_add, zq_sub, zq_mul, zq_div, zq_lt, zq_le, zq_eq, zq_tn, zq_setA_1, zq_setS_2, if_pos, if_neg, zq_if0, zq_if1, ite_true, ite_false]
      · refine zqS_iff hs ?_
        intro y v y0 y1
        rw [← zq_s1nb (v := v) w h0 ⟨y0, y1⟩]
        exact Iff.rfl)
    ⟨rfl, zqS_iff h5 (fun y v y0 y1 => ⟨Or.inl, fun h => h.elim id (fun ⟨j, j0, j1, _⟩ => by omega)⟩)⟩
  exact ⟨r2, by rw [e, q], q2⟩
theorem zc_reach46 {S : SC} {g : ZG} (z : ZC S g) (w : ZW g) {c : Int} (y3 : Int64) (h0 : 0 ≤ c ∧ c < g.n) (h3 : zqS g.n y3 (fun y v => g.s1 c y v)) : ∃ r, loop (fX0_reachOf_b46 S (zq g.m) y3) FUEL (y3, 0) = some r ∧ zqS g.n r (fun y v => g.s1 c y v ∨ ∃ x, 0 ≤ x ∧ x < g.n ∧ g.s1 c x false ∧ g.s1 x y v) := by
  have a3 := w.n
  obtain ⟨r, e, q⟩ := zq_forP (b := fX0_reachOf_b46 S (zq g.m) y3) (s := (y3, 0)) (fun i s => s.2 = zq i ∧ zqS g.n s.1 (fun y v => g.s1 c y v ∨ ∃ x : Int, 0 ≤ x ∧ x < i ∧ g.s1 c x false ∧ g.s1 x y v)) (fun r => zqS g.n r (fun y v => g.s1 c y v ∨ ∃ x, 0 ≤ x ∧ x < g.n ∧ g.s1 c x false ∧ g.s1 x y v)) g.n.toNat (by omega)
    (by
      rintro i hi ⟨s1, s2⟩ ⟨e, hs⟩
      have hi8 : 0 ≤ (i : Int) ∧ (i : Int) < g.n := by omega
      have e : s2 = zq i := e
      subst e
      have ht := h3 i false hi8.1 hi8.2
      have hb : fX0_reachOf_b46 S (zq g.m) y3 (s1, zq i) = if g.s1 c i false then loop (fX0_reachOf_b72 S (zq g.m) y3 (zq i)) FUEL (s1, zq 0) else some (.inl (s1, zq (i + 1))) := by
        unfold fX0_reachOf_b46 fX0_reachOf_j99
        rw [z.n]
        simp (disch := omega) only [zq_l0, zq_l1, zq_l2, zq_l3, zq_l4, zq_l5, zq_l6, zq_l8, zq_l10, zq_l25, zq_l29, zq_l30, zq_l32, zq_l50, zq_l63, zq_l99, zq_l100, zq_l125, zq_l200, zq_l338, zq_l505, zq_l6000, zq_l10000, zq_l20, zq_bnd, zq_nm, zq_ck, zq_ex, zq_neg, zq_add, zq_sub, zq_mul, zq_div, zq_lt, zq_le, zq_eq, zq_tn, zq_setA_1, zq_setS_2, if_pos, if_neg, zq_if0, zq_if1, ite_true, ite_false]
        have tt := zqT_test (M := y3) (z := (i : Int)) (by omega)
        rw [zq_l0] at tt
        have ht : (zqT y3 ((i : Int)).toNat = true) ↔ g.s1 c i false := by
          have ht : (zqT y3 (zqI (i : Int) false).toNat = true) ↔ g.s1 c i false := ht
          have ez : zqI (i : Int) false = i := by simp [zqI]
          rw [ez] at ht; exact ht
        by_cases hsi : g.s1 c i false
        · have hn : ¬ lg_cmp ((y3 >>> ((zq i).toInt64 &&& 63)) &&& 1) 0 = zq 0 := by
            rw [tt, ht.mpr hsi]; simp
          rw [if_neg hn, if_pos hsi]
        · have hp : lg_cmp ((y3 >>> ((zq i).toInt64 &&& 63)) &&& 1) 0 = zq 0 := by
            rw [tt]
            cases hh : zqT y3 ((i : Int)).toNat with
            | true => exact absurd (ht.mp hh) hsi
            | false => rfl
          rw [if_pos hp, if_neg hsi]
      rw [hb]
      by_cases hsi : g.s1 c i false
      · rw [if_pos hsi]
        obtain ⟨r, e1, e2⟩ := zc_reach72 z w y3 s1 hi8 hs
        rw [← zq_l0]
        refine ⟨_, e1, rfl, zqS_iff e2 ?_⟩
        intro y v y0 y1
        constructor
        · rintro ((h | ⟨j, j0, j1, h⟩) | h)
          · exact Or.inl h
          · exact Or.inr ⟨j, j0, by omega, h⟩
          · exact Or.inr ⟨i, by omega, by omega, hsi, h⟩
        · rintro (h | ⟨j, j0, j1, h⟩)
          · exact Or.inl (Or.inl h)
          · by_cases hji : j = i
            · rw [hji] at h; exact Or.inr h.2
            · exact Or.inl (Or.inr ⟨j, j0, by omega, h⟩)
      · rw [if_neg hsi]
        refine ⟨_, rfl, rfl, zqS_iff hs ?_⟩
        intro y v y0 y1
        constructor
        · rintro (h | ⟨j, j0, j1, h⟩)
          · exact Or.inl h
          · exact Or.inr ⟨j, j0, by omega, h⟩
        · rintro (h | ⟨j, j0, j1, h⟩)
          · exact Or.inl h
          · by_cases hji : j = i
            · rw [hji] at h; exact absurd h.1 hsi
            · exact Or.inr ⟨j, j0, by omega, h⟩)
    (by
      rintro ⟨s1, s2⟩ ⟨e, hs⟩
      have e : s2 = zq (g.n.toNat : Nat) := e
      subst e
      refine ⟨s1, ?_, ?_⟩
      · unfold fX0_reachOf_b46
        rw [z.n]
        simp (disch := omega) only [zq_l0, zq_l1, zq_l2, zq_l3, zq_l4, zq_l5, zq_l6, zq_l8, zq_l10, zq_l25, zq_l29, zq_l30, zq_l32, zq_l50, zq_l63, zq_l99, zq_l100, zq_l125, zq_l200, zq_l338, zq_l505, zq_l6000, zq_l10000, zq_l20, zq_bnd, zq_nm, zq_ck, zq_ex, zq_neg, zq_add, zq_sub, zq_mul, zq_div, zq_lt, zq_le, zq_eq, zq_tn, zq_setA_1, zq_setS_2, if_pos, if_neg, zq_if0, zq_if1, ite_true, ite_false]
      · refine zqS_iff hs ?_
        intro y v y0 y1
        rw [show ((g.n.toNat : Nat) : Int) = g.n by omega])
    ⟨rfl, zqS_iff h3 (fun y v y0 y1 => ⟨Or.inl, fun h => h.elim id (fun ⟨j, j0, j1, _⟩ => by omega)⟩)⟩
  exact ⟨r, e, q⟩
theorem zc_reachOf {S : SC} {g : ZG} (z : ZC S g) (w : ZW g) {c : Int} (h0 : 0 ≤ c ∧ c < g.n) (hcb : g.bI c ≠ -1) : ∃ r, fX0_reachOf S (zq g.m) (zq c) = some r ∧ zqS g.n r (fun y v => g.come c y v) := by
  have a3 := w.n
  have a2 := zq_pm w
  obtain ⟨r, e, q⟩ := zq_forP (b := fX0_reachOf_b5 S (zq g.m) (zq c)) (s := ((0 : Int64), 0)) (fun i s => s.2 = zq i ∧ zqS g.n s.1 (fun y v => ∃ j : Int, 0 ≤ j ∧ j < i ∧ zqNb g.R g.C c j = y ∧ g.s1 c (zqNb g.R g.C c j) v)) (fun r => zqS g.n r (fun y v => g.come c y v)) 8 (by omega)
    (by
      rintro i hi ⟨s1, s2⟩ ⟨e, hs⟩
      have hi8 : 0 ≤ (i : Int) ∧ (i : Int) < 8 := by omega
      have e : s2 = zq i := e
      subst e
      refine ⟨(s1 ||| g.bit c (zqNb g.R g.C c i), zq (i + 1)), ?_, rfl, ?_⟩
      · unfold fX0_reachOf_b5
        simp (disch := omega) only [zq_l0, zq_l1, zq_l2, zq_l3, zq_l4, zq_l5, zq_l6, zq_l8, zq_l10, zq_l25, zq_l29, zq_l30, zq_l32, zq_l50, zq_l63, zq_l99, zq_l100, zq_l125, zq_l200, zq_l338, zq_l505, zq_l6000, zq_l10000, zq_l20, zq_bnd, zq_nm, zq_ck, zq_ex, zq_neg, zq_add, zq_sub, zq_mul, zq_div, zq_lt, zq_le, zq_eq, zq_tn, zq_setA_1, zq_setS_2, if_pos, if_neg, zq_if0, zq_if1, ite_true, ite_false, zc_stepOf z w h0 hi8]
      · refine zqS_iff (zqS_or hs (zqS_bit w (zq_nbx w h0 hi8))) ?_
        intro y v y0 y1
        constructor
        · rintro (⟨j, j0, j1, h⟩ | h)
          · exact ⟨j, j0, by omega, h⟩
          · exact ⟨i, by omega, by omega, h⟩
        · rintro ⟨j, j0, j1, h⟩
          by_cases hji : j = i
          · rw [hji] at h; exact Or.inr h
          · exact Or.inl ⟨j, j0, by omega, h⟩)
    (by
      rintro ⟨s1, s2⟩ ⟨e, hs⟩
      have e : s2 = zq (8 : Nat) := e
      subst e
      have hs' : zqS g.n s1 (fun y v => g.s1 c y v) := zqS_iff hs (fun y v y0 y1 => by
        rw [← zq_s1nb (v := v) w h0 ⟨y0, y1⟩]
        exact Iff.rfl)
      obtain ⟨r, e1, e2⟩ := zc_reach46 z w s1 h0 hs'
      by_cases hp : g.pm = 1
      · refine ⟨r, ?_, zqS_iff e2 ?_⟩
        · unfold fX0_reachOf_b5
          rw [zq_l0] at e1
          simp (disch := omega) only [zq_l0, zq_l1, zq_l2, zq_l3, zq_l4, zq_l5, zq_l6, zq_l8, zq_l10, zq_l25, zq_l29, zq_l30, zq_l32, zq_l50, zq_l63, zq_l99, zq_l100, zq_l125, zq_l200, zq_l338, zq_l505, zq_l6000, zq_l10000, zq_l20, zq_bnd, zq_nm, zq_ck, zq_ex, zq_neg, zq_add, zq_sub, zq_mul, zq_div, zq_lt, zq_le, zq_eq, zq_tn, zq_setA_1, zq_setS_2, if_pos, if_neg, zq_if0, zq_if1, ite_true, ite_false, zc_powerOf z w, e1]
        · intro y v y0 y1
          have ent1 : ∀ a b, g.ent a b ↔ g.bI b = -1 := fun a b => by unfold ZG.ent; omega
          unfold ZG.come ZG.s2
          constructor
          · rintro (h | ⟨x, x0, x1, h1, h2⟩)
            · exact ⟨h.1.1.1, Or.inl h⟩
            · have hd := (ent1 _ _).mp h2.2.1
              refine ⟨fun hcd => hcb (by rw [hcd]; exact hd), Or.inr ⟨hp, x, zqRg_mem.mpr ⟨x0, x1⟩, h1.1, (ent1 _ _).mp h1.2.1, of_decide_eq_false h1.2.2, h2.1, hd, h2.2.2⟩⟩
          · rintro ⟨-, h | ⟨-, x, hx, b1, b2, b3, b4, b5, b6⟩⟩
            · exact Or.inl h
            · rw [zqRg_mem] at hx
              exact Or.inr ⟨x, hx.1, hx.2, ⟨b1, (ent1 _ _).mpr b2, decide_eq_false b3⟩, b4, (ent1 _ _).mpr b5, b6⟩
      · refine ⟨s1, ?_, zqS_iff hs' ?_⟩
        · unfold fX0_reachOf_b5
          simp (disch := omega) only [zq_l0, zq_l1, zq_l2, zq_l3, zq_l4, zq_l5, zq_l6, zq_l8, zq_l10, zq_l25, zq_l29, zq_l30, zq_l32, zq_l50, zq_l63, zq_l99, zq_l100, zq_l125, zq_l200, zq_l338, zq_l505, zq_l6000, zq_l10000, zq_l20, zq_bnd, zq_nm, zq_ck, zq_ex, zq_neg, zq_add, zq_sub, zq_mul, zq_div, zq_lt, zq_le, zq_eq, zq_tn, zq_setA_1, zq_setS_2, if_pos, if_neg, zq_if0, zq_if1, ite_true, ite_false, zc_powerOf z w]
        · intro y v y0 y1
          unfold ZG.come ZG.s2
          constructor
          · intro h; exact ⟨h.1.1.1, Or.inl h⟩
          · rintro ⟨-, h | h⟩
            · exact h
            · exact absurd h.1 hp)
    ⟨rfl, zqS_iff zqS_0 (fun y v y0 y1 => ⟨fun h => h.elim, fun ⟨j, j0, j1, _⟩ => by omega⟩)⟩
  exact ⟨r, e, q⟩
/-! the class's lists of turns -/
def Lst (S : SC) (t : Nat) (l : List Int) : Prop := S.1 (8 + t) = zq l.length ∧ ∀ (i : Nat) (h : i < l.length), S.2 (5 + t) i = zq l[i]
/-- nothing but the list t is changed -/
def zqE (t : Nat) (S S' : SC) : Prop := (∀ k, k ≠ 8 + t → S'.1 k = S.1 k) ∧ (∀ k, k ≠ 5 + t → S'.2 k = S.2 k)
theorem zqE.rf {t : Nat} {S : SC} : zqE t S S := ⟨fun _ _ => rfl, fun _ _ => rfl⟩
theorem zqE.tr {t : Nat} {S S' S'' : SC} (a : zqE t S S') (b : zqE t S' S'') : zqE t S S'' := ⟨fun k h => (b.1 k h).trans (a.1 k h), fun k h => (b.2 k h).trans (a.2 k h)⟩
theorem zqE.c {t : Nat} {S S' : SC} {g : ZG} (e : zqE t S S') (z : ZC S g) : ZC S' g :=
  ⟨by rw [e.1 0 (by omega)]; exact z.n, by rw [e.1 1 (by omega)]; exact z.B, by rw [e.1 2 (by omega)]; exact z.p0, by rw [e.1 3 (by omega)]; exact z.p1, by rw [e.1 7 (by omega)]; exact z.b,
   by rw [e.2 1 (by omega)]; exact z.h, by rw [e.2 2 (by omega)]; exact z.o, by rw [e.2 3 (by omega)]; exact z.a, by rw [e.2 0 (by omega)]; exact z.nb⟩
theorem Lst.ne {t u : Nat} {S S' : SC} {l : List Int} (e : zqE t S S') (h : u ≠ t) (a : Lst S u l) : Lst S' u l :=
  ⟨by rw [e.1 (8 + u) (by omega)]; exact a.1, by rw [e.2 (5 + u) (by omega)]; exact a.2⟩
theorem zl_clear (S : SC) (t : Nat) : ∃ S', fX2_clear S t = some S' ∧ Lst S' t [] ∧ zqE t S S' := by
  refine ⟨_, rfl, ⟨zq_setS_same _ _ _, fun i h => absurd h (by simp)⟩, fun k hk => zq_setS_other _ _ _ _ hk, fun k hk => rfl⟩
theorem zl_add {S : SC} {t : Nat} {l : List Int} (a : Lst S t l) (hl : l.length < 338) (x : Int) : ∃ S', fX2_add S t (zq x) = some S' ∧ Lst S' t (l ++ [x]) ∧ zqE t S S' := by
  refine ⟨setS (setA S (5 + t) (zq l.length) (zq x)) (8 + t) (zq l.length + 1), ?_, ⟨?_, ?_⟩, ?_, ?_⟩
  · unfold fX2_add
    rw [a.1]
    simp (disch := omega) only [zq_l0, zq_l1, zq_l2, zq_l3, zq_l4, zq_l5, zq_l6, zq_l8, zq_l10, zq_l25, zq_l29, zq_l30, zq_l32, zq_l50, zq_l63, zq_l99, zq_l100, zq_l125, zq_l200, zq_l338, zq_l505, zq_l6000, zq_l10000, zq_l20, zq_bnd, zq_nm, zq_ck, zq_ex, zq_neg, zq_add, zq_sub, zq_mul, zq_div, zq_lt, zq_le, zq_eq, zq_tn, zq_setA_1, zq_setS_2, if_pos, if_neg, zq_if0, zq_if1, ite_true, ite_false]
    rw [a.1]
    simp (disch := omega) only [zq_l0, zq_l1, zq_l2, zq_l3, zq_l4, zq_l5, zq_l6, zq_l8, zq_l10, zq_l25, zq_l29, zq_l30, zq_l32, zq_l50, zq_l63, zq_l99, zq_l100, zq_l125, zq_l200, zq_l338, zq_l505, zq_l6000, zq_l10000, zq_l20, zq_bnd, zq_nm, zq_ck, zq_ex, zq_neg, zq_add, zq_sub, zq_mul, zq_div, zq_lt, zq_le, zq_eq, zq_tn, zq_setA_1, zq_setS_2, if_pos, if_neg, zq_if0, zq_if1, ite_true, ite_false]
  · rw [zq_setS_same, List.length_append]
    simp (disch := omega) only [zq_l0, zq_l1, zq_l2, zq_l3, zq_l4, zq_l5, zq_l6, zq_l8, zq_l10, zq_l25, zq_l29, zq_l30, zq_l32, zq_l50, zq_l63, zq_l99, zq_l100, zq_l125, zq_l200, zq_l338, zq_l505, zq_l6000, zq_l10000, zq_l20, zq_bnd, zq_nm, zq_ck, zq_ex, zq_neg, zq_add, zq_sub, zq_mul, zq_div, zq_lt, zq_le, zq_eq, zq_tn, zq_setA_1, zq_setS_2, if_pos, if_neg, zq_if0, zq_if1, ite_true, ite_false]
    simp
  · intro i h
    rw [zq_setS_2, zq_setA_at, zq_tn (by omega)]
    by_cases hi : i = l.length
    · rw [if_pos (by omega)]
      subst hi
      simp
    · rw [if_neg (by omega)]
      have hi2 : i < l.length := by simp at h; omega
      rw [a.2 i hi2, List.getElem_append_left hi2]
  · intro k hk
    rw [zq_setS_other _ _ _ _ hk, zq_setA_1]
  · intro k hk
    rw [zq_setS_2, zq_setA_other _ _ _ _ _ hk]
theorem zl_at {S : SC} {t : Nat} {l : List Int} (a : Lst S t l) (hl : l.length ≤ 338) {i : Nat} (h : i < l.length) : fX2_at S t (zq i) = some (zq l[i]) := by
  unfold fX2_at
  have e : S.2 (5 + t) ((i : Int)).toNat = zq l[i] := a.2 i h
  simp (disch := omega) only [zq_l0, zq_l1, zq_l2, zq_l3, zq_l4, zq_l5, zq_l6, zq_l8, zq_l10, zq_l25, zq_l29, zq_l30, zq_l32, zq_l50, zq_l63, zq_l99, zq_l100, zq_l125, zq_l200, zq_l338, zq_l505, zq_l6000, zq_l10000, zq_l20, zq_bnd, zq_nm, zq_ck, zq_ex, zq_neg, zq_add, zq_sub, zq_mul, zq_div, zq_lt, zq_le, zq_eq, zq_tn, zq_setA_1, zq_setS_2, if_pos, if_neg, zq_if0, zq_if1, ite_true, ite_false, e]
theorem zqRg_succ (i : Nat) : zqRg ((i : Int) + 1) = zqRg i ++ [(i : Int)] := by
  unfold zqRg
  rw [show ((i : Int) + 1).toNat = i + 1 by omega, show ((i : Int)).toNat = i by omega, List.range_succ, List.map_append]
  rfl
theorem zqRg_sub {a b : Int} (h : a ≤ b) : (zqRg a).Sublist (zqRg b) := by
  unfold zqRg
  exact (List.range_sublist.mpr (by omega)).map _
/-- a loop over the directions that adds to the list -/
theorem zl_dirs {t : Nat} {S0 : SC} {l : List Int} {b : (Int32 × SC) → Option ((Int32 × SC) ⊕ SC)} (nb : Int → Int) (p : Int → Bool) (f : Int → Int) (R : SC → Prop)
    (hl : Lst S0 t l) (hcap : l.length + ((((zqRg 8).map nb).filter p).map f).length ≤ 338)
    (hb : ∀ (i : Nat) (S : SC), i < 8 → zqE t S0 S → b (zq i, S) = if p (nb i) then bnd (fX2_add S t (zq (f (nb i)))) (fun S1 => some (.inl (zq (i + 1), S1))) else some (.inl (zq (i + 1), S)))
    (he : ∀ S, zqE t S0 S → Lst S t (l ++ (((zqRg 8).map nb).filter p).map f) → ∃ r, b (zq 8, S) = some (.inr r) ∧ R r) :
    ∃ r, loop b FUEL (0, S0) = some r ∧ R r := by
  refine zq_forP (fun i s => s.1 = zq i ∧ zqE t S0 s.2 ∧ Lst s.2 t (l ++ (((zqRg i).map nb).filter p).map f)) R 8 (by omega) ?_ ?_ ?_
  · rintro i hi ⟨s1, S⟩ ⟨e, hE, hS⟩
    have e : s1 = zq i := e
    subst e
    have hE : zqE t S0 S := hE
    have hS : Lst S t (l ++ (((zqRg i).map nb).filter p).map f) := hS
    rw [hb i S hi hE]
    have es : ((((zqRg ((i : Int) + 1)).map nb).filter p).map f) = (((zqRg i).map nb).filter p).map f ++ (if p (nb i) then [f (nb i)] else []) := by
      rw [zqRg_succ, List.map_append, List.filter_append, List.map_append]
      by_cases hp : p (nb i) = true
      · simp [hp]
      · simp [hp]
    by_cases hp : p (nb i) = true
    · rw [if_pos hp]
      have hlen : (l ++ (((zqRg i).map nb).filter p).map f).length < 338 := by
        have h1 : ((((zqRg ((i : Int) + 1)).map nb).filter p).map f).length ≤ ((((zqRg 8).map nb).filter p).map f).length := ((((zqRg_sub (by omega)).map nb).filter p).map f).length_le
        rw [es, if_pos hp] at h1
        simp only [List.length_append, List.length_singleton] at h1 ⊢
        omega
      obtain ⟨S', a1, a2, a3⟩ := zl_add hS hlen (f (nb i))
      rw [a1, zq_bnd]
      refine ⟨_, rfl, rfl, hE.tr a3, ?_⟩
      rw [List.append_assoc] at a2
      have es' := es
      rw [if_pos hp] at es'
      show Lst S' t (l ++ ((((zqRg ((i + 1 : Nat) : Int)).map nb).filter p).map f))
      rw [show ((i + 1 : Nat) : Int) = (i : Int) + 1 by omega, es']
      exact a2
    · rw [if_neg hp]
      refine ⟨_, rfl, rfl, hE, ?_⟩
      have es' := es
      rw [if_neg hp, List.append_nil] at es'
      show Lst S t (l ++ ((((zqRg ((i + 1 : Nat) : Int)).map nb).filter p).map f))
      rw [show ((i + 1 : Nat) : Int) = (i : Int) + 1 by omega, es']
      exact hS
  · rintro ⟨s1, S⟩ ⟨e, hE, hS⟩
    have e : s1 = zq 8 := e
    subst e
    exact he S hE hS
  · refine ⟨rfl, zqE.rf, ?_⟩
    show Lst S0 t (l ++ (((zqRg ((0 : Nat) : Int)).map nb).filter p).map f)
    have : zqRg ((0 : Nat) : Int) = [] := rfl
    rw [this]
    simpa using hl
/-- the buildings behind a step -/
def ZG.bl (g : ZG) (c d b0 : Int) : List Int := ((zqRg g.n).filter fun e => g.fre c d e).map (fun e => b0 + e) ++ (if g.pm = 6 then ((zqRg g.n).filter fun e => g.fre c d e ∧ g.h e < 3).map (fun e => b0 + 50 + e) else [])
theorem zq_fil {g : ZG} (w : ZW g) {d : Int} (h1 : 0 ≤ d ∧ d < g.n) (p : Int → Bool) (hp : ∀ e, p e = true → zqAdj g.C d e) : ((zqRg 8).map (zqNb g.R g.C d)).filter (fun e => decide (e ≠ -1) && p e) = (zqRg g.n).filter p := by
  have h := zq_nbl w.R w.C (show 0 ≤ d ∧ d < g.R * g.C from h1)
  have h2 := congrArg (List.filter p) h
  rw [List.filter_filter, List.filter_filter] at h2
  have e1 : (fun e => decide (e ≠ -1) && p e) = (fun a => p a && decide (a ≠ -1)) := by funext e; rw [Bool.and_comm]
  rw [e1, h2]
  show (zqRg g.n).filter _ = _
  congr 1
  funext e
  by_cases hpe : p e = true
  · simp [hpe, hp e hpe]
  · simp [hpe]
theorem zl_listBuildings {S : SC} {g : ZG} {t : Nat} {l : List Int} (z : ZC S g) (w : ZW g) (hm : S.1 5 - S.1 5 / 2 * 2 = zq g.m) (hl : Lst S t l) {c d b0 : Int} (h0 : 0 ≤ c ∧ c < g.n) (hc : g.h c < 4) (h1 : 0 ≤ d ∧ d < g.n) (hok : g.ok c d) (hb : 0 ≤ b0 ∧ b0 < 100000) (hcap : l.length + (g.bl c d b0).length ≤ 338) : ∃ S', fX0_listBuildings S t (zq b0) (zq c) (zq d) = some S' ∧ Lst S' t (l ++ g.bl c d b0) ∧ zqE t S S' := by
  have a3 := w.n
  have a2 := zq_pm w
  have ax : -100 ≤ g.asd c d ∧ g.asd c d < 100 := by unfold ZG.asd; split <;> (try split) <;> omega
  unfold fX0_listBuildings
  rw [hm, zq_nm, zc_asideOf z w ⟨h0.1, by omega⟩ ⟨h1.1, by omega⟩, zq_bnd]
  have key : ∀ j : Int, 0 ≤ j → j < 8 → ((zqNb g.R g.C d j ≠ g.asd c d ∧ (zqNb g.R g.C d j = c ∨ (zqNb g.R g.C d j ≠ -1 ∧ g.opn (zqNb g.R g.C d j)))) ↔ (zqNb g.R g.C d j ≠ -1 ∧ g.fre c d (zqNb g.R g.C d j))) := by
    intro j j0 j8
    rcases zq_nb w.R w.C (show 0 ≤ d ∧ d < g.R * g.C from h1) ⟨j0, j8⟩ with q | q
    · rw [q]
      constructor
      · rintro ⟨-, q | q⟩
        · omega
        · exact absurd rfl q.1
      · rintro ⟨q, -⟩; exact absurd rfl q
    · have he : 0 ≤ zqNb g.R g.C d j ∧ zqNb g.R g.C d j < g.n := ⟨q.1, q.2.1⟩
      rw [zq_fre w h0 hc h1 he q.2.2.1 hok]
      exact ⟨fun h => ⟨by omega, h⟩, fun h => h.2⟩
  have f1 := zq_fil w h1 (fun e => decide (g.fre c d e)) (fun e he => (of_decide_eq_true he).1)
  have f2 := zq_fil w h1 (fun e => decide (g.fre c d e ∧ g.h e < 3)) (fun e he => (of_decide_eq_true he).1.1)
  refine zl_dirs (t := t) (S0 := S) (l := l) (zqNb g.R g.C d) (fun e => decide (e ≠ -1) && decide (g.fre c d e)) (fun e => b0 + e) (fun S' => Lst S' t (l ++ g.bl c d b0) ∧ zqE t S S') hl ?_ ?_ ?_
  · rw [f1]
    unfold ZG.bl at hcap
    rw [List.length_append] at hcap
    omega
  · intro i S1 hi hE
    have z1 := hE.c z
    have hi8 : 0 ≤ (i : Int) ∧ (i : Int) < 8 := by omega
    have hnbr : -1 ≤ zqNb g.R g.C d i ∧ zqNb g.R g.C d i < 25 := by
      rcases zq_nbx w h1 hi8 with q | q <;> omega
    unfold fX0_listBuildings_b22 fX0_listBuildings_j59
    simp (disch := omega) only [zq_l0, zq_l1, zq_l2, zq_l3, zq_l4, zq_l5, zq_l6, zq_l8, zq_l10, zq_l25, zq_l29, zq_l30, zq_l32, zq_l50, zq_l63, zq_l99, zq_l100, zq_l125, zq_l200, zq_l338, zq_l505, zq_l6000, zq_l10000, zq_l20, zq_bnd, zq_nm, zq_ck, zq_ex, zq_neg, zq_add, zq_sub, zq_mul, zq_div, zq_lt, zq_le, zq_eq, zq_tn, zq_setA_1, zq_setS_2, if_pos, if_neg, zq_if0, zq_if1, ite_true, ite_false, zc_nbOf z1 w h1 hi8, zc_isOpenBehind z1 w (show 0 ≤ c ∧ c < 25 by omega) ax hnbr, key i hi8.1 hi8.2]
    by_cases hg : zqNb g.R g.C d i ≠ -1 ∧ g.fre c d (zqNb g.R g.C d i)
    · rw [if_pos hg, if_pos (by rw [Bool.and_eq_true]; exact ⟨decide_eq_true hg.1, decide_eq_true hg.2⟩)]
    · rw [if_neg hg, if_neg (by rw [Bool.and_eq_true]; exact fun q => hg ⟨of_decide_eq_true q.1, of_decide_eq_true q.2⟩)]
  · intro S1 hE hS
    have z1 := hE.c z
    rw [f1] at hS
    unfold fX0_listBuildings_b22
    simp (disch := omega) only [zq_l0, zq_l1, zq_l2, zq_l3, zq_l4, zq_l5, zq_l6, zq_l8, zq_l10, zq_l25, zq_l29, zq_l30, zq_l32, zq_l50, zq_l63, zq_l99, zq_l100, zq_l125, zq_l200, zq_l338, zq_l505, zq_l6000, zq_l10000, zq_l20, zq_bnd, zq_nm, zq_ck, zq_ex, zq_neg, zq_add, zq_sub, zq_mul, zq_div, zq_lt, zq_le, zq_eq, zq_tn, zq_setA_1, zq_setS_2, if_pos, if_neg, zq_if0, zq_if1, ite_true, ite_false, zc_powerOf z1 w]
    by_cases h6 : g.pm = 6
    · rw [if_pos h6]
      obtain ⟨r, e, q1, q2⟩ := zl_dirs (t := t) (S0 := S1) (b := fX0_listBuildings_b80 t (zq b0) (zq c) (zq d) (zq (g.asd c d))) (zqNb g.R g.C d) (fun e => decide (e ≠ -1) && decide (g.fre c d e ∧ g.h e < 3)) (fun e => b0 + 50 + e) (fun S' => Lst S' t (l ++ g.bl c d b0) ∧ zqE t S S') hS (by
          rw [f2, List.length_append]
          unfold ZG.bl at hcap
          rw [if_pos h6, List.length_append] at hcap
          omega) (by
          intro i S2 hi hE2
          have z2 := hE2.c z1
          have hi8 : 0 ≤ (i : Int) ∧ (i : Int) < 8 := by omega
          have hnbr : -1 ≤ zqNb g.R g.C d i ∧ zqNb g.R g.C d i < 25 := by
            rcases zq_nbx w h1 hi8 with q | q <;> omega
          unfold fX0_listBuildings_b80 fX0_listBuildings_j130
          simp (disch := omega) only [zq_l0, zq_l1, zq_l2, zq_l3, zq_l4, zq_l5, zq_l6, zq_l8, zq_l10, zq_l25, zq_l29, zq_l30, zq_l32, zq_l50, zq_l63, zq_l99, zq_l100, zq_l125, zq_l200, zq_l338, zq_l505, zq_l6000, zq_l10000, zq_l20, zq_bnd, zq_nm, zq_ck, zq_ex, zq_neg, zq_add, zq_sub, zq_mul, zq_div, zq_lt, zq_le, zq_eq, zq_tn, zq_setA_1, zq_setS_2, if_pos, if_neg, zq_if0, zq_if1, ite_true, ite_false, zc_nbOf z2 w h1 hi8, zc_isOpenBehind z2 w (show 0 ≤ c ∧ c < 25 by omega) ax hnbr, key i hi8.1 hi8.2]
          by_cases hg : zqNb g.R g.C d i ≠ -1 ∧ g.fre c d (zqNb g.R g.C d i)
          · rw [if_pos hg]
            have hh := w.h (zqNb g.R g.C d i) (by omega) (by omega)
            simp (disch := omega) only [zq_l0, zq_l1, zq_l2, zq_l3, zq_l4, zq_l5, zq_l6, zq_l8, zq_l10, zq_l25, zq_l29, zq_l30, zq_l32, zq_l50, zq_l63, zq_l99, zq_l100, zq_l125, zq_l200, zq_l338, zq_l505, zq_l6000, zq_l10000, zq_l20, zq_bnd, zq_nm, zq_ck, zq_ex, zq_neg, zq_add, zq_sub, zq_mul, zq_div, zq_lt, zq_le, zq_eq, zq_tn, zq_setA_1, zq_setS_2, if_pos, if_neg, zq_if0, zq_if1, ite_true, ite_false, zc_storeysOf z2 (show 0 ≤ zqNb g.R g.C d i by omega) (show zqNb g.R g.C d i < 25 by omega)]
            by_cases h3 : 3 ≤ g.h (zqNb g.R g.C d i)
            · have hn : ¬ (decide (zqNb g.R g.C d i ≠ -1) && decide (g.fre c d (zqNb g.R g.C d i) ∧ g.h (zqNb g.R g.C d i) < 3)) = true := by
                simp only [Bool.and_eq_true, decide_eq_true_eq]; omega
              rw [if_pos h3, if_neg hn]
            · have hp : (decide (zqNb g.R g.C d i ≠ -1) && decide (g.fre c d (zqNb g.R g.C d i) ∧ g.h (zqNb g.R g.C d i) < 3)) = true := by
                simp only [Bool.and_eq_true, decide_eq_true_eq]; exact ⟨hg.1, hg.2, by omega⟩
              rw [if_neg h3, if_pos hp]
          · have hn : ¬ (decide (zqNb g.R g.C d i ≠ -1) && decide (g.fre c d (zqNb g.R g.C d i) ∧ g.h (zqNb g.R g.C d i) < 3)) = true := by
              simp only [Bool.and_eq_true, decide_eq_true_eq]; exact fun q => hg ⟨q.1, q.2.1⟩
            rw [if_neg hg, if_neg hn]) (by
          intro S2 hE2 hS2
          refine ⟨S2, ?_, ?_, hE.tr hE2⟩
          · unfold fX0_listBuildings_b80
            simp (disch := omega) only [zq_l0, zq_l1, zq_l2, zq_l3, zq_l4, zq_l5, zq_l6, zq_l8, zq_l10, zq_l25, zq_l29, zq_l30, zq_l32, zq_l50, zq_l63, zq_l99, zq_l100, zq_l125, zq_l200, zq_l338, zq_l505, zq_l6000, zq_l10000, zq_l20, zq_bnd, zq_nm, zq_ck, zq_ex, zq_neg, zq_add, zq_sub, zq_mul, zq_div, zq_lt, zq_le, zq_eq, zq_tn, zq_setA_1, zq_setS_2, if_pos, if_neg, zq_if0, zq_if1, ite_true, ite_false]
          · rw [f2, List.append_assoc] at hS2
            unfold ZG.bl
            rw [if_pos h6]
            exact hS2)
      rw [zq_l0] at e
      rw [e]
      exact ⟨_, rfl, q1, q2⟩
    · rw [if_neg h6]
      refine ⟨S1, rfl, ?_, hE⟩
      unfold ZG.bl
      rw [if_neg h6, List.append_nil]
      exact hS
theorem zqRg_split {i n : Int} (h0 : 0 ≤ i) (h : i ≤ n) : ∃ r, zqRg n = zqRg i ++ r := by
  unfold zqRg
  refine ⟨((List.range (n.toNat - i.toNat)).map (i.toNat + ·)).map Int.ofNat, ?_⟩
  rw [← List.map_append, ← List.range_add]
  congr 2
  omega
theorem zq_pre {i n : Int} (f : Int → List Int) (h0 : 0 ≤ i) (h : i ≤ n) : ((zqRg i).flatMap f).length ≤ ((zqRg n).flatMap f).length := by
  obtain ⟨r, e⟩ := zqRg_split h0 h
  rw [e, List.flatMap_append, List.length_append]; omega
theorem zq_blkE {g : ZG} {k d : Int} : g.blk k d = (if g.come (g.a (2 * g.m + k)) d false then g.bl (g.a (2 * g.m + k)) d (10000 * k + 100 * d) else []) ++ (if g.come (g.a (2 * g.m + k)) d true then [10000 * k + 100 * d + 99] else []) := rfl
theorem zq_mask {n : Int} {M : Int64} {F : Int → Bool → Prop} (h : zqS n M F) (hn : n ≤ 25) {y : Int} (h0 : 0 ≤ y) (h1 : y < n) (v : Bool) : (lg_cmp ((M >>> ((zq (zqI y v)).toInt64 &&& 63)) &&& 1) 0 = zq 0) = ¬ F y v := by
  have hr : 0 ≤ zqI y v ∧ zqI y v < 57 := by unfold zqI; split <;> omega
  have tt := zqT_test (M := M) hr
  rw [zq_l0] at tt
  rw [tt]
  have := h y v h0 h1
  apply propext
  constructor
  · intro q f
    rw [this.mpr f] at q; cases q
  · intro q
    cases hh : zqT M (zqI y v).toNat with
    | true => exact absurd (this.mp hh) q
    | false => rfl
theorem zl_turns50 {S0 : SC} {g : ZG} {t : Nat} {l : List Int} (z : ZC S0 g) (w : ZW g) (hp : ZP g) (hm : S0.1 5 - S0.1 5 / 2 * 2 = zq g.m) (hl : Lst S0 t l) {k : Int} (hk : 0 ≤ k ∧ k < g.B) {M : Int64} (hM : zqS g.n M (fun y v => g.come (g.a (2 * g.m + k)) y v)) (hcap : l.length + ((zqRg g.n).flatMap (g.blk k)).length ≤ 338) :
    ∃ S', loop (fX0_listTurns_b50 t (zq g.m) (zq k) (zq (g.a (2 * g.m + k))) M) FUEL (0, S0) = some (.inl (zq (k + 1), S')) ∧ Lst S' t (l ++ (zqRg g.n).flatMap (g.blk k)) ∧ zqE t S0 S' := by
  have a3 := w.n
  have hB := w.B
  obtain ⟨i0, i4, c0, c1, c2, c3⟩ := zq_spot w hp hk
  obtain ⟨r, e, S', q1, q2, q3⟩ := zq_forP (b := fX0_listTurns_b50 t (zq g.m) (zq k) (zq (g.a (2 * g.m + k))) M) (s := (0, S0)) (fun i s => s.1 = zq i ∧ zqE t S0 s.2 ∧ Lst s.2 t (l ++ (zqRg i).flatMap (g.blk k))) (fun r => ∃ S', r = .inl (zq (k + 1), S') ∧ Lst S' t (l ++ (zqRg g.n).flatMap (g.blk k)) ∧ zqE t S0 S') g.n.toNat (by omega)
    (by
      rintro i hi ⟨s1, S⟩ ⟨e, hE, hS⟩
      have e : s1 = zq i := e
      subst e
      have hE : zqE t S0 S := hE
      have hS : Lst S t (l ++ (zqRg i).flatMap (g.blk k)) := hS
      have hi8 : 0 ≤ (i : Int) ∧ (i : Int) < g.n := by omega
      have es : (zqRg ((i + 1 : Nat) : Int)).flatMap (g.blk k) = (zqRg i).flatMap (g.blk k) ++ g.blk k i := by
        rw [show ((i + 1 : Nat) : Int) = (i : Int) + 1 by omega, zqRg_succ, List.flatMap_append]
        simp
      have hpre := zq_pre (i := ((i + 1 : Nat) : Int)) (n := g.n) (g.blk k) (by omega) (by omega)
      rw [es, List.length_append, zq_blkE, List.length_append] at hpre
      have z1 := hE.c z
      have hm1 : S.1 5 - S.1 5 / 2 * 2 = zq g.m := by rw [hE.1 5 (by omega)]; exact hm
      have m1 := zq_mask hM (by omega) hi8.1 hi8.2 false
      have m2 := zq_mask hM (by omega) hi8.1 hi8.2 true
      have x1 : zqI (i : Int) false = i := by simp [zqI]
      have x2 : zqI (i : Int) true = (i : Int) + 32 := by simp [zqI]
      rw [x1] at m1
      rw [x2] at m2
      -- the second half: a winning step
      have half : ∀ (S1 : SC) (l1 : List Int), zqE t S0 S1 → Lst S1 t l1 → l1.length + (if g.come (g.a (2 * g.m + k)) i true then [10000 * k + 100 * (i : Int) + 99] else []).length ≤ 338 →
          ∃ S2, fX0_listTurns_j95 t (zq g.m) (zq k) (zq (g.a (2 * g.m + k))) M (zq i) (zq (10000 * k + 100 * i)) S1 = some (.inl (zq (i + 1), S2)) ∧ zqE t S0 S2 ∧ Lst S2 t (l1 ++ (if g.come (g.a (2 * g.m + k)) i true then [10000 * k + 100 * (i : Int) + 99] else [])) := by
        intro S1 l1 hE1 hS1 hc1
        unfold fX0_listTurns_j95 fX0_listTurns_j119
        simp (disch := omega) only [zq_l0, zq_l1, zq_l2, zq_l3, zq_l4, zq_l5, zq_l6, zq_l8, zq_l10, zq_l25, zq_l29, zq_l30, zq_l32, zq_l50, zq_l63, zq_l99, zq_l100, zq_l125, zq_l200, zq_l338, zq_l505, zq_l6000, zq_l10000, zq_l20, zq_bnd, zq_nm, zq_ck, zq_ex, zq_neg, zq_add, zq_sub, zq_mul, zq_div, zq_lt, zq_le, zq_eq, zq_tn, zq_setA_1, zq_setS_2, if_pos, if_neg, zq_if0, zq_if1, ite_true, ite_false]
        by_cases hw : g.come (g.a (2 * g.m + k)) i true
        · have hn : ¬ lg_cmp ((M >>> ((zq ((i : Int) + 32)).toInt64 &&& 63)) &&& 1) 0 = zq 0 := by rw [m2]; exact fun q => q hw
          rw [if_pos hw] at hc1 ⊢
          obtain ⟨S2, e1, e2, e3⟩ := zl_add hS1 (by simp at hc1; omega) (10000 * k + 100 * (i : Int) + 99)
          rw [if_neg hn, e1]
          exact ⟨S2, rfl, hE1.tr e3, e2⟩
        · have hp : lg_cmp ((M >>> ((zq ((i : Int) + 32)).toInt64 &&& 63)) &&& 1) 0 = zq 0 := by rw [m2]; exact hw
          rw [if_pos hp, if_neg hw, List.append_nil]
          exact ⟨S1, rfl, hE1, hS1⟩
      unfold fX0_listTurns_b50
      simp (disch := omega) only [zq_l0, zq_l1, zq_l2, zq_l3, zq_l4, zq_l5, zq_l6, zq_l8, zq_l10, zq_l25, zq_l29, zq_l30, zq_l32, zq_l50, zq_l63, zq_l99, zq_l100, zq_l125, zq_l200, zq_l338, zq_l505, zq_l6000, zq_l10000, zq_l20, zq_bnd, zq_nm, zq_ck, zq_ex, zq_neg, zq_add, zq_sub, zq_mul, zq_div, zq_lt, zq_le, zq_eq, zq_tn, zq_setA_1, zq_setS_2, if_pos, if_neg, zq_if0, zq_if1, ite_true, ite_false, z1.n]
      by_cases hc : g.come (g.a (2 * g.m + k)) i false
      · have hn : ¬ lg_cmp ((M >>> ((zq (i : Int)).toInt64 &&& 63)) &&& 1) 0 = zq 0 := by rw [m1]; exact fun q => q hc
        rw [if_neg hn]
        rw [if_pos hc] at hpre
        have hok : g.ok (g.a (2 * g.m + k)) i := by
          rcases hc.2 with q | q
          · exact zq_ok w ⟨c0, c1⟩ hi8 q.1.1 q.2.1
          · obtain ⟨-, x, -, -, -, -, -, q, -⟩ := q
            exact Or.inl q
        obtain ⟨S1, e1, e2, e3⟩ := zl_listBuildings z1 w hm1 hS ⟨c0, c1⟩ c2 hi8 hok (b0 := 10000 * k + 100 * i) (by omega) (by rw [List.length_append]; omega)
        rw [e1, zq_bnd]
        obtain ⟨S2, f1, f2, f3⟩ := half S1 _ (hE.tr e3) e2 (by rw [List.length_append, List.length_append]; omega)
        refine ⟨_, f1, rfl, f2, ?_⟩
        rw [es, zq_blkE, if_pos hc, ← List.append_assoc, ← List.append_assoc]
        exact f3
      · have hpz : lg_cmp ((M >>> ((zq (i : Int)).toInt64 &&& 63)) &&& 1) 0 = zq 0 := by rw [m1]; exact hc
        rw [if_pos hpz]
        rw [if_neg hc] at hpre
        obtain ⟨S2, f1, f2, f3⟩ := half S _ hE hS (by rw [List.length_append]; simp only [List.length_nil] at hpre; omega)
        refine ⟨_, f1, rfl, f2, ?_⟩
        rw [es, zq_blkE, if_neg hc, List.nil_append, ← List.append_assoc]
        exact f3)
    (by
      rintro ⟨s1, S⟩ ⟨e, hE, hS⟩
      have e : s1 = zq (g.n.toNat : Nat) := e
      subst e
      have hE : zqE t S0 S := hE
      have hS : Lst S t (l ++ (zqRg (g.n.toNat : Nat)).flatMap (g.blk k)) := hS
      rw [show ((g.n.toNat : Nat) : Int) = g.n by omega] at hS
      refine ⟨.inl (zq (k + 1), S), ?_, S, rfl, hS, hE⟩
      unfold fX0_listTurns_b50
      simp (disch := omega) only [zq_l0, zq_l1, zq_l2, zq_l3, zq_l4, zq_l5, zq_l6, zq_l8, zq_l10, zq_l25, zq_l29, zq_l30, zq_l32, zq_l50, zq_l63, zq_l99, zq_l100, zq_l125, zq_l200, zq_l338, zq_l505, zq_l6000, zq_l10000, zq_l20, zq_bnd, zq_nm, zq_ck, zq_ex, zq_neg, zq_add, zq_sub, zq_mul, zq_div, zq_lt, zq_le, zq_eq, zq_tn, zq_setA_1, zq_setS_2, if_pos, if_neg, zq_if0, zq_if1, ite_true, ite_false, (hE.c z).n])
    ⟨rfl, zqE.rf, by
      have : zqRg ((0 : Nat) : Int) = [] := rfl
      rw [this]; simpa using hl⟩
  exact ⟨S', by rw [e, q1], q2, q3⟩
theorem zl_listTurns {S : SC} {g : ZG} {t : Nat} (z : ZC S g) (w : ZW g) (hp : ZP g) (hm : S.1 5 - S.1 5 / 2 * 2 = zq g.m) (hv : S.1 6 = zq (-1)) (hcap : g.trs.length ≤ 338) : ∃ S', fX0_listTurns S t = some S' ∧ Lst S' t g.trs ∧ zqE t S S' := by
  have a3 := w.n
  have hB := w.B
  obtain ⟨S0, e0, l0, E0⟩ := zl_clear S t
  unfold fX0_listTurns
  rw [e0, zq_bnd, E0.1 6 (by omega), hv, if_pos (show zq (-1) = -1 from rfl), E0.1 5 (by omega), hm, zq_nm]
  have hm0 : S0.1 5 - S0.1 5 / 2 * 2 = zq g.m := by rw [E0.1 5 (by omega)]; exact hm
  have z0 := E0.c z
  obtain ⟨r, e, q2, q3⟩ := zq_forP (b := fX0_listTurns_b22 t (zq g.m)) (s := (0, S0)) (fun i s => s.1 = zq i ∧ zqE t S0 s.2 ∧ Lst s.2 t ((zqRg i).flatMap fun k => (zqRg g.n).flatMap (g.blk k))) (fun S' => Lst S' t g.trs ∧ zqE t S0 S') g.B.toNat (by omega)
    (by
      rintro i hi ⟨s1, S⟩ ⟨e, hE, hS⟩
      have e : s1 = zq i := e
      subst e
      have hE : zqE t S0 S := hE
      have hS : Lst S t ((zqRg i).flatMap fun k => (zqRg g.n).flatMap (g.blk k)) := hS
      have hk : 0 ≤ (i : Int) ∧ (i : Int) < g.B := by omega
      obtain ⟨i0, i4, c0, c1, c2, c3⟩ := zq_spot w hp hk
      have es : (zqRg ((i + 1 : Nat) : Int)).flatMap (fun k => (zqRg g.n).flatMap (g.blk k)) = (zqRg i).flatMap (fun k => (zqRg g.n).flatMap (g.blk k)) ++ (zqRg g.n).flatMap (g.blk i) := by
        rw [show ((i + 1 : Nat) : Int) = (i : Int) + 1 by omega, zqRg_succ, List.flatMap_append]
        simp
      have hpre := zq_pre (i := ((i + 1 : Nat) : Int)) (n := g.B) (fun k => (zqRg g.n).flatMap (g.blk k)) (by omega) (by omega)
      rw [es, List.length_append] at hpre
      have hcap' : ((zqRg g.B).flatMap (fun k => (zqRg g.n).flatMap (g.blk k))).length ≤ 338 := hcap
      have z1 := hE.c z0
      obtain ⟨M, hM, hM2⟩ := zc_reachOf z1 w ⟨c0, c1⟩ (show g.bI (g.a (2 * g.m + i)) ≠ -1 by omega)
      obtain ⟨S', f1, f2, f3⟩ := zl_turns50 z1 w hp (by rw [hE.1 5 (by omega)]; exact hm0) hS hk hM2 (by omega)
      refine ⟨(zq ((i : Int) + 1), S'), ?_, rfl, hE.tr f3, ?_⟩
      · unfold fX0_listTurns_b22
        rw [zq_l0] at f1
        simp (disch := omega) only [zq_l0, zq_l1, zq_l2, zq_l3, zq_l4, zq_l5, zq_l6, zq_l8, zq_l10, zq_l25, zq_l29, zq_l30, zq_l32, zq_l50, zq_l63, zq_l99, zq_l100, zq_l125, zq_l200, zq_l338, zq_l505, zq_l6000, zq_l10000, zq_l20, zq_bnd, zq_nm, zq_ck, zq_ex, zq_neg, zq_add, zq_sub, zq_mul, zq_div, zq_lt, zq_le, zq_eq, zq_tn, zq_setA_1, zq_setS_2, if_pos, if_neg, zq_if0, zq_if1, ite_true, ite_false, z1.B, zc_spotOf z1 i0 i4, hM, f1]
      · rw [es]; exact f2)
    (by
      rintro ⟨s1, S⟩ ⟨e, hE, hS⟩
      have e : s1 = zq (g.B.toNat : Nat) := e
      subst e
      have hE : zqE t S0 S := hE
      have hS : Lst S t ((zqRg (g.B.toNat : Nat)).flatMap fun k => (zqRg g.n).flatMap (g.blk k)) := hS
      rw [show ((g.B.toNat : Nat) : Int) = g.B by omega] at hS
      refine ⟨S, ?_, hS, hE⟩
      unfold fX0_listTurns_b22
      simp (disch := omega) only [zq_l0, zq_l1, zq_l2, zq_l3, zq_l4, zq_l5, zq_l6, zq_l8, zq_l10, zq_l25, zq_l29, zq_l30, zq_l32, zq_l50, zq_l63, zq_l99, zq_l100, zq_l125, zq_l200, zq_l338, zq_l505, zq_l6000, zq_l10000, zq_l20, zq_bnd, zq_nm, zq_ck, zq_ex, zq_neg, zq_add, zq_sub, zq_mul, zq_div, zq_lt, zq_le, zq_eq, zq_tn, zq_setA_1, zq_setS_2, if_pos, if_neg, zq_if0, zq_if1, ite_true, ite_false, (hE.c z0).B])
    ⟨rfl, zqE.rf, by
      have : zqRg ((0 : Nat) : Int) = [] := rfl
      rw [this]; exact l0⟩
  exact ⟨r, e, q2, E0.tr q3⟩
theorem zl_listNone {S : SC} {t : Nat} (hv : ¬ S.1 6 = zq (-1)) : ∃ S', fX0_listTurns S t = some S' ∧ Lst S' t [] ∧ zqE t S S' := by
  obtain ⟨S0, e0, l0, E0⟩ := zl_clear S t
  unfold fX0_listTurns
  rw [e0, zq_bnd, E0.1 6 (by omega), if_neg (show ¬ S.1 6 = -1 from hv)]
  exact ⟨S0, rfl, l0, E0⟩
/-! a list of turns has at most 338 -/
def zqDeg (R C d : Int) : Nat := (zqRg (R * C)).countP (fun x => decide (zqAdj C d x))
def zqF4 (R C c : Int) : Bool := decide (c ≠ 0 ∨ ((zqRg (R * C)).map (fun d => zqDeg R C d + 1)).sum ≤ 169)
def zqF5 (R C c : Int) : Bool := decide (((zqRg (R * C)).map (fun d => if zqAdj C c d then 2 * zqDeg R C d + 1 else 0)).sum ≤ 169)
set_option maxHeartbeats 4000000 in
theorem zqF4_ok : zqAll zqF4 = true := by decide +kernel
set_option maxHeartbeats 4000000 in
theorem zqF5_ok : zqAll zqF5 = true := by decide +kernel
theorem zq_flen {f : Int → List Int} {b : Int → Nat} : ∀ (l : List Int), (∀ d ∈ l, (f d).length ≤ b d) → (l.flatMap f).length ≤ (l.map b).sum
  | [], _ => by simp
  | a :: l, h => by
    have h1 := h a (by simp)
    have h2 := zq_flen l (fun d hd => h d (by simp [hd]))
    simp only [List.flatMap_cons, List.length_append, List.map_cons, List.sum_cons]
    omega
theorem zq_fl (g : ZG) (d : Int) (p : Int → Bool) (h : ∀ e, p e = true → zqAdj g.C d e) : ((zqRg g.n).filter p).length ≤ zqDeg g.R g.C d := by
  rw [← List.countP_eq_length_filter]
  exact List.countP_mono_left (fun x _ hx => decide_eq_true (h x hx))
theorem zq_row {g : ZG} (w : ZW g) (hp : ZP g) {k : Int} (hk : 0 ≤ k ∧ k < g.B) : ((zqRg g.n).flatMap (g.blk k)).length ≤ 169 := by
  have hn := w.n
  obtain ⟨i0, i4, c0, c1, c2, c3⟩ := zq_spot w hp hk
  by_cases h6 : g.pm = 6
  · have h := zqAll_get zqF5_ok w.R w.C (c := g.a (2 * g.m + k)) ⟨c0, c1⟩
    refine Nat.le_trans (zq_flen (b := fun d => if zqAdj g.C (g.a (2 * g.m + k)) d then 2 * zqDeg g.R g.C d + 1 else 0) _ ?_) (of_decide_eq_true h)
    intro d hd
    have l1 := zq_fl g d (fun e => decide (g.fre (g.a (2 * g.m + k)) d e)) (fun e he => (of_decide_eq_true he).1)
    have l2 := zq_fl g d (fun e => decide (g.fre (g.a (2 * g.m + k)) d e ∧ g.h e < 3)) (fun e he => (of_decide_eq_true he).1.1)
    rw [zq_blkE]
    unfold ZG.bl
    have hadj : ∀ v, g.come (g.a (2 * g.m + k)) d v → zqAdj g.C (g.a (2 * g.m + k)) d := by
      rintro v ⟨-, q | q⟩
      · exact q.1.1
      · exact absurd q.1 (by omega)
    by_cases ha : zqAdj g.C (g.a (2 * g.m + k)) d
    · rw [if_pos ha, if_pos h6]
      rw [List.length_append]
      have e1 : (if g.come (g.a (2 * g.m + k)) d true then [10000 * k + 100 * d + 99] else []).length ≤ 1 := by split <;> simp
      have e2 : (if g.come (g.a (2 * g.m + k)) d false then ((zqRg g.n).filter fun e => decide (g.fre (g.a (2 * g.m + k)) d e)).map (fun e => 10000 * k + 100 * d + e) ++ ((zqRg g.n).filter fun e => decide (g.fre (g.a (2 * g.m + k)) d e ∧ g.h e < 3)).map (fun e => 10000 * k + 100 * d + 50 + e) else []).length ≤ 2 * zqDeg g.R g.C d := by
        split
        · simp only [List.length_append, List.length_map]; omega
        · simp
      omega
    · rw [if_neg ha, if_neg (fun q => ha (hadj _ q)), if_neg (fun q => ha (hadj _ q))]
      simp
  · have h := zqAll_get zqF4_ok w.R w.C (c := 0) ⟨by omega, by have : g.n = g.R * g.C := rfl; omega⟩
    have h := (of_decide_eq_true h).resolve_left (by omega)
    refine Nat.le_trans (zq_flen (b := fun d => zqDeg g.R g.C d + 1) _ ?_) h
    intro d hd
    have l1 := zq_fl g d (fun e => decide (g.fre (g.a (2 * g.m + k)) d e)) (fun e he => (of_decide_eq_true he).1)
    rw [zq_blkE]
    unfold ZG.bl
    rw [if_neg h6, List.append_nil, List.length_append]
    have e1 : (if g.come (g.a (2 * g.m + k)) d true then [10000 * k + 100 * d + 99] else []).length ≤ 1 := by split <;> simp
    have e2 : (if g.come (g.a (2 * g.m + k)) d false then ((zqRg g.n).filter fun e => decide (g.fre (g.a (2 * g.m + k)) d e)).map (fun e => 10000 * k + 100 * d + e) else []).length ≤ zqDeg g.R g.C d := by
      split
      · simp only [List.length_map]; omega
      · simp
    show _ ≤ zqDeg g.R g.C d + 1
    omega
theorem zq_cap {g : ZG} (w : ZW g) (hp : ZP g) : g.trs.length ≤ 338 := by
  have hB := w.B
  have h := zq_flen (f := fun k => (zqRg g.n).flatMap (g.blk k)) (b := fun _ => 169) (zqRg g.B) (fun k hk => zq_row w hp (zqRg_mem.mp hk))
  refine Nat.le_trans h ?_
  rcases (show g.B = 1 ∨ g.B = 2 by omega) with e | e
  · rw [e]; decide
  · rw [e]; decide
/-! what a turn is -/
theorem zq_mem {g : ZG} (w : ZW g) {n : Int} : n ∈ g.trs ↔ ∃ k d e : Int, n = 10000 * k + 100 * d + e ∧ 0 ≤ k ∧ k < g.B ∧ 0 ≤ d ∧ d < g.n ∧
    ((g.come (g.a (2 * g.m + k)) d false ∧ 0 ≤ e ∧ e < g.n ∧ g.fre (g.a (2 * g.m + k)) d e) ∨ (g.come (g.a (2 * g.m + k)) d false ∧ g.pm = 6 ∧ 50 ≤ e ∧ e < 50 + g.n ∧ g.fre (g.a (2 * g.m + k)) d (e - 50) ∧ g.h (e - 50) < 3) ∨ (e = 99 ∧ g.come (g.a (2 * g.m + k)) d true)) := by
  unfold ZG.trs
  simp only [List.mem_flatMap, zqRg_mem]
  constructor
  · rintro ⟨k, hk, d, hd, h⟩
    rw [zq_blkE, List.mem_append] at h
    rcases h with h | h
    · by_cases hc : g.come (g.a (2 * g.m + k)) d false
      · rw [if_pos hc] at h
        unfold ZG.bl at h
        rw [List.mem_append] at h
        rcases h with h | h
        · simp only [List.mem_map, List.mem_filter, zqRg_mem, decide_eq_true_eq] at h
          obtain ⟨e, ⟨he, hf⟩, rfl⟩ := h
          exact ⟨k, d, e, rfl, hk.1, hk.2, hd.1, hd.2, Or.inl ⟨hc, he.1, he.2, hf⟩⟩
        · by_cases h6 : g.pm = 6
          · rw [if_pos h6] at h
            simp only [List.mem_map, List.mem_filter, zqRg_mem, decide_eq_true_eq] at h
            obtain ⟨e, ⟨he, hf⟩, rfl⟩ := h
            exact ⟨k, d, 50 + e, by omega, hk.1, hk.2, hd.1, hd.2, Or.inr (Or.inl ⟨hc, h6, by omega, by omega, by rw [show 50 + e - 50 = e by omega]; exact hf⟩)⟩
          · rw [if_neg h6] at h; simp at h
      · rw [if_neg hc] at h; simp at h
    · by_cases hc : g.come (g.a (2 * g.m + k)) d true
      · rw [if_pos hc] at h
        simp only [List.mem_singleton] at h
        exact ⟨k, d, 99, h, hk.1, hk.2, hd.1, hd.2, Or.inr (Or.inr ⟨rfl, hc⟩)⟩
      · rw [if_neg hc] at h; simp at h
  · rintro ⟨k, d, e, rfl, k0, k1, d0, d1, h⟩
    refine ⟨k, ⟨k0, k1⟩, d, ⟨d0, d1⟩, ?_⟩
    rw [zq_blkE, List.mem_append]
    rcases h with ⟨hc, e0, e1, hf⟩ | ⟨hc, h6, e0, e1, hf, hh⟩ | ⟨rfl, hc⟩
    · left
      rw [if_pos hc]
      unfold ZG.bl
      rw [List.mem_append]
      left
      simp only [List.mem_map, List.mem_filter, zqRg_mem, decide_eq_true_eq]
      exact ⟨e, ⟨⟨e0, e1⟩, hf⟩, rfl⟩
    · left
      rw [if_pos hc]
      unfold ZG.bl
      rw [List.mem_append, if_pos h6]
      right
      simp only [List.mem_map, List.mem_filter, zqRg_mem, decide_eq_true_eq]
      exact ⟨e - 50, ⟨⟨by omega, by omega⟩, hf, hh⟩, by omega⟩
    · right
      rw [if_pos hc]
      simp
