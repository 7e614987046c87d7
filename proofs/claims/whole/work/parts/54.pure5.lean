set_option maxRecDepth 100000
/-- a second step by way of x -/
abbrev ZG.via (g : ZG) (c x d : Int) (v : Bool) : Prop := g.stp c x ∧ g.bI x = -1 ∧ ¬ g.win c x ∧ g.stp x d ∧ g.bI d = -1 ∧ decide (g.win x d) = v
def zqV (v : Bool) : Int := if v then 1 else 0
theorem zqV_e {P : Prop} [Decidable P] {v : Bool} : (zqB P = zqV v) = (decide P = v) := by
  unfold zqB zqV
  cases v <;> by_cases h : P <;> simp [h]
theorem zq_1B {P : Prop} (h : P) : zq 1 = zq (zqB P) := by rw [zqB_t h]
theorem zq_0B {P : Prop} (h : ¬ P) : zq 0 = zq (zqB P) := by rw [zqB_f h]
theorem zm_come136 {M : SC} {L : Int} {g : ZG} (z : ZM M L g) (w : ZW g) (hL : 0 ≤ L ∧ L < 5) {c d x : Int} (hd : 0 ≤ d ∧ d < g.n) (hx : 0 ≤ x ∧ x < g.n) (v : Bool) (Q Z : Prop) :
    fX4_canCome_j136 M (zq L) (zq d) (zq (zqV v)) (zq c) (zq (zqB Q)) (zq x) (zq (zqB Z)) = some (.inl (zq (zqB (Q ∨ (Z ∧ g.stp x d ∧ g.bI d = -1 ∧ decide (g.win x d) = v))), zq (x + 1))) := by
  have hn := w.n
  have hv : 0 ≤ zqV v ∧ zqV v ≤ 1 := by unfold zqV; split <;> omega
  have hbd := zq_bI g d
  have r0 := zqB_r (P := g.win x d)
  have s2 := zm_isStep z w hL (c := x) (d := d) (by omega) (by omega)
  have w2 := zm_isWinning z w hL (c := x) (d := d) (by omega) (by omega)
  have b2 := zm_builderIn z w hL hd.1 (show d < 25 by omega)
  unfold fX4_canCome_j136 fX4_canCome_j182 fX4_canCome_j186 fX4_canCome_j187
  simp (disch := omega) only [zq_l0, zq_l1, zq_l2, zq_l3, zq_l4, zq_l5, zq_l6, zq_l8, zq_l10, zq_l25, zq_l29, zq_l30, zq_l32, zq_l50, zq_l63, zq_l99, zq_l100, zq_l125, zq_l200, zq_l338, zq_l505, zq_l6000, zq_l10000, zq_l20, zq_bnd, zq_nm, zq_ck, zq_ex, zq_neg, zq_add, zq_sub, zq_mul, zq_div, zq_lt, zq_le, zq_eq, zq_tn, zq_setA_1, zq_setS_2, if_pos, if_neg, zq_if0, zq_if1, ite_true, ite_false, s2, w2, b2, zq_m1, zqV_e]
  have R1 := fun q => zqB_t (P := Q ∨ (Z ∧ g.stp x d ∧ g.bI d = -1 ∧ decide (g.win x d) = v)) q
  have R0 := fun q => zqB_f (P := Q ∨ (Z ∧ g.stp x d ∧ g.bI d = -1 ∧ decide (g.win x d) = v)) q
  by_cases hQ : Q
  · rw [if_pos hQ, R1 (Or.inl hQ)]
  · rw [if_neg hQ]
    by_cases hZ : Z
    · rw [if_pos hZ]
      by_cases h1 : g.stp x d
      · rw [if_pos h1]
        by_cases h2 : g.bI d = -1
        · rw [if_pos h2]
          by_cases h3 : decide (g.win x d) = v
          · rw [if_pos h3, R1 (Or.inr ⟨hZ, h1, h2, h3⟩)]
          · rw [if_neg h3, R0 (fun q => q.elim hQ (fun q => h3 q.2.2.2))]
        · rw [if_neg h2, R0 (fun q => q.elim hQ (fun q => h2 q.2.2.1))]
      · rw [if_neg h1, R0 (fun q => q.elim hQ (fun q => h1 q.2.1))]
    · rw [if_neg hZ, R0 (fun q => q.elim hQ (fun q => hZ q.1))]
theorem zm_come72 {M : SC} {L : Int} {g : ZG} (z : ZM M L g) (w : ZW g) (hL : 0 ≤ L ∧ L < 5) {c d x : Int} (hc : 0 ≤ c ∧ c < g.n) (hd : 0 ≤ d ∧ d < g.n) (hx : 0 ≤ x ∧ x < g.n) (v : Bool) (hp1 : g.pm = 1) (Q : Prop) :
    fX4_canCome_b72 M (zq L) (zq d) (zq (zqV v)) (zq c) (zq (zqB Q), zq x) = some (.inl (zq (zqB (Q ∨ g.via c x d v)), zq (x + 1))) := by
  have hn := w.n
  have hm : 0 ≤ g.m ∧ g.m ≤ 1 := by rcases w.m with h | h <;> omega
  have hb := zq_bI g x
  have s1 := zm_isStep z w hL (c := c) (d := x) (by omega) (by omega)
  have w1 := zm_isWinning z w hL (c := c) (d := x) (by omega) (by omega)
  have b1 := zm_builderIn z w hL hx.1 (show x < 25 by omega)
  have j0 := zm_come136 (c := c) z w hL hd hx v Q False
  have j1 := zm_come136 (c := c) z w hL hd hx v Q True
  rw [zqB_f (fun q => q)] at j0
  rw [zqB_t trivial] at j1
  unfold fX4_canCome_b72 fX4_canCome_j135
  simp (disch := omega) only [zq_l0, zq_l1, zq_l2, zq_l3, zq_l4, zq_l5, zq_l6, zq_l8, zq_l10, zq_l25, zq_l29, zq_l30, zq_l32, zq_l50, zq_l63, zq_l99, zq_l100, zq_l125, zq_l200, zq_l338, zq_l505, zq_l6000, zq_l10000, zq_l20, zq_bnd, zq_nm, zq_ck, zq_ex, zq_neg, zq_add, zq_sub, zq_mul, zq_div, zq_lt, zq_le, zq_eq, zq_tn, zq_setA_1, zq_setS_2, if_pos, if_neg, zq_if0, zq_if1, ite_true, ite_false, zm_cells z, z.m, z.pm w, hp1, s1, w1, b1, zq_m1, j0, j1]
  by_cases h1 : g.stp c x
  · rw [if_pos h1]
    by_cases h2 : g.bI x = -1
    · rw [if_pos h2]
      by_cases h3 : g.win c x
      · rw [if_pos h3, zqB_c (Q := Q ∨ g.via c x d v)]
        exact or_congr_right ⟨fun q => q.1.elim, fun q => absurd h3 q.2.2.1⟩
      · rw [if_neg h3, zqB_c (Q := Q ∨ g.via c x d v)]
        exact or_congr_right ⟨fun q => ⟨h1, h2, h3, q.2⟩, fun q => ⟨trivial, q.2.2.2⟩⟩
    · rw [if_neg h2, zqB_c (Q := Q ∨ g.via c x d v)]
      exact or_congr_right ⟨fun q => q.1.elim, fun q => absurd q.2.1 h2⟩
  · rw [if_neg h1, zqB_c (Q := Q ∨ g.via c x d v)]
    exact or_congr_right ⟨fun q => q.1.elim, fun q => absurd q.1 h1⟩
theorem zm_come66 {M : SC} {L : Int} {g : ZG} (z : ZM M L g) (w : ZW g) (hL : 0 ≤ L ∧ L < 5) {c d : Int} (hc : 0 ≤ c ∧ c < g.n) (hd : 0 ≤ d ∧ d < g.n) (v : Bool) :
    fX4_canCome_j66 M (zq L) (zq d) (zq (zqV v)) (zq c) = some (zq (zqB (g.s2 c d v))) := by
  have hn := w.n
  have hm : 0 ≤ g.m ∧ g.m ≤ 1 := by rcases w.m with h | h <;> omega
  have hp := zq_pm w
  unfold fX4_canCome_j66
  by_cases h1 : g.pm = 1
  · obtain ⟨r, e, q⟩ := zq_forP (b := fX4_canCome_b72 M (zq L) (zq d) (zq (zqV v)) (zq c)) (s := (0, 0)) (fun i s => s = (zq (zqB (∃ x ∈ zqRg i, g.via c x d v)), zq i)) (fun r => r = zq (zqB (∃ x ∈ zqRg g.n, g.via c x d v))) g.n.toNat (by omega)
      (by
        rintro i hi s rfl
        refine ⟨_, zm_come72 z w hL hc hd (x := (i : Int)) ⟨by omega, by omega⟩ v h1 _, ?_⟩
        rw [show ((i + 1 : Nat) : Int) = (i : Int) + 1 by omega]
        refine Prod.ext (congrArg zq (zqB_c ?_)) rfl
        simp only [zqRg_mem]
        constructor
        · rintro (⟨x, hx, h⟩ | h)
          · exact ⟨x, by omega, h⟩
          · exact ⟨i, by omega, h⟩
        · rintro ⟨x, hx, h⟩
          by_cases hxi : x = i
          · exact Or.inr (by rw [← hxi]; exact h)
          · exact Or.inl ⟨x, by omega, h⟩)
      (by
        rintro s rfl
        rw [show ((g.n.toNat : Nat) : Int) = g.n by omega]
        refine ⟨_, ?_, rfl⟩
        unfold fX4_canCome_b72
        simp (disch := omega) only [zq_l0, zq_l1, zq_l2, zq_l3, zq_l4, zq_l5, zq_l6, zq_l8, zq_l10, zq_l25, zq_l29, zq_l30, zq_l32, zq_l50, zq_l63, zq_l99, zq_l100, zq_l125, zq_l200, zq_l338, zq_l505, zq_l6000, zq_l10000, zq_l20, zq_bnd, zq_nm, zq_ck, zq_ex, zq_neg, zq_add, zq_sub, zq_mul, zq_div, zq_lt, zq_le, zq_eq, zq_tn, zq_setA_1, zq_setS_2, if_pos, if_neg, zq_if0, zq_if1, ite_true, ite_false, zm_cells z, zq_cp01])
      (by
        rw [zqB_f]
        · rfl
        · simp only [zqRg_mem]
          rintro ⟨x, hx, -⟩; omega)
    rw [e, q]
    exact congrArg (fun y => some (zq y)) (zqB_c ⟨fun h => ⟨h1, h⟩, fun h => h.2⟩)
  · have e : fX4_canCome_b72 M (zq L) (zq d) (zq (zqV v)) (zq c) (0, 0) = some (.inr (zq 0)) := by
      unfold fX4_canCome_b72
      simp (disch := omega) only [zq_l0, zq_l1, zq_l2, zq_l3, zq_l4, zq_l5, zq_l6, zq_l8, zq_l10, zq_l25, zq_l29, zq_l30, zq_l32, zq_l50, zq_l63, zq_l99, zq_l100, zq_l125, zq_l200, zq_l338, zq_l505, zq_l6000, zq_l10000, zq_l20, zq_bnd, zq_nm, zq_ck, zq_ex, zq_neg, zq_add, zq_sub, zq_mul, zq_div, zq_lt, zq_le, zq_eq, zq_tn, zq_setA_1, zq_setS_2, if_pos, if_neg, zq_if0, zq_if1, ite_true, ite_false, zm_cells z, z.m, z.pm w, zq_cpT, true_or]
    have eF : FUEL = 999999999999999999 + 1 := by rw [FUEL_is]
    rw [eF, zq_loop0 e, zqB_f (fun q => h1 q.1)]
theorem zm_canCome {M : SC} {L : Int} {g : ZG} (z : ZM M L g) (w : ZW g) (hp : ZP g) (hL : 0 ≤ L ∧ L < 5) {k d : Int} (hk : 0 ≤ k ∧ k < g.B) (hd : 0 ≤ d ∧ d < g.n) (v : Bool) :
    fX4_canCome M (zq L) (zq k) (zq d) (zq (zqV v)) = some (zq (zqB (g.come (g.a (2 * g.m + k)) d v))) := by
  have hn := w.n
  have hm : 0 ≤ g.m ∧ g.m ≤ 1 := by rcases w.m with h | h <;> omega
  obtain ⟨i0, i4, c0, c1, c2, c3⟩ := zq_spot w hp hk
  have hpm := zq_pm w
  have ha := z.a _ i0 i4
  rw [show 4 * L + (2 * g.m + k) = 4 * L + 2 * g.m + k by omega] at ha
  generalize g.a (2 * g.m + k) = c at *
  have s1 := zm_isStep z w hL (c := c) (d := d) (by omega) (by omega)
  have w1 := zm_isWinning z w hL (c := c) (d := d) (by omega) (by omega)
  have e1 := zm_mayEnter z w hL (c := c) (d := d) (by omega) hd
  have l := zm_come66 z w hL (c := c) (d := d) ⟨c0, c1⟩ hd v
  have r0 := zqB_r (P := g.win c d)
  have hv : 0 ≤ zqV v ∧ zqV v ≤ 1 := by unfold zqV; split <;> omega
  unfold fX4_canCome
  simp (disch := omega) only [zq_l0, zq_l1, zq_l2, zq_l3, zq_l4, zq_l5, zq_l6, zq_l8, zq_l10, zq_l25, zq_l29, zq_l30, zq_l32, zq_l50, zq_l63, zq_l99, zq_l100, zq_l125, zq_l200, zq_l338, zq_l505, zq_l6000, zq_l10000, zq_l20, zq_bnd, zq_nm, zq_ck, zq_ex, zq_neg, zq_add, zq_sub, zq_mul, zq_div, zq_lt, zq_le, zq_eq, zq_tn, zq_setA_1, zq_setS_2, if_pos, if_neg, zq_if0, zq_if1, ite_true, ite_false, z.m, ha, s1, w1, e1, l, zqV_e]
  by_cases hcd : c = d
  · rw [if_pos hcd, zqB_f (P := g.come c d v) (fun q => q.1 hcd)]
  · rw [if_neg hcd]
    have jj : ¬ g.s1 c d v → some (zq (zqB (g.s2 c d v))) = some (zq (zqB (g.come c d v))) := by
      intro hs
      rw [zqB_c (Q := g.come c d v)]
      exact ⟨fun q => ⟨hcd, Or.inr q⟩, fun q => q.2.resolve_left hs⟩
    by_cases h1 : g.stp c d
    · rw [if_pos h1]
      by_cases h2 : g.ent c d
      · rw [if_pos h2]
        by_cases h3 : decide (g.win c d) = v
        · rw [if_pos h3, zqB_t (P := g.come c d v) ⟨hcd, Or.inl ⟨h1, h2, h3⟩⟩]
        · rw [if_neg h3, jj (fun q => h3 q.2.2)]
      · rw [if_neg h2, jj (fun q => h2 q.2.1)]
    · rw [if_neg h1, jj (fun q => h1 q.1)]
/-- the reference: may be built there -/
abbrev ZG.fd (g : ZG) (c d e : Int) (D : Prop) : Prop := g.fre c d e ∧ (D → g.pm = 6 ∧ g.h e < 3)
theorem zm_cb74 {M : SC} {L : Int} {g : ZG} (z : ZM M L g) (w : ZW g) (hL : 0 ≤ L ∧ L < 5) {c d e : Int} (hc : 0 ≤ c ∧ c < g.n) (hd : 0 ≤ d ∧ d < g.n) (he : 0 ≤ e ∧ e < g.n) (D : Prop) (T : Prop) (hT : T ↔ g.bI d ≠ -1) (ha : zqAdj g.C d e) (h4 : g.h e < 4) (hD : D → g.pm = 6 ∧ g.h e < 3) : fX4_canBuild_j74 M (zq L) (zq c) (zq d) (zq e) (zq g.pm) (zq (zqB T)) = some (zq (zqB (g.fd c d e D))) := by
  have hn := w.n
  have hpm := zq_pm w
  have hbe := zq_bI g e
  have hby := zq_bey (c := c) w hd
  have R1 := fun q => zqB_t (P := g.fd c d e D) q
  have R0 := fun q => zqB_f (P := g.fd c d e D) q
  unfold fX4_canBuild_j74
  simp (disch := omega) only [zq_l0, zq_l1, zq_l2, zq_l3, zq_l4, zq_l5, zq_l6, zq_l8, zq_l10, zq_l25, zq_l29, zq_l30, zq_l32, zq_l50, zq_l63, zq_l99, zq_l100, zq_l125, zq_l200, zq_l338, zq_l505, zq_l6000, zq_l10000, zq_l20, zq_bnd, zq_nm, zq_ck, zq_ex, zq_neg, zq_add, zq_sub, zq_mul, zq_div, zq_lt, zq_le, zq_eq, zq_tn, zq_setA_1, zq_setS_2, if_pos, if_neg, zq_if0, zq_if1, ite_true, ite_false, zm_builderIn z w hL he.1 (show e < 25 by omega), zm_beyond z w (c := c) (d := d) (by omega) (by omega), zq_m1]
  by_cases hec : e = c
  · rw [if_pos hec]
    by_cases t : T
    · rw [if_pos t]
      by_cases h2 : g.pm = 2
      · rw [if_pos h2, R0]
        rintro ⟨⟨-, -, q | q⟩, -⟩
        · exact q.2 ⟨hT.mp t, h2⟩
        · exact q.1 hec
      · rw [if_neg h2, R1 ⟨⟨ha, h4, Or.inl ⟨hec, fun q => h2 q.2⟩⟩, hD⟩]
    · rw [if_neg t, R1 ⟨⟨ha, h4, Or.inl ⟨hec, fun q => t (hT.mpr q.1)⟩⟩, hD⟩]
  · rw [if_neg hec]
    by_cases hb : g.bI e = -1
    · rw [if_pos hb]
      by_cases t : T
      · rw [if_pos t]
        by_cases h3 : g.pm = 3
        · rw [if_pos h3]
          by_cases hby : g.bey c d = e
          · rw [if_pos hby, R0]
            rintro ⟨⟨-, -, q | q⟩, -⟩
            · exact hec q.1
            · exact q.2.2 ⟨hT.mp t, h3, hby⟩
          · rw [if_neg hby, R1 ⟨⟨ha, h4, Or.inr ⟨hec, hb, fun q => hby q.2.2⟩⟩, hD⟩]
        · rw [if_neg h3, R1 ⟨⟨ha, h4, Or.inr ⟨hec, hb, fun q => h3 q.2.1⟩⟩, hD⟩]
      · rw [if_neg t, R1 ⟨⟨ha, h4, Or.inr ⟨hec, hb, fun q => t (hT.mpr q.1)⟩⟩, hD⟩]
    · rw [if_neg hb, R0]
      rintro ⟨⟨-, -, q | q⟩, -⟩
      · exact hec q.1
      · exact hb q.2.1
theorem zm_cb59 {M : SC} {L : Int} {g : ZG} (z : ZM M L g) (w : ZW g) (hL : 0 ≤ L ∧ L < 5) {c d e : Int} (hc : 0 ≤ c ∧ c < g.n) (hd : 0 ≤ d ∧ d < g.n) (he : 0 ≤ e ∧ e < g.n) (D : Prop) (ha : zqAdj g.C d e) (h4 : g.h e < 4) (hD : D → g.pm = 6 ∧ g.h e < 3) : fX4_canBuild_j59 M (zq L) (zq c) (zq d) (zq e) (zq g.pm) = some (zq (zqB (g.fd c d e D))) := by
  have hn := w.n
  have hbd := zq_bI g d
  have t0 := fun h => zm_cb74 z w hL hc hd he D False ⟨fun q => q.elim, h⟩ ha h4 hD
  have t1 := fun h => zm_cb74 z w hL hc hd he D True ⟨fun _ => h, fun _ => trivial⟩ ha h4 hD
  rw [zqB_f (fun q => q)] at t0
  rw [zqB_t trivial] at t1
  unfold fX4_canBuild_j59
  simp (disch := omega) only [zq_l0, zq_l1, zq_l2, zq_l3, zq_l4, zq_l5, zq_l6, zq_l8, zq_l10, zq_l25, zq_l29, zq_l30, zq_l32, zq_l50, zq_l63, zq_l99, zq_l100, zq_l125, zq_l200, zq_l338, zq_l505, zq_l6000, zq_l10000, zq_l20, zq_bnd, zq_nm, zq_ck, zq_ex, zq_neg, zq_add, zq_sub, zq_mul, zq_div, zq_lt, zq_le, zq_eq, zq_tn, zq_setA_1, zq_setS_2, if_pos, if_neg, zq_if0, zq_if1, ite_true, ite_false, zm_builderIn z w hL hd.1 (show d < 25 by omega), zq_m1]
  by_cases h : g.bI d = -1
  · rw [if_pos h, t0 (fun q => q h)]
  · rw [if_neg h, t1 h]
theorem zm_canBuild {M : SC} {L : Int} {g : ZG} (z : ZM M L g) (w : ZW g) (hL : 0 ≤ L ∧ L < 5) {c d e : Int} (hc : 0 ≤ c ∧ c < g.n) (hd : 0 ≤ d ∧ d < g.n) (he : 0 ≤ e ∧ e < g.n) (D : Prop) :
    fX4_canBuild M (zq L) (zq c) (zq d) (zq e) (zq (zqB D)) = some (zq (zqB (g.fd c d e D))) := by
  have hn := w.n
  have hm : 0 ≤ g.m ∧ g.m ≤ 1 := by rcases w.m with h | h <;> omega
  have hpm := zq_pm w
  have hhe := w.h e he.1 (by omega)
  have R0 := fun q => zqB_f (P := g.fd c d e D) q
  have j59 := zm_cb59 z w hL hc hd he D
  unfold fX4_canBuild
  simp (disch := omega) only [zq_l0, zq_l1, zq_l2, zq_l3, zq_l4, zq_l5, zq_l6, zq_l8, zq_l10, zq_l25, zq_l29, zq_l30, zq_l32, zq_l50, zq_l63, zq_l99, zq_l100, zq_l125, zq_l200, zq_l338, zq_l505, zq_l6000, zq_l10000, zq_l20, zq_bnd, zq_nm, zq_ck, zq_ex, zq_neg, zq_add, zq_sub, zq_mul, zq_div, zq_lt, zq_le, zq_eq, zq_tn, zq_setA_1, zq_setS_2, if_pos, if_neg, zq_if0, zq_if1, ite_true, ite_false, z.m, z.pm w, zm_areBeside z w (c := d) (d := e) (by omega) (by omega), zm_high z hL he.1 (show e < 25 by omega), zq_m1]
  by_cases ha : zqAdj g.C d e
  · rw [if_pos ha]
    by_cases h4 : g.h e = 4
    · rw [if_pos h4, R0 (fun q => by have := q.1.2.1; omega)]
    · rw [if_neg h4]
      by_cases hD : D
      · rw [if_pos hD]
        by_cases h6 : g.pm = 6
        · rw [if_pos h6]
          by_cases h3 : g.h e = 3
          · rw [if_pos h3, R0 (fun q => by have := (q.2 hD).2; omega)]
          · rw [if_neg h3, j59 ha (by omega) (fun _ => ⟨h6, by omega⟩)]
        · rw [if_neg h6, R0 (fun q => h6 (q.2 hD).1)]
      · rw [if_neg hD, j59 ha (by omega) (fun q => absurd q hD)]
  · rw [if_neg ha, R0 (fun q => ha q.1.1)]
theorem zq_memE {g : ZG} (w : ZW g) {n : Int} : n ∈ g.trs ↔ 0 ≤ n ∧ n / 10000 < g.B ∧ n / 100 % 100 < g.n ∧
    ((n % 100 = 99 ∧ g.come (g.a (2 * g.m + n / 10000)) (n / 100 % 100) true) ∨
     (n % 100 < 50 ∧ n % 100 < g.n ∧ g.fre (g.a (2 * g.m + n / 10000)) (n / 100 % 100) (n % 100) ∧ g.come (g.a (2 * g.m + n / 10000)) (n / 100 % 100) false) ∨
     (50 ≤ n % 100 ∧ n % 100 ≠ 99 ∧ n % 100 - 50 < g.n ∧ (g.fre (g.a (2 * g.m + n / 10000)) (n / 100 % 100) (n % 100 - 50) ∧ g.pm = 6 ∧ g.h (n % 100 - 50) < 3) ∧ g.come (g.a (2 * g.m + n / 10000)) (n / 100 % 100) false)) := by
  have hn := w.n
  have hB := w.B
  rw [zq_mem w]
  constructor
  · rintro ⟨k, d, e, h1, k0, k1, d0, d1, hc⟩
    have e0 : 0 ≤ e ∧ e < 100 := by rcases hc with q | q | q <;> omega
    have ek : n / 10000 = k := by omega
    have ed : n / 100 % 100 = d := by omega
    have ee : n % 100 = e := by omega
    rw [ek, ed, ee]
    refine ⟨by omega, k1, d1, ?_⟩
    rcases hc with q | q | q
    · exact Or.inr (Or.inl ⟨by omega, q.2.2.1, q.2.2.2, q.1⟩)
    · exact Or.inr (Or.inr ⟨by omega, by omega, by omega, ⟨q.2.2.2.2.1, q.2.1, q.2.2.2.2.2⟩, q.1⟩)
    · exact Or.inl q
  · rintro ⟨h0, h1, h2, hc⟩
    refine ⟨n / 10000, n / 100 % 100, n % 100, by omega, by omega, h1, by omega, h2, ?_⟩
    rcases hc with q | q | q
    · exact Or.inr (Or.inr q)
    · exact Or.inl ⟨q.2.2.2, by omega, q.2.1, q.2.2.1⟩
    · exact Or.inr (Or.inl ⟨q.2.2.2.2, q.2.2.2.1.2.1, by omega, by omega, q.2.2.2.1.1, q.2.2.2.1.2.2⟩)
/-- a number's parts, as the machine finds them -/
theorem zq_parts {n : Int} (h : 0 ≤ n ∧ n < 2147483648) : zq n / 10000 = zq (n / 10000) ∧ (zq n / 100) - (zq n / 100) / 100 * 100 = zq (n / 100 % 100) ∧ zq n - zq n / 100 * 100 = zq (n % 100) := by
  have e0 : zq n / 100 = zq (n / 100) := by rw [zq_l100]; exact zq_div (by omega)
  have e1 : zq (n / 100) / 100 = zq (n / 100 / 100) := by rw [zq_l100]; exact zq_div (by omega)
  refine ⟨by rw [zq_l10000]; exact zq_div (by omega), ?_, ?_⟩
  · rw [e0, e1, zq_l100, zq_mul, zq_sub, show n / 100 - n / 100 / 100 * 100 = n / 100 % 100 by omega]
  · rw [e0, zq_l100, zq_mul, zq_sub, show n - n / 100 * 100 = n % 100 by omega]
abbrev ZG.bd (g : ZG) (c d e : Int) (D : Prop) : Prop := (0 ≤ e ∧ e < g.n) ∧ g.fd c d e D ∧ g.come c d false
theorem zm_tn90 {M : SC} {L : Int} {g : ZG} (z : ZM M L g) (w : ZW g) (hp : ZP g) (hL : 0 ≤ L ∧ L < 5) {k d e : Int} (hk : 0 ≤ k ∧ k < g.B) (hd : 0 ≤ d ∧ d < g.n) (he : -100 ≤ e ∧ e < 100) (D : Prop) :
    fX4_isTurn_j90 M (zq L) (zq k) (zq d) (zq (zqB D)) (zq e) = some (zq (zqB (g.bd (g.a (2 * g.m + k)) d e D))) := by
  have hn := w.n
  have hm : 0 ≤ g.m ∧ g.m ≤ 1 := by rcases w.m with h | h <;> omega
  obtain ⟨i0, i4, s0, s1, s2, s3⟩ := zq_spot w hp (k := k) (by omega)
  have ha := z.a _ i0 i4
  rw [show 4 * L + (2 * g.m + k) = 4 * L + 2 * g.m + k by omega] at ha
  have ic := zm_isCell z w (x := e) (by omega)
  have c0 := zm_canCome z w hp hL hk hd false
  rw [show zqV false = 0 from rfl] at c0
  generalize g.a (2 * g.m + k) = c at *
  have R1 := fun q => zqB_t (P := g.bd c d e D) q
  have R0 := fun q => zqB_f (P := g.bd c d e D) q
  unfold fX4_isTurn_j90
  simp (disch := omega) only [zq_l0, zq_l1, zq_l2, zq_l3, zq_l4, zq_l5, zq_l6, zq_l8, zq_l10, zq_l25, zq_l29, zq_l30, zq_l32, zq_l50, zq_l63, zq_l99, zq_l100, zq_l125, zq_l200, zq_l338, zq_l505, zq_l6000, zq_l10000, zq_l20, zq_bnd, zq_nm, zq_ck, zq_ex, zq_neg, zq_add, zq_sub, zq_mul, zq_div, zq_lt, zq_le, zq_eq, zq_tn, zq_setA_1, zq_setS_2, if_pos, if_neg, zq_if0, zq_if1, ite_true, ite_false, z.m, ha, ic, c0]
  by_cases h1 : 0 ≤ e ∧ e < g.n
  · rw [if_pos h1, zm_canBuild z w hL ⟨s0, s1⟩ hd h1 D, zq_bnd, zq_if0]
    by_cases h2 : g.fd c d e D
    · rw [if_pos h2]
      by_cases h3 : g.come c d false
      · rw [if_pos h3, R1 ⟨h1, h2, h3⟩]
      · rw [if_neg h3, R0 (fun q => h3 q.2.2)]
    · rw [if_neg h2, R0 (fun q => h2 q.2.1)]
  · rw [if_neg h1, R0 (fun q => h1 q.1)]
theorem zq_memK {g : ZG} (w : ZW g) {k d e : Int} (hk : 0 ≤ k) (hd : 0 ≤ d ∧ d < 100) (he : 0 ≤ e ∧ e < 100) : 10000 * k + 100 * d + e ∈ g.trs ↔ k < g.B ∧ d < g.n ∧
    (if e = 99 then g.come (g.a (2 * g.m + k)) d true else if e < 50 then g.bd (g.a (2 * g.m + k)) d e False else g.bd (g.a (2 * g.m + k)) d (e - 50) True) := by
  have hn := w.n
  rw [zq_memE w, show (10000 * k + 100 * d + e) / 10000 = k by omega, show (10000 * k + 100 * d + e) / 100 % 100 = d by omega, show (10000 * k + 100 * d + e) % 100 = e by omega]
  constructor
  · rintro ⟨-, h1, h2, q | q | q⟩
    · rw [if_pos q.1]; exact ⟨h1, h2, q.2⟩
    · rw [if_neg (by have := q.1; omega), if_pos q.1]; exact ⟨h1, h2, ⟨he.1, q.2.1⟩, ⟨q.2.2.1, fun h => h.elim⟩, q.2.2.2⟩
    · have h5 := q.1
      rw [if_neg q.2.1, if_neg (by omega)]; exact ⟨h1, h2, ⟨by omega, q.2.2.1⟩, ⟨q.2.2.2.1.1, fun _ => q.2.2.2.1.2⟩, q.2.2.2.2⟩
  · rintro ⟨h1, h2, q⟩
    refine ⟨by omega, h1, h2, ?_⟩
    by_cases h9 : e = 99
    · rw [if_pos h9] at q; exact Or.inl ⟨h9, q⟩
    · rw [if_neg h9] at q
      by_cases h5 : e < 50
      · rw [if_pos h5] at q; exact Or.inr (Or.inl ⟨h5, q.1.2, q.2.1.1, q.2.2⟩)
      · rw [if_neg h5] at q; exact Or.inr (Or.inr ⟨Int.not_lt.mp h5, h9, q.1.2, ⟨q.2.1.1, q.2.1.2 trivial⟩, q.2.2⟩)
theorem zm_isTurnK {M : SC} {L : Int} {g : ZG} (z : ZM M L g) (w : ZW g) (hp : ZP g) (hL : 0 ≤ L ∧ L < 5) {k d e : Int} (hk : 0 ≤ k ∧ k < 214749) (hd : 0 ≤ d ∧ d < 100) (he : 0 ≤ e ∧ e < 100) {n : Int} (h0 : 0 ≤ n ∧ n < 2147483648) (ek : n / 10000 = k) (ed : n / 100 % 100 = d) (ee : n % 100 = e) :
    fX4_isTurn M (zq L) (zq n) = some (zq (zqB (10000 * k + 100 * d + e ∈ g.trs))) := by
  have hn := w.n
  have hB := w.B
  have hz : ¬ zq n < 0 := by rw [zq_l0, zq_lt (by omega)]; omega
  obtain ⟨p1, p2, p3⟩ := zq_parts h0
  unfold fX4_isTurn
  rw [p1, p2, p3, zq_nm, zq_nm, zq_nm, if_neg hz, z.B, ek, ed, ee]
  clear p1 p2 p3 hz ek ed ee
  rw [zm_isCell z w (x := d) (by omega), zq_bnd, zq_l0, zq_if0]
  have q1 : (zq g.B ≤ zq k) = (g.B ≤ k) := zq_le (by omega)
  have q2 : (zq e = 99) = (e = 99) := by rw [zq_l99]; exact zq_eq (by omega)
  have q3 : (zq e < 50) = (e < 50) := by rw [zq_l50]; exact zq_lt (by omega)
  simp only [q1, q2, q3]
  clear q1 q2 q3
  have K := zq_memK w hk.1 hd he
  by_cases h1 : g.B ≤ k
  · rw [if_pos h1, zqB_f]
    rw [K]; exact fun q => absurd q.1 (Int.not_lt.mpr h1)
  · rw [if_neg h1]
    by_cases h2 : 0 ≤ d ∧ d < g.n
    · rw [if_pos h2]
      have hk2 : 0 ≤ k ∧ k < g.B := ⟨hk.1, Int.not_le.mp h1⟩
      by_cases h9 : e = 99
      · rw [if_pos h9]
        have c1 := zm_canCome z w hp hL hk2 h2 true
        rw [show zqV true = 1 from rfl, ← zq_l1] at c1
        rw [c1, zq_bnd]
        rw [if_pos h9] at K
        rw [zqB_c (P := g.come (g.a (2 * g.m + k)) d true) (Q := 10000 * k + 100 * d + e ∈ g.trs) ⟨fun q => K.mpr ⟨hk2.2, h2.2, q⟩, fun q => (K.mp q).2.2⟩]
        exact zq_cp01 _
      · rw [if_neg h9]
        rw [if_neg h9] at K
        by_cases h5 : e < 50
        · rw [if_pos h5]
          rw [if_pos h5] at K
          have j := zm_tn90 z w hp hL hk2 h2 (e := e) (by omega) False
          rw [zqB_f (P := False) (fun q => q)] at j
          unfold fX4_isTurn_j73
          rw [zq_l0, if_pos rfl, j, zqB_c (P := g.bd (g.a (2 * g.m + k)) d e False) (Q := 10000 * k + 100 * d + e ∈ g.trs) ⟨fun q => K.mpr ⟨hk2.2, h2.2, q⟩, fun q => (K.mp q).2.2⟩]
        · rw [if_neg h5]
          rw [if_neg h5] at K
          have j := zm_tn90 z w hp hL hk2 h2 (e := e - 50) (by omega) True
          rw [zqB_t (P := True) trivial] at j
          have h10 : ¬ (1 : Int32) = 0 := by decide
          unfold fX4_isTurn_j73
          rw [if_neg h10, zq_l1, zq_l50, zq_sub, j, zqB_c (P := g.bd (g.a (2 * g.m + k)) d (e - 50) True) (Q := 10000 * k + 100 * d + e ∈ g.trs) ⟨fun q => K.mpr ⟨hk2.2, h2.2, q⟩, fun q => (K.mp q).2.2⟩]
    · rw [if_neg h2, zqB_f]
      rw [K]; exact fun q => h2 ⟨hd.1, q.2.1⟩
theorem zm_isTurn {M : SC} {L : Int} {g : ZG} (z : ZM M L g) (w : ZW g) (hp : ZP g) (hL : 0 ≤ L ∧ L < 5) {n : Int} (hn1 : -2147483648 ≤ n ∧ n < 2147483648) :
    fX4_isTurn M (zq L) (zq n) = some (zq (zqB (n ∈ g.trs))) := by
  by_cases h0 : n < 0
  · have hz : zq n < 0 := by rw [zq_l0, zq_lt (by omega)]; exact h0
    unfold fX4_isTurn
    rw [zq_nm, zq_nm, zq_nm, if_pos hz, zqB_f]
    · rfl
    · rw [zq_memE w]; exact fun q => absurd q.1 (Int.not_le.mpr h0)
  · have e : 10000 * (n / 10000) + 100 * (n / 100 % 100) + n % 100 = n := by omega
    have h := zm_isTurnK z w hp hL (k := n / 10000) (d := n / 100 % 100) (e := n % 100) (by omega) (by omega) (by omega) (n := n) (by omega) rfl rfl rfl
    rw [e] at h; exact h
/-- a loop that a measure ends -/
theorem zq_while {σ ρ : Type} {b : σ → Option (σ ⊕ ρ)} (P : σ → Prop) (Q : ρ → Prop) (μ : σ → Nat) (h : ∀ s, P s → (∃ s', b s = some (.inl s') ∧ P s' ∧ μ s' < μ s) ∨ (∃ r, b s = some (.inr r) ∧ Q r)) {s : σ} (h0 : P s) (hk : μ s < 1000000) : ∃ r, loop b FUEL s = some r ∧ Q r := by
  have g : ∀ n s, P s → μ s < n → ∃ r, loop b n s = some r ∧ Q r := by
    intro n
    induction n with
    | zero => intro s _ hn; exact absurd hn (by omega)
    | succ n ih =>
      intro s hp hn
      rcases h s hp with ⟨s', e, q, m⟩ | ⟨r, e, q⟩
      · rw [zq_loop1 e]; exact ih s' q (by omega)
      · exact ⟨r, zq_loop0 e, q⟩
  exact g FUEL s h0 (by rw [FUEL_is]; omega)
/-- r is the next turn behind b, or -1 -/
def ZG.Nx (g : ZG) (b r : Int) : Prop := (r = -1 ∧ ∀ x ∈ g.trs, x ≤ b) ∨ (r ∈ g.trs ∧ b < r ∧ ∀ x ∈ g.trs, b < x → r ≤ x)
theorem zm_next94 {M : SC} {L : Int} {g : ZG} (z : ZM M L g) (w : ZW g) (hp : ZP g) (hL : 0 ≤ L ∧ L < 5) {i : Int} (h0 : 0 ≤ i ∧ i < 20000) : fX4_nextTurn_j94 M (zq L) (zq i) = some (if i ∈ g.trs then .inr (zq i) else .inl (zq (i + 1))) := by
  unfold fX4_nextTurn_j94 fX4_nextTurn_j108
  rw [zm_isTurn z w hp hL (by omega), zq_bnd, zq_l0, zq_if0]
  by_cases h : i ∈ g.trs
  · rw [if_pos h, if_pos h]; rfl
  · rw [if_neg h, if_neg h, zq_l1, zq_add]; rfl
theorem zm_next4 {M : SC} {L : Int} {g : ZG} (z : ZM M L g) (w : ZW g) (hp : ZP g) (hL : 0 ≤ L ∧ L < 5) {i : Int} (h0 : 0 ≤ i ∧ i ≤ 20000) :
    (10000 * g.B ≤ i ∧ fX4_nextTurn_b4 M (zq L) (zq i) = some (.inr (zq (-1)))) ∨
    (i ∈ g.trs ∧ fX4_nextTurn_b4 M (zq L) (zq i) = some (.inr (zq i))) ∨
    (∃ j, fX4_nextTurn_b4 M (zq L) (zq i) = some (.inl (zq j)) ∧ i < j ∧ j ≤ 20000 ∧ ∀ x ∈ g.trs, i ≤ x → j ≤ x) := by
  have hn := w.n
  have hB := w.B
  unfold fX4_nextTurn_b4
  rw [z.B, zq_l10000, zq_mul]
  have q1 : (zq (10000 * g.B) ≤ zq i) = (10000 * g.B ≤ i) := zq_le (by omega)
  simp only [q1]
  clear q1
  by_cases hb : 10000 * g.B ≤ i
  · exact Or.inl ⟨hb, by rw [if_pos hb]; rfl⟩
  · obtain ⟨p1, p2, p3⟩ := zq_parts (n := i) (by omega)
    rw [zq_l10000] at p1
    rw [if_neg hb, p2, p3, p1, zq_nm, zm_cells z, zq_bnd]
    have one : ∀ F : Option (Int32 ⊕ Int32), F = some (if i ∈ g.trs then .inr (zq i) else .inl (zq (i + 1))) → (10000 * g.B ≤ i ∧ F = some (.inr (zq (-1)))) ∨
      (i ∈ g.trs ∧ F = some (.inr (zq i))) ∨ (∃ j, F = some (.inl (zq j)) ∧ i < j ∧ j ≤ 20000 ∧ ∀ x ∈ g.trs, i ≤ x → j ≤ x) := by
      intro F hF
      by_cases h : i ∈ g.trs
      · rw [if_pos h] at hF; exact Or.inr (Or.inl ⟨h, hF⟩)
      · rw [if_neg h] at hF
        refine Or.inr (Or.inr ⟨i + 1, hF, by omega, by omega, fun x hx h1 => ?_⟩)
        by_cases hxi : x = i
        · rw [hxi] at hx; exact absurd hx h
        · omega
    have o := one _ (zm_next94 z w hp hL (i := i) (by omega))
    by_cases hd : i / 100 % 100 < g.n
    · have q2 : zq (i / 100 % 100) < zq g.n := by rw [zq_lt (by omega)]; exact hd
      rw [if_pos q2]
      by_cases h9 : i % 100 = 0
      · have q3 : zq (i % 100) = 0 := by rw [h9]; rfl
        have c1 := zm_canCome z w hp hL (k := i / 10000) (d := i / 100 % 100) (by omega) (by omega) true
        have c0 := zm_canCome z w hp hL (k := i / 10000) (d := i / 100 % 100) (by omega) (by omega) false
        rw [show zqV true = 1 from rfl, ← zq_l1] at c1
        rw [show zqV false = 0 from rfl, ← zq_l0] at c0
        rw [if_pos q3, c1, zq_bnd, zq_l0, zq_if0]
        rw [zq_l0] at c0
        by_cases h1 : g.come (g.a (2 * g.m + i / 10000)) (i / 100 % 100) true
        · rw [if_pos h1]; exact o
        · rw [if_neg h1, c0, zq_bnd, zq_if0]
          by_cases h2 : g.come (g.a (2 * g.m + i / 10000)) (i / 100 % 100) false
          · rw [if_pos h2]; exact o
          · rw [if_neg h2, zq_l100, zq_add]
            refine Or.inr (Or.inr ⟨i + 100, rfl, by omega, by omega, fun x hx hxi => ?_⟩)
            refine Int.not_lt.mp fun hlt => ?_
            have hm := (zq_memE w).mp hx
            rw [show x / 10000 = i / 10000 by omega, show x / 100 % 100 = i / 100 % 100 by omega] at hm
            rcases hm.2.2.2 with q | q | q
            · exact h1 q.2
            · exact h2 q.2.2.2
            · exact h2 q.2.2.2.2
      · have q3 : ¬ zq (i % 100) = 0 := by rw [zq_l0, zq_eq (by omega)]; exact h9
        rw [if_neg q3]; exact o
    · have q2 : ¬ zq (i / 100 % 100) < zq g.n := by rw [zq_lt (by omega)]; exact hd
      rw [if_neg q2, zq_l1, zq_add, zq_mul]
      refine Or.inr (Or.inr ⟨(i / 10000 + 1) * 10000, rfl, by omega, by omega, fun x hx hxi => ?_⟩)
      refine Int.not_lt.mp fun hlt => ?_
      have hm := ((zq_memE w).mp hx).2.2.1
      omega
theorem zq_hi {g : ZG} (w : ZW g) {x : Int} (h : x ∈ g.trs) : 0 ≤ x ∧ x < 10000 * g.B := by
  have hm := (zq_memE w).mp h
  have h1 := hm.1
  have h2 := hm.2.1
  omega
theorem zm_nextTurn {M : SC} {L : Int} {g : ZG} (z : ZM M L g) (w : ZW g) (hp : ZP g) (hL : 0 ≤ L ∧ L < 5) {b : Int} (hb : -1 ≤ b ∧ b < 20000) : ∃ r, fX4_nextTurn M (zq L) (zq b) = some (zq r) ∧ g.Nx b r := by
  have hB := w.B
  unfold fX4_nextTurn
  rw [zq_l1, zq_add, zq_nm]
  obtain ⟨r, e, r', q1, q2⟩ := zq_while (b := fX4_nextTurn_b4 M (zq L)) (s := zq (b + 1)) (fun s => ∃ i, s = zq i ∧ b < i ∧ i ≤ 20000 ∧ ∀ x ∈ g.trs, b < x → i ≤ x) (fun r => ∃ r', r = zq r' ∧ g.Nx b r') (fun s => (20000 - s.toInt).toNat)
    (by
      rintro s ⟨i, rfl, i0, i1, hi⟩
      rcases zm_next4 z w hp hL (i := i) (by omega) with ⟨h, e⟩ | ⟨h, e⟩ | ⟨j, e, j0, j1, hj⟩
      · refine Or.inr ⟨_, e, -1, rfl, Or.inl ⟨rfl, fun x hx => ?_⟩⟩
        refine Int.not_lt.mp fun hlt => ?_
        have := hi x hx hlt
        have := zq_hi w hx
        omega
      · exact Or.inr ⟨_, e, i, rfl, Or.inr ⟨h, i0, hi⟩⟩
      · refine Or.inl ⟨_, e, ⟨j, rfl, by omega, j1, fun x hx hbx => hj x hx (hi x hx hbx)⟩, ?_⟩
        show (20000 - (zq j).toInt).toNat < (20000 - (zq i).toInt).toNat
        rw [zq_to (by omega) (by omega), zq_to (by omega) (by omega)]
        omega)
    ⟨b + 1, rfl, by omega, by omega, fun x hx hbx => by omega⟩
    (by
      show (20000 - (zq (b + 1)).toInt).toNat < 1000000
      rw [zq_to (by omega) (by omega)]
      omega)
  exact ⟨r', by rw [e, q1], q2⟩
/-! the list of turns is sorted -/
theorem zqRg_pw (n : Int) : (zqRg n).Pairwise (· < ·) := by
  unfold zqRg
  rw [List.pairwise_map]
  refine List.pairwise_lt_range.imp ?_
  intro a b h
  exact Int.ofNat_lt.mpr h
theorem zq_blkr {g : ZG} (w : ZW g) {k d x : Int} (h : x ∈ g.blk k d) : 10000 * k + 100 * d ≤ x ∧ x < 10000 * k + 100 * d + 100 := by
  have hn := w.n
  unfold ZG.blk at h
  rw [List.mem_append] at h
  rcases h with h | h
  · by_cases h1 : g.come (g.a (2 * g.m + k)) d false
    · rw [if_pos h1, List.mem_append] at h
      rcases h with h | h
      · rw [List.mem_map] at h
        obtain ⟨e, he, rfl⟩ := h
        have := zqRg_mem.mp (List.mem_filter.mp he).1
        omega
      · by_cases h6 : g.pm = 6
        · rw [if_pos h6, List.mem_map] at h
          obtain ⟨e, he, rfl⟩ := h
          have := zqRg_mem.mp (List.mem_filter.mp he).1
          omega
        · rw [if_neg h6] at h; exact absurd h List.not_mem_nil
    · rw [if_neg h1] at h; exact absurd h List.not_mem_nil
  · by_cases h1 : g.come (g.a (2 * g.m + k)) d true
    · rw [if_pos h1, List.mem_singleton] at h; omega
    · rw [if_neg h1] at h; exact absurd h List.not_mem_nil
theorem zq_blks {g : ZG} (w : ZW g) (k d : Int) : (g.blk k d).Pairwise (· < ·) := by
  have hn := w.n
  have fl : ∀ (p : Int → Bool) (c : Int), (((zqRg g.n).filter p).map (fun e => c + e)).Pairwise (· < ·) := by
    intro p c
    rw [List.pairwise_map]
    exact ((zqRg_pw g.n).filter p).imp (fun h => by omega)
  have lo : ∀ (p : Int → Bool) (c x : Int), x ∈ ((zqRg g.n).filter p).map (fun e => c + e) → c ≤ x ∧ x < c + g.n := by
    intro p c x h
    rw [List.mem_map] at h
    obtain ⟨e, he, rfl⟩ := h
    have := zqRg_mem.mp (List.mem_filter.mp he).1
    omega
  unfold ZG.blk
  rw [List.pairwise_append]
  refine ⟨?_, ?_, ?_⟩
  · by_cases h1 : g.come (g.a (2 * g.m + k)) d false
    · rw [if_pos h1]
      by_cases h6 : g.pm = 6
      · rw [if_pos h6, List.pairwise_append]
        refine ⟨fl _ _, fl _ _, fun x hx y hy => ?_⟩
        have a1 := lo _ _ _ hx
        have a2 := lo _ _ _ hy
        omega
      · rw [if_neg h6, List.append_nil]; exact fl _ _
    · rw [if_neg h1]; exact List.Pairwise.nil
  · split
    · exact List.pairwise_singleton _ _
    · exact List.Pairwise.nil
  · intro x hx y hy
    by_cases h2 : g.come (g.a (2 * g.m + k)) d true
    · rw [if_pos h2, List.mem_singleton] at hy
      by_cases h1 : g.come (g.a (2 * g.m + k)) d false
      · rw [if_pos h1, List.mem_append] at hx
        rcases hx with hx | hx
        · have := lo _ _ _ hx; omega
        · by_cases h6 : g.pm = 6
          · rw [if_pos h6] at hx
            have := lo _ _ _ hx; omega
          · rw [if_neg h6] at hx; exact absurd hx List.not_mem_nil
      · rw [if_neg h1] at hx; exact absurd hx List.not_mem_nil
    · rw [if_neg h2] at hy; exact absurd hy List.not_mem_nil
theorem zq_sorted {g : ZG} (w : ZW g) : g.trs.Pairwise (· < ·) := by
  have hn := w.n
  unfold ZG.trs
  rw [List.pairwise_flatMap]
  refine ⟨fun k hk => ?_, ?_⟩
  · rw [List.pairwise_flatMap]
    refine ⟨fun d hd => zq_blks w k d, ?_⟩
    refine (zqRg_pw g.n).imp ?_
    intro a b hab x hx y hy
    have := zq_blkr w hx
    have := zq_blkr w hy
    omega
  · refine (zqRg_pw g.B).imp ?_
    intro a b hab x hx y hy
    rw [List.mem_flatMap] at hx hy
    obtain ⟨d, hd, hx⟩ := hx
    obtain ⟨e, he, hy⟩ := hy
    have := zq_blkr w hx
    have := zq_blkr w hy
    have := zqRg_mem.mp hd
    have := zqRg_mem.mp he
    omega
/-- the turn at a place, or -1 -/
def ZG.tr (g : ZG) (i : Nat) : Int := g.trs.getD i (-1)
theorem zq_tr {g : ZG} {i : Nat} (h : i < g.trs.length) : g.tr i = g.trs[i] := by
  unfold ZG.tr
  rw [List.getD_eq_getElem?_getD, List.getElem?_eq_getElem h]; rfl
theorem zq_trn {g : ZG} {i : Nat} (h : g.trs.length ≤ i) : g.tr i = -1 := by
  unfold ZG.tr
  rw [List.getD_eq_getElem?_getD, List.getElem?_eq_none h]; rfl
theorem zq_trm {g : ZG} {i : Nat} (h : i < g.trs.length) : g.tr i ∈ g.trs := by
  rw [zq_tr h]; exact List.getElem_mem h
theorem zq_trr {g : ZG} (w : ZW g) (i : Nat) : -1 ≤ g.tr i ∧ g.tr i < 20000 := by
  have hB := w.B
  by_cases h : i < g.trs.length
  · have := zq_hi w (zq_trm h); omega
  · rw [zq_trn (by omega)]; omega
theorem zq_trlt {g : ZG} (w : ZW g) {i j : Nat} (h : i < j) (hj : j < g.trs.length) : g.tr i < g.tr j := by
  rw [zq_tr (by omega), zq_tr hj]
  exact List.pairwise_iff_getElem.mp (zq_sorted w) i j (by omega) hj h
theorem zq_trx {g : ZG} {x : Int} (h : x ∈ g.trs) : ∃ j, j < g.trs.length ∧ g.tr j = x := by
  obtain ⟨j, hj, e⟩ := List.getElem_of_mem h
  exact ⟨j, hj, by rw [zq_tr hj]; exact e⟩
theorem zq_Nx0 {g : ZG} (w : ZW g) {r : Int} (h : g.Nx (-1) r) : r = g.tr 0 := by
  rcases h with ⟨e, h⟩ | ⟨h1, h2, h3⟩
  · by_cases h0 : 0 < g.trs.length
    · have := h _ (zq_trm h0)
      have := zq_hi w (zq_trm h0)
      omega
    · rw [zq_trn (by omega)]; exact e
  · obtain ⟨j, hj, e⟩ := zq_trx h1
    have h0 : 0 < g.trs.length := by omega
    have a := h3 _ (zq_trm h0) (by have := zq_hi w (zq_trm h0); omega)
    by_cases hj0 : j = 0
    · rw [← e, hj0]
    · have := zq_trlt w (i := 0) (j := j) (by omega) hj
      omega
theorem zq_Nx1 {g : ZG} (w : ZW g) {r : Int} {i : Nat} (hi : i < g.trs.length) (h : g.Nx (g.tr i) r) : r = g.tr (i + 1) := by
  rcases h with ⟨e, h⟩ | ⟨h1, h2, h3⟩
  · by_cases h0 : i + 1 < g.trs.length
    · have := h _ (zq_trm h0)
      have := zq_trlt w (i := i) (by omega) h0
      omega
    · rw [zq_trn (by omega)]; exact e
  · obtain ⟨j, hj, e⟩ := zq_trx h1
    have hij : i < j := by
      refine Nat.lt_of_not_le fun q => ?_
      by_cases hji : j = i
      · rw [hji] at e; omega
      · have := zq_trlt w (i := j) (j := i) (by omega) hi
        omega
    have a := h3 _ (zq_trm (i := i + 1) (by omega)) (zq_trlt w (by omega) (by omega))
    by_cases hj0 : j = i + 1
    · rw [← e, hj0]
    · have := zq_trlt w (i := i + 1) (j := j) (by omega) hj
      omega
theorem zm_next0 {M : SC} {L : Int} {g : ZG} (z : ZM M L g) (w : ZW g) (hp : ZP g) (hL : 0 ≤ L ∧ L < 5) : fX4_nextTurn M (zq L) (zq (-1)) = some (zq (g.tr 0)) := by
  obtain ⟨r, e, h⟩ := zm_nextTurn z w hp hL (b := -1) (by omega)
  rw [e, zq_Nx0 w h]
theorem zm_next1 {M : SC} {L : Int} {g : ZG} (z : ZM M L g) (w : ZW g) (hp : ZP g) (hL : 0 ≤ L ∧ L < 5) {i : Nat} (hi : i < g.trs.length) : fX4_nextTurn M (zq L) (zq (g.tr i)) = some (zq (g.tr (i + 1))) := by
  obtain ⟨r, e, h⟩ := zm_nextTurn z w hp hL (b := g.tr i) (zq_trr w i)
  rw [e, zq_Nx1 w hi h]
/-! the reference writes at a level -/
theorem zq_nar {b : Int} (h : b = 0 ∨ b = 1) : vp_nar .boolean (zq b) = zq b := by
  rcases h with rfl | rfl <;> rfl
/-- nothing but level L is changed -/
def zmE (L : Int) (M M' : SC) : Prop := (∀ k, M'.1 k = M.1 k) ∧ (∀ b, b ≠ 1 → b ≠ 2 → b ≠ 3 → b ≠ 4 → M'.2 b = M.2 b) ∧
  (∀ x : Int, 0 ≤ x → ¬ (25 * L ≤ x ∧ x < 25 * L + 25) → M'.2 1 x.toNat = M.2 1 x.toNat) ∧ (∀ x : Int, 0 ≤ x → ¬ (4 * L ≤ x ∧ x < 4 * L + 4) → M'.2 2 x.toNat = M.2 2 x.toNat) ∧
  (∀ x : Int, 0 ≤ x → x ≠ L → M'.2 3 x.toNat = M.2 3 x.toNat) ∧ (∀ x : Int, 0 ≤ x → x ≠ L → M'.2 4 x.toNat = M.2 4 x.toNat)
theorem zmE.rf {L : Int} {M : SC} : zmE L M M := ⟨fun _ => rfl, fun _ _ _ _ _ => rfl, fun _ _ _ => rfl, fun _ _ _ => rfl, fun _ _ _ => rfl, fun _ _ _ => rfl⟩
theorem zmE.tr {L : Int} {M M' M'' : SC} (a : zmE L M M') (b : zmE L M' M'') : zmE L M M'' :=
  ⟨fun k => (b.1 k).trans (a.1 k), fun c h1 h2 h3 h4 => (b.2.1 c h1 h2 h3 h4).trans (a.2.1 c h1 h2 h3 h4), fun x h0 h => (b.2.2.1 x h0 h).trans (a.2.2.1 x h0 h), fun x h0 h => (b.2.2.2.1 x h0 h).trans (a.2.2.2.1 x h0 h), fun x h0 h => (b.2.2.2.2.1 x h0 h).trans (a.2.2.2.2.1 x h0 h), fun x h0 h => (b.2.2.2.2.2 x h0 h).trans (a.2.2.2.2.2 x h0 h)⟩
theorem zmE.z {L K : Int} {M M' : SC} {g : ZG} (e : zmE L M M') (hK : 0 ≤ K) (hL : 0 ≤ L) (h : K ≠ L) (z : ZM M K g) : ZM M' K g :=
  ⟨by rw [e.1]; exact z.R, by rw [e.1]; exact z.C, by rw [e.1]; exact z.B, by rw [e.2.1 0 (by omega) (by omega) (by omega) (by omega)]; exact z.p0, by rw [e.2.1 0 (by omega) (by omega) (by omega) (by omega)]; exact z.p1,
   fun c h0 h1 => by rw [e.2.2.1 _ (by omega) (by omega)]; exact z.h c h0 h1, fun c h0 h1 => by rw [e.2.2.2.1 _ (by omega) (by omega)]; exact z.a c h0 h1, by rw [e.2.2.2.2.1 _ hK h]; exact z.m, by rw [e.2.2.2.2.2 _ hK h]; exact z.b⟩
theorem zmE_h {L : Int} (hL : 0 ≤ L ∧ L < 5) (S : SC) {i : Int} (hi : 25 * L ≤ i ∧ i < 25 * L + 25) (v : Int32) : zmE L S (setA S 1 (zq i) v) :=
  ⟨fun _ => rfl, fun b h1 h2 h3 h4 => zq_setA_other _ _ _ _ _ h1, fun x h0 h => by rw [zq_wr _ _ _ _ (by omega) h0, if_neg (by omega)], fun x h0 h => by rw [zq_setA_other _ _ _ _ _ (by omega)], fun x h0 h => by rw [zq_setA_other _ _ _ _ _ (by omega)], fun x h0 h => by rw [zq_setA_other _ _ _ _ _ (by omega)]⟩
theorem zmE_a {L : Int} (hL : 0 ≤ L ∧ L < 5) (S : SC) {i : Int} (hi : 4 * L ≤ i ∧ i < 4 * L + 4) (v : Int32) : zmE L S (setA S 2 (zq i) v) :=
  ⟨fun _ => rfl, fun b h1 h2 h3 h4 => zq_setA_other _ _ _ _ _ h2, fun x h0 h => by rw [zq_setA_other _ _ _ _ _ (by omega)], fun x h0 h => by rw [zq_wr _ _ _ _ (by omega) h0, if_neg (by omega)], fun x h0 h => by rw [zq_setA_other _ _ _ _ _ (by omega)], fun x h0 h => by rw [zq_setA_other _ _ _ _ _ (by omega)]⟩
theorem zmE_m {L : Int} (hL : 0 ≤ L ∧ L < 5) (S : SC) (v : Int32) : zmE L S (setA S 3 (zq L) v) :=
  ⟨fun _ => rfl, fun b h1 h2 h3 h4 => zq_setA_other _ _ _ _ _ h3, fun x h0 h => by rw [zq_setA_other _ _ _ _ _ (by omega)], fun x h0 h => by rw [zq_setA_other _ _ _ _ _ (by omega)], fun x h0 h => by rw [zq_wr _ _ _ _ (by omega) h0, if_neg (by omega)], fun x h0 h => by rw [zq_setA_other _ _ _ _ _ (by omega)]⟩
theorem zmE_b {L : Int} (hL : 0 ≤ L ∧ L < 5) (S : SC) (v : Int32) : zmE L S (setA S 4 (zq L) v) :=
  ⟨fun _ => rfl, fun b h1 h2 h3 h4 => zq_setA_other _ _ _ _ _ h4, fun x h0 h => by rw [zq_setA_other _ _ _ _ _ (by omega)], fun x h0 h => by rw [zq_setA_other _ _ _ _ _ (by omega)], fun x h0 h => by rw [zq_setA_other _ _ _ _ _ (by omega)], fun x h0 h => by rw [zq_wr _ _ _ _ (by omega) h0, if_neg (by omega)]⟩
/-- the reference copies a level -/
theorem zm_copy38 {M S : SC} {L K : Int} {g : ZG} (z : ZM M L g) (w : ZW g) (hL : 0 ≤ L ∧ L < 5) (hK : 0 ≤ K ∧ K < 5) (hne : L ≠ K) (E : zmE K M S) (hh : ∀ c, 0 ≤ c → c < 25 → S.2 1 (25 * K + c).toNat = zq (g.h c)) : ∃ M', loop (fX4_copy_b38 (zq L) (zq K)) FUEL (0, S) = some M' ∧ ZM M' K g ∧ zmE K M M' := by
  refine zq_forP (b := fX4_copy_b38 (zq L) (zq K)) (fun i s => s.1 = zq i ∧ zmE K M s.2 ∧ s.2.2 1 = S.2 1 ∧ ∀ j : Int, 0 ≤ j → j < i → s.2.2 2 (4 * K + j).toNat = zq (g.a j)) (fun M' => ZM M' K g ∧ zmE K M M') 4 (by omega) ?_ ?_ ⟨rfl, E, rfl, fun j j0 j1 => by omega⟩
  · rintro i hi ⟨s1, s⟩ ⟨e, hE, h1, h2⟩
    have e : s1 = zq i := e
    subst e
    have hE : zmE K M s := hE
    have h1 : s.2 1 = S.2 1 := h1
    have h2 : ∀ j : Int, 0 ≤ j → j < i → s.2 2 (4 * K + j).toNat = zq (g.a j) := h2
    have za := (hE.z hL.1 hK.1 hne z).a i (by omega) (by omega)
    refine ⟨(zq (i + 1), setA s 2 (zq (4 * K + i)) (zq (g.a i))), ?_, rfl, hE.tr (zmE_a hK s (by omega) _), ?_, ?_⟩
    · unfold fX4_copy_b38
      simp (disch := omega) only [zq_l0, zq_l1, zq_l2, zq_l3, zq_l4, zq_l5, zq_l6, zq_l8, zq_l10, zq_l25, zq_l29, zq_l30, zq_l32, zq_l50, zq_l63, zq_l99, zq_l100, zq_l125, zq_l200, zq_l338, zq_l505, zq_l6000, zq_l10000, zq_l20, zq_bnd, zq_nm, zq_ck, zq_ex, zq_neg, zq_add, zq_sub, zq_mul, zq_div, zq_lt, zq_le, zq_eq, zq_tn, zq_setA_1, zq_setS_2, if_pos, if_neg, zq_if0, zq_if1, ite_true, ite_false, za]
    · show (setA s 2 (zq (4 * K + i)) (zq (g.a i))).2 1 = _
      rw [zq_setA_other _ _ _ _ _ (by omega), h1]
    · intro j j0 j1
      show (setA s 2 (zq (4 * K + i)) (zq (g.a i))).2 2 _ = _
      rw [zq_wr _ _ _ _ (by omega) (by omega)]
      by_cases hj : j = i
      · rw [if_pos ⟨rfl, by omega⟩, hj]
      · rw [if_neg (by omega)]; exact h2 j j0 (by omega)
  · rintro ⟨s1, s⟩ ⟨e, hE, h1, h2⟩
    have e : s1 = zq 4 := e
    subst e
    have hE : zmE K M s := hE
    have h1 : s.2 1 = S.2 1 := h1
    have h2 : ∀ j : Int, 0 ≤ j → j < (4 : Nat) → s.2 2 (4 * K + j).toNat = zq (g.a j) := h2
    have zz := hE.z hL.1 hK.1 hne z
    have zm3 : (setA s 3 (zq K) (zq g.m)).2 4 L.toNat = zq g.b := by rw [zq_setA_other _ _ _ _ _ (by omega)]; exact zz.b
    refine ⟨setA (setA s 3 (zq K) (zq g.m)) 4 (zq K) (zq g.b), ?_, ?_, (hE.tr (zmE_m hK s _)).tr (zmE_b hK _ _)⟩
    · unfold fX4_copy_b38
      simp (disch := omega) only [zq_l0, zq_l1, zq_l2, zq_l3, zq_l4, zq_l5, zq_l6, zq_l8, zq_l10, zq_l25, zq_l29, zq_l30, zq_l32, zq_l50, zq_l63, zq_l99, zq_l100, zq_l125, zq_l200, zq_l338, zq_l505, zq_l6000, zq_l10000, zq_l20, zq_bnd, zq_nm, zq_ck, zq_ex, zq_neg, zq_add, zq_sub, zq_mul, zq_div, zq_lt, zq_le, zq_eq, zq_tn, zq_setA_1, zq_setS_2, if_pos, if_neg, zq_if0, zq_if1, ite_true, ite_false, zz.m, zm3, zq_nar w.b]
    · refine ⟨zz.R, zz.C, zz.B, ?_, ?_, ?_, ?_, ?_, ?_⟩
      · rw [zq_setA_other _ _ _ _ _ (by omega), zq_setA_other _ _ _ _ _ (by omega)]; exact zz.p0
      · rw [zq_setA_other _ _ _ _ _ (by omega), zq_setA_other _ _ _ _ _ (by omega)]; exact zz.p1
      · intro c c0 c1
        rw [zq_setA_other _ _ _ _ _ (by omega), zq_setA_other _ _ _ _ _ (by omega), h1]; exact hh c c0 c1
      · intro c c0 c1
        rw [zq_setA_other _ _ _ _ _ (by omega), zq_setA_other _ _ _ _ _ (by omega)]; exact h2 c c0 (by omega)
      · rw [zq_setA_other _ _ _ _ _ (by omega), zq_wr _ _ _ _ (by omega) (by omega), if_pos ⟨rfl, rfl⟩]
      · rw [zq_wr _ _ _ _ (by omega) (by omega), if_pos ⟨rfl, rfl⟩]
theorem zm_copy {M : SC} {L K : Int} {g : ZG} (z : ZM M L g) (w : ZW g) (hL : 0 ≤ L ∧ L < 5) (hK : 0 ≤ K ∧ K < 5) (hne : L ≠ K) : ∃ M', fX4_copy M (zq L) (zq K) = some M' ∧ ZM M' K g ∧ zmE K M M' := by
  unfold fX4_copy
  refine zq_forP (b := fX4_copy_b2 (zq L) (zq K)) (fun i s => s.1 = zq i ∧ zmE K M s.2 ∧ ∀ j : Int, 0 ≤ j → j < i → s.2.2 1 (25 * K + j).toNat = zq (g.h j)) (fun M' => ZM M' K g ∧ zmE K M M') 25 (by omega) ?_ ?_ ⟨rfl, zmE.rf, fun j j0 j1 => by omega⟩
  · rintro i hi ⟨s1, s⟩ ⟨e, hE, h2⟩
    have e : s1 = zq i := e
    subst e
    have hE : zmE K M s := hE
    have h2 : ∀ j : Int, 0 ≤ j → j < i → s.2 1 (25 * K + j).toNat = zq (g.h j) := h2
    have za := (hE.z hL.1 hK.1 hne z).h i (by omega) (by omega)
    refine ⟨(zq (i + 1), setA s 1 (zq (25 * K + i)) (zq (g.h i))), ?_, rfl, hE.tr (zmE_h hK s (by omega) _), ?_⟩
    · unfold fX4_copy_b2
      simp (disch := omega) only [zq_l0, zq_l1, zq_l2, zq_l3, zq_l4, zq_l5, zq_l6, zq_l8, zq_l10, zq_l25, zq_l29, zq_l30, zq_l32, zq_l50, zq_l63, zq_l99, zq_l100, zq_l125, zq_l200, zq_l338, zq_l505, zq_l6000, zq_l10000, zq_l20, zq_bnd, zq_nm, zq_ck, zq_ex, zq_neg, zq_add, zq_sub, zq_mul, zq_div, zq_lt, zq_le, zq_eq, zq_tn, zq_setA_1, zq_setS_2, if_pos, if_neg, zq_if0, zq_if1, ite_true, ite_false, za]
    · intro j j0 j1
      show (setA s 1 (zq (25 * K + i)) (zq (g.h i))).2 1 _ = _
      rw [zq_wr _ _ _ _ (by omega) (by omega)]
      by_cases hj : j = i
      · rw [if_pos ⟨rfl, by omega⟩, hj]
      · rw [if_neg (by omega)]; exact h2 j j0 (by omega)
  · rintro ⟨s1, s⟩ ⟨e, hE, h2⟩
    have e : s1 = zq 25 := e
    subst e
    have hE : zmE K M s := hE
    have h2 : ∀ j : Int, 0 ≤ j → j < (25 : Nat) → s.2 1 (25 * K + j).toNat = zq (g.h j) := h2
    obtain ⟨M', e, q⟩ := zm_copy38 z w hL hK hne hE (fun c c0 c1 => h2 c c0 (by omega))
    refine ⟨M', ?_, q⟩
    unfold fX4_copy_b2
    rw [zq_l0] at e
    simp (disch := omega) only [zq_l0, zq_l1, zq_l2, zq_l3, zq_l4, zq_l5, zq_l6, zq_l8, zq_l10, zq_l25, zq_l29, zq_l30, zq_l32, zq_l50, zq_l63, zq_l99, zq_l100, zq_l125, zq_l200, zq_l338, zq_l505, zq_l6000, zq_l10000, zq_l20, zq_bnd, zq_nm, zq_ck, zq_ex, zq_neg, zq_add, zq_sub, zq_mul, zq_div, zq_lt, zq_le, zq_eq, zq_tn, zq_setA_1, zq_setS_2, if_pos, if_neg, zq_if0, zq_if1, ite_true, ite_false, e]
/-- the reference makes a turn: who stands where -/
theorem zm_act1 {M : SC} {L : Int} {g : ZG} (z : ZM M L g) (w : ZW g) (hp : ZP g) (hL : 0 ≤ L ∧ L < 5) {n k c d e : Int} (t : ZT g n k c d e) : ∃ S, fX4_act M (zq L) (zq n) = fX4_act_j89 (zq L) (zq n) (zq g.m) (zq (4 * L + 2 * g.m + k)) (zq c) (zq d) S ∧ zmE L M S ∧ (∀ b, b ≠ 2 → S.2 b = M.2 b) ∧ (∀ y : Int, 0 ≤ y → y < 4 → S.2 2 (4 * L + y).toNat = if y = g.bI d then zq (g.sd c d) else zq (g.a y)) := by
  have hn := w.n
  have hB := w.B
  have hk := t.k0
  have hd := t.d0
  have hc := t.c0
  have he := t.e0
  have ht := t.en
  have hi := t.i
  have hm : 0 ≤ g.m ∧ g.m ≤ 1 := by rcases w.m with h | h <;> omega
  have hpm := zq_pm w
  have hbd := zq_bI g d
  obtain ⟨n1, n2, n3⟩ := t.nums w
  obtain ⟨p1, p2, p3⟩ := zq_parts (n := n) (by omega)
  rw [n1] at p1
  rw [n2] at p2
  have ha := z.a _ hi.1 hi.2
  rw [show 4 * L + (2 * g.m + k) = 4 * L + 2 * g.m + k by omega, t.ec] at ha
  have bi := zm_builderIn z w hL hd.1 (show d < 25 by omega)
  unfold fX4_act
  rw [p1, p2]
  clear p1 p2 p3
  simp (disch := omega) only [zq_l0, zq_l1, zq_l2, zq_l3, zq_l4, zq_l5, zq_l6, zq_l8, zq_l10, zq_l25, zq_l29, zq_l30, zq_l32, zq_l50, zq_l63, zq_l99, zq_l100, zq_l125, zq_l200, zq_l338, zq_l505, zq_l6000, zq_l10000, zq_l20, zq_bnd, zq_nm, zq_ck, zq_ex, zq_neg, zq_add, zq_sub, zq_mul, zq_div, zq_lt, zq_le, zq_eq, zq_tn, zq_setA_1, zq_setS_2, if_pos, if_neg, zq_if0, zq_if1, ite_true, ite_false, z.m, ha, bi, zq_m1, z.pm w, zm_beyond z w (c := c) (d := d) (by omega) (by omega)]
  by_cases ho : g.bI d = -1
  · rw [if_pos ho]
    exact ⟨M, rfl, zmE.rf, fun _ _ => rfl, fun y y0 y4 => by rw [if_neg (by omega)]; exact z.a y y0 y4⟩
  · rw [if_neg ho]
    have wr : ∀ v : Int, v = g.sd c d → fX4_act_j88 (zq L) (zq n) (zq g.m) (zq (4 * L + 2 * g.m + k)) (zq c) (zq d) (zq (4 * L + g.bI d)) (zq v) M = fX4_act_j89 (zq L) (zq n) (zq g.m) (zq (4 * L + 2 * g.m + k)) (zq c) (zq d) (setA M 2 (zq (4 * L + g.bI d)) (zq (g.sd c d))) := by
      intro v hv
      unfold fX4_act_j88
      rw [hv, zq_ck _ (by omega), zq_nm]
    refine ⟨setA M 2 (zq (4 * L + g.bI d)) (zq (g.sd c d)), ?_, zmE_a hL M (by omega) _, fun b hb => zq_setA_other _ _ _ _ _ hb, fun y y0 y4 => ?_⟩
    · by_cases h2 : g.pm = 2
      · rw [if_pos h2, wr c (by unfold ZG.sd; rw [if_pos h2])]
      · rw [if_neg h2, wr (g.bey c d) (by unfold ZG.sd; rw [if_neg h2])]
    · rw [zq_wr _ _ _ _ (by omega) (by omega)]
      by_cases h : y = g.bI d
      · rw [if_pos ⟨rfl, by omega⟩, if_pos h]
      · rw [if_neg (by omega), if_neg h]; exact z.a y y0 y4
/-- the rest of it -/
theorem zm_act2 {M S : SC} {L : Int} {g : ZG} (z : ZM M L g) (w : ZW g) (hp : ZP g) (hL : 0 ≤ L ∧ L < 5) {n k c d e : Int} (t : ZT g n k c d e) (E : zmE L M S) (h2 : ∀ b, b ≠ 2 → S.2 b = M.2 b) (ha : ∀ y : Int, 0 ≤ y → y < 4 → S.2 2 (4 * L + y).toNat = if y = g.bI d then zq (g.sd c d) else zq (g.a y)) :
    ∃ S', fX4_act_j89 (zq L) (zq n) (zq g.m) (zq (4 * L + 2 * g.m + k)) (zq c) (zq d) S = fX4_act_j135 (zq L) (zq n) (zq g.m) (zq L) (zq (g.act n).b) S' ∧ zmE L M S' ∧ (∀ b, b ≠ 2 → S'.2 b = M.2 b) ∧ (∀ y : Int, 0 ≤ y → y < 4 → S'.2 2 (4 * L + y).toNat = zq ((g.act n).a y)) := by
  have hn := w.n
  have hk := t.k0
  have hd := t.d0
  have hc := t.c0
  have hi := t.i
  have hm : 0 ≤ g.m ∧ g.m ≤ 1 := by rcases w.m with h | h <;> omega
  have hpm := zq_pm w
  have hhc := w.h c hc.1 (by omega)
  have hhd := w.h d hd.1 (by omega)
  obtain ⟨n1, n2, n3⟩ := t.nums w
  have hb : (g.act n).b = if g.pm = 4 ∧ g.h c < g.h d then 1 else 0 := by
    show (if g.pm = 4 ∧ g.h (g.a (2 * g.m + n / 10000)) < g.h (n / 100 % 100) then (1 : Int) else 0) = _
    rw [n1, n2, t.ec]
  have r : ∀ b, b ≠ 2 → (setA S 2 (zq (4 * L + 2 * g.m + k)) (zq d)).2 b = M.2 b := fun b hb => by rw [zq_setA_other _ _ _ _ _ hb, h2 b hb]
  refine ⟨setA S 2 (zq (4 * L + 2 * g.m + k)) (zq d), ?_, E.tr (zmE_a hL S (by omega) _), r, fun y y0 y4 => ?_⟩
  · have pw : (setA S 2 (zq (4 * L + 2 * g.m + k)) (zq d)).2 0 g.m.toNat = zq g.pm := by rw [r 0 (by omega)]; exact z.pm w
    have hi1 : ∀ x, 0 ≤ x → x < 25 → fX4_high (setA S 2 (zq (4 * L + 2 * g.m + k)) (zq d)) (zq L) (zq x) = some (zq (g.h x)) := by
      intro x x0 x1
      have := zm_high z hL x0 x1
      unfold fX4_high at this ⊢
      rw [r 1 (by omega)]
      exact this
    unfold fX4_act_j89 fX4_act_j134
    simp (disch := omega) only [zq_l0, zq_l1, zq_l2, zq_l3, zq_l4, zq_l5, zq_l6, zq_l8, zq_l10, zq_l25, zq_l29, zq_l30, zq_l32, zq_l50, zq_l63, zq_l99, zq_l100, zq_l125, zq_l200, zq_l338, zq_l505, zq_l6000, zq_l10000, zq_l20, zq_bnd, zq_nm, zq_ck, zq_ex, zq_neg, zq_add, zq_sub, zq_mul, zq_div, zq_lt, zq_le, zq_eq, zq_tn, zq_setA_1, zq_setS_2, if_pos, if_neg, zq_if0, zq_if1, ite_true, ite_false, pw, hi1 c hc.1 (show c < 25 by omega), hi1 d hd.1 (show d < 25 by omega)]
    rw [hb]
    by_cases h4 : g.pm = 4
    · rw [if_pos h4]
      by_cases hle : g.h d ≤ g.h c
      · rw [if_pos hle, if_neg (by omega)]
      · rw [if_neg hle, if_pos (by omega)]
    · rw [if_neg h4, if_neg (by omega)]
  · rw [zq_wr _ _ _ _ (by omega) (by omega), zt_a w t]
    by_cases h : y = 2 * g.m + k
    · rw [if_pos ⟨rfl, by omega⟩, if_pos h]
    · rw [if_neg (by omega), if_neg h, ha y y0 y4]
      split <;> rfl
theorem zm_act {M : SC} {L : Int} {g : ZG} (z : ZM M L g) (w : ZW g) (hp : ZP g) (hL : 0 ≤ L ∧ L < 5) {n k c d e : Int} (t : ZT g n k c d e) : ∃ M', fX4_act M (zq L) (zq n) = some M' ∧ ZM M' L (g.act n) ∧ zmE L M M' := by
  have hn := w.n
  have hB := w.B
  have hk := t.k0
  have hd := t.d0
  have he := t.e0
  have ht := t.en
  have hm : 0 ≤ g.m ∧ g.m ≤ 1 := by rcases w.m with h | h <;> omega
  have w' := zw_act w t
  obtain ⟨n1, n2, n3⟩ := t.nums w
  obtain ⟨p1, p2, p3⟩ := zq_parts (n := n) (by omega)
  rw [n3] at p3
  clear p1 p2 ht
  obtain ⟨S1, e1, E1, r1, a1⟩ := zm_act1 z w hp hL t
  obtain ⟨S2, e2, E2, r2, a2⟩ := zm_act2 z w hp hL t E1 r1 a1
  rw [e1, e2]
  -- behind the climbing
  have E3 := E2.tr (zmE_b hL S2 (zq (g.act n).b))
  have fin : ∀ S4 : SC, zmE L M S4 → S4.2 0 = M.2 0 → S4.2 2 = S2.2 2 → S4.2 4 = (setA S2 4 (zq L) (zq (g.act n).b)).2 4 → (∀ x, 0 ≤ x → x < 25 → S4.2 1 (25 * L + x).toNat = zq ((g.act n).h x)) → ∃ M', fX4_act_j198 (zq L) (zq g.m) S4 = some M' ∧ ZM M' L (g.act n) ∧ zmE L M M' := by
    intro S4 E4 q0 q2 q4 qh
    refine ⟨setA S4 3 (zq L) (zq (1 - g.m)), ?_, ?_, E4.tr (zmE_m hL S4 _)⟩
    · unfold fX4_act_j198
      simp (disch := omega) only [zq_l0, zq_l1, zq_l2, zq_l3, zq_l4, zq_l5, zq_l6, zq_l8, zq_l10, zq_l25, zq_l29, zq_l30, zq_l32, zq_l50, zq_l63, zq_l99, zq_l100, zq_l125, zq_l200, zq_l338, zq_l505, zq_l6000, zq_l10000, zq_l20, zq_bnd, zq_nm, zq_ck, zq_ex, zq_neg, zq_add, zq_sub, zq_mul, zq_div, zq_lt, zq_le, zq_eq, zq_tn, zq_setA_1, zq_setS_2, if_pos, if_neg, zq_if0, zq_if1, ite_true, ite_false]
    · refine ⟨?_, ?_, ?_, ?_, ?_, ?_, ?_, ?_, ?_⟩
      · show S4.1 1 = _; rw [E4.1]; exact z.R
      · show S4.1 2 = _; rw [E4.1]; exact z.C
      · show S4.1 3 = _; rw [E4.1]; exact z.B
      · rw [zq_setA_other _ _ _ _ _ (by omega), q0]; exact z.p0
      · rw [zq_setA_other _ _ _ _ _ (by omega), q0]; exact z.p1
      · intro x x0 x1; rw [zq_setA_other _ _ _ _ _ (by omega)]; exact qh x x0 x1
      · intro y y0 y4; rw [zq_setA_other _ _ _ _ _ (by omega), q2]; exact a2 y y0 y4
      · rw [zq_wr _ _ _ _ (by omega) (by omega), if_pos ⟨rfl, rfl⟩]; rfl
      · rw [zq_setA_other _ _ _ _ _ (by omega), q4, zq_wr _ _ _ _ (by omega) (by omega), if_pos ⟨rfl, rfl⟩]
  have s3h : ∀ x, 0 ≤ x → x < 25 → (setA S2 4 (zq L) (zq (g.act n).b)).2 1 (25 * L + x).toNat = zq (g.h x) := by
    intro x x0 x1
    rw [zq_setA_other _ _ _ _ _ (by omega), r2 1 (by omega)]; exact z.h x x0 x1
  have s30 : (setA S2 4 (zq L) (zq (g.act n).b)).2 0 = M.2 0 := by rw [zq_setA_other _ _ _ _ _ (by omega), r2 0 (by omega)]
  have s32 : (setA S2 4 (zq L) (zq (g.act n).b)).2 2 = S2.2 2 := zq_setA_other _ _ _ _ _ (by omega)
  unfold fX4_act_j135 fX4_act_j175
  rw [p3, zq_nar w'.b]
  clear p3 n1 n2 n3
  generalize setA S2 4 (zq L) (zq (g.act n).b) = S3 at *
  simp (disch := omega) only [zq_l0, zq_l1, zq_l2, zq_l3, zq_l4, zq_l5, zq_l6, zq_l8, zq_l10, zq_l25, zq_l29, zq_l30, zq_l32, zq_l50, zq_l63, zq_l99, zq_l100, zq_l125, zq_l200, zq_l338, zq_l505, zq_l6000, zq_l10000, zq_l20, zq_bnd, zq_nm, zq_ck, zq_ex, zq_neg, zq_add, zq_sub, zq_mul, zq_div, zq_lt, zq_le, zq_eq, zq_tn, zq_setA_1, zq_setS_2, if_pos, if_neg, zq_if0, zq_if1, ite_true, ite_false]
  by_cases h9 : e = 99
  · rw [if_neg (by omega), if_pos h9]
    exact fin S3 E3 s30 s32 rfl (fun x x0 x1 => by
      rw [zt_h w t x x0, if_neg (by unfold zqBc; rw [if_pos h9]; omega)]; exact s3h x x0 x1)
  · obtain ⟨fr, b0, b1⟩ := t.fre h9
    by_cases h5 : e < 50
    · have hbc : zqBc e = e := by unfold zqBc; rw [if_neg h9, if_neg (by omega)]
      rw [hbc] at b0 b1
      have hh := w.h e b0 (by omega)
      rw [if_pos h5]
      simp (disch := omega) only [zq_l0, zq_l1, zq_l2, zq_l3, zq_l4, zq_l5, zq_l6, zq_l8, zq_l10, zq_l25, zq_l29, zq_l30, zq_l32, zq_l50, zq_l63, zq_l99, zq_l100, zq_l125, zq_l200, zq_l338, zq_l505, zq_l6000, zq_l10000, zq_l20, zq_bnd, zq_nm, zq_ck, zq_ex, zq_neg, zq_add, zq_sub, zq_mul, zq_div, zq_lt, zq_le, zq_eq, zq_tn, zq_setA_1, zq_setS_2, if_pos, if_neg, zq_if0, zq_if1, ite_true, ite_false, s3h e b0 (show e < 25 by omega)]
      refine fin _ (E3.tr (zmE_h hL S3 (by omega) _)) ?_ ?_ ?_ ?_
      · rw [zq_setA_other _ _ _ _ _ (by omega)]; exact s30
      · rw [zq_setA_other _ _ _ _ _ (by omega)]; exact s32
      · rw [zq_setA_other _ _ _ _ _ (by omega)]
      · intro x x0 x1
        rw [zq_wr _ _ _ _ (by omega) (by omega), zt_h w t x x0, hbc]
        by_cases hx : x = e
        · rw [if_pos ⟨rfl, by omega⟩, if_pos hx, if_neg (by omega), hx]
        · rw [if_neg (by omega), if_neg hx]; exact s3h x x0 x1
    · have hbc : zqBc e = e - 50 := by unfold zqBc; rw [if_neg h9, if_pos (by omega)]
      rw [hbc] at b0 b1
      rw [if_neg h5, if_neg h9]
      simp (disch := omega) only [zq_l0, zq_l1, zq_l2, zq_l3, zq_l4, zq_l5, zq_l6, zq_l8, zq_l10, zq_l25, zq_l29, zq_l30, zq_l32, zq_l50, zq_l63, zq_l99, zq_l100, zq_l125, zq_l200, zq_l338, zq_l505, zq_l6000, zq_l10000, zq_l20, zq_bnd, zq_nm, zq_ck, zq_ex, zq_neg, zq_add, zq_sub, zq_mul, zq_div, zq_lt, zq_le, zq_eq, zq_tn, zq_setA_1, zq_setS_2, if_pos, if_neg, zq_if0, zq_if1, ite_true, ite_false]
      refine fin _ (E3.tr (zmE_h hL S3 (by omega) _)) ?_ ?_ ?_ ?_
      · rw [zq_setA_other _ _ _ _ _ (by omega)]; exact s30
      · rw [zq_setA_other _ _ _ _ _ (by omega)]; exact s32
      · rw [zq_setA_other _ _ _ _ _ (by omega)]
      · intro x x0 x1
        rw [zq_wr _ _ _ _ (by omega) (by omega), zt_h w t x x0, hbc]
        by_cases hx : x = e - 50
        · rw [if_pos ⟨rfl, by omega⟩, if_pos hx, if_pos (by omega)]
        · rw [if_neg (by omega), if_neg hx]; exact s3h x x0 x1
