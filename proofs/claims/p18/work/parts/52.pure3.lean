set_option maxRecDepth 100000
/-! a turn is made -/
def ZG.sd (g : ZG) (c d : Int) : Int := if g.pm = 2 then c else g.bey c d
def ZG.act (g : ZG) (n : Int) : ZG :=
  ZG.mk g.R g.C g.B g.p
    (fun x => if n % 100 = 99 then g.h x else if 50 ≤ n % 100 then (if x = n % 100 - 50 then 4 else g.h x) else (if x = n % 100 then g.h x + 1 else g.h x))
    (fun x => if x = 2 * g.m + n / 10000 then n / 100 % 100 else if x = g.bI (n / 100 % 100) then g.sd (g.a (2 * g.m + n / 10000)) (n / 100 % 100) else g.a x)
    (1 - g.m)
    (if g.pm = 4 ∧ g.h (g.a (2 * g.m + n / 10000)) < g.h (n / 100 % 100) then 1 else 0)
theorem zq_bIe {g : ZG} (w : ZW g) {i c : Int} (h0 : 0 ≤ i) (h4 : i < 4) (hc : 0 ≤ c) (h : g.a i = c) : g.bI c = i := by
  rw [← h]; exact zq_bIi w h0 h4 (by omega)
theorem zq_bIn {g : ZG} {c : Int} (h : ∀ i, 0 ≤ i → i < 4 → g.a i ≠ c) : g.bI c = -1 := by
  unfold ZG.bI
  rw [if_neg (h 3 (by omega) (by omega)), if_neg (h 2 (by omega) (by omega)), if_neg (h 1 (by omega) (by omega)), if_neg (h 0 (by omega) (by omega))]
theorem zq_bIno {g : ZG} (w : ZW g) {c : Int} (hc : 0 ≤ c) (h : g.bI c = -1) : ∀ i, 0 ≤ i → i < 4 → g.a i ≠ c := by
  intro i h0 h4 he
  have := zq_bIe w h0 h4 hc he
  omega
/-- what is known of a turn -/
def ZT (g : ZG) (n k c d e : Int) : Prop := (n = 10000 * k + 100 * d + e) ∧ (0 ≤ k ∧ k < g.B) ∧ (0 ≤ 2 * g.m + k ∧ 2 * g.m + k < 4) ∧ (g.a (2 * g.m + k) = c) ∧ (0 ≤ c ∧ c < g.n) ∧ (g.h c < 4) ∧ (g.bI c = 2 * g.m + k) ∧ (0 ≤ d ∧ d < g.n) ∧ (g.h d < 4) ∧ (c ≠ d) ∧ (0 ≤ e ∧ e < 100) ∧ (e ≠ 99 → (e < g.n ∨ (50 ≤ e ∧ e < 50 + g.n))) ∧ (g.bI d ≠ -1 → (g.bI d / 2 ≠ g.m ∧ (g.pm = 2 ∨ (g.pm = 3 ∧ 0 ≤ g.bey c d ∧ g.bey c d < g.n ∧ g.bey c d = d + (d - c) ∧ g.bey c d ≠ c ∧ g.bey c d ≠ d ∧ g.bI (g.bey c d) = -1 ∧ g.h (g.bey c d) < 4)))) ∧ (e < 50 → g.fre c d e) ∧ (50 ≤ e → e ≠ 99 → (g.fre c d (e - 50) ∧ g.h (e - 50) < 3 ∧ g.pm = 6)) ∧ (e ≠ 99 → g.come c d false) ∧ (e = 99 → g.come c d true)
theorem ZT.en {g : ZG} {n k c d e : Int} (w : ZT g n k c d e) : n = 10000 * k + 100 * d + e := w.1
theorem ZT.k0 {g : ZG} {n k c d e : Int} (w : ZT g n k c d e) : 0 ≤ k ∧ k < g.B := w.2.1
theorem ZT.i {g : ZG} {n k c d e : Int} (w : ZT g n k c d e) : 0 ≤ 2 * g.m + k ∧ 2 * g.m + k < 4 := w.2.2.1
theorem ZT.ec {g : ZG} {n k c d e : Int} (w : ZT g n k c d e) : g.a (2 * g.m + k) = c := w.2.2.2.1
theorem ZT.c0 {g : ZG} {n k c d e : Int} (w : ZT g n k c d e) : 0 ≤ c ∧ c < g.n := w.2.2.2.2.1
theorem ZT.hc {g : ZG} {n k c d e : Int} (w : ZT g n k c d e) : g.h c < 4 := w.2.2.2.2.2.1
theorem ZT.bc {g : ZG} {n k c d e : Int} (w : ZT g n k c d e) : g.bI c = 2 * g.m + k := w.2.2.2.2.2.2.1
theorem ZT.d0 {g : ZG} {n k c d e : Int} (w : ZT g n k c d e) : 0 ≤ d ∧ d < g.n := w.2.2.2.2.2.2.2.1
theorem ZT.hd {g : ZG} {n k c d e : Int} (w : ZT g n k c d e) : g.h d < 4 := w.2.2.2.2.2.2.2.2.1
theorem ZT.cd {g : ZG} {n k c d e : Int} (w : ZT g n k c d e) : c ≠ d := w.2.2.2.2.2.2.2.2.2.1
theorem ZT.e0 {g : ZG} {n k c d e : Int} (w : ZT g n k c d e) : 0 ≤ e ∧ e < 100 := w.2.2.2.2.2.2.2.2.2.2.1
theorem ZT.eb {g : ZG} {n k c d e : Int} (w : ZT g n k c d e) : e ≠ 99 → (e < g.n ∨ (50 ≤ e ∧ e < 50 + g.n)) := w.2.2.2.2.2.2.2.2.2.2.2.1
theorem ZT.occ {g : ZG} {n k c d e : Int} (w : ZT g n k c d e) : g.bI d ≠ -1 → (g.bI d / 2 ≠ g.m ∧ (g.pm = 2 ∨ (g.pm = 3 ∧ 0 ≤ g.bey c d ∧ g.bey c d < g.n ∧ g.bey c d = d + (d - c) ∧ g.bey c d ≠ c ∧ g.bey c d ≠ d ∧ g.bI (g.bey c d) = -1 ∧ g.h (g.bey c d) < 4))) := w.2.2.2.2.2.2.2.2.2.2.2.2.1
theorem ZT.lo {g : ZG} {n k c d e : Int} (w : ZT g n k c d e) : e < 50 → g.fre c d e := w.2.2.2.2.2.2.2.2.2.2.2.2.2.1
theorem ZT.hi {g : ZG} {n k c d e : Int} (w : ZT g n k c d e) : 50 ≤ e → e ≠ 99 → (g.fre c d (e - 50) ∧ g.h (e - 50) < 3 ∧ g.pm = 6) := w.2.2.2.2.2.2.2.2.2.2.2.2.2.2.1
theorem ZT.cf {g : ZG} {n k c d e : Int} (w : ZT g n k c d e) : e ≠ 99 → g.come c d false := w.2.2.2.2.2.2.2.2.2.2.2.2.2.2.2.1
theorem ZT.ct {g : ZG} {n k c d e : Int} (w : ZT g n k c d e) : e = 99 → g.come c d true := w.2.2.2.2.2.2.2.2.2.2.2.2.2.2.2.2
theorem zt_of {g : ZG} (w : ZW g) (hp : ZP g) {n : Int} (h : n ∈ g.trs) : ZT g n (n / 10000) (g.a (2 * g.m + n / 10000)) (n / 100 % 100) (n % 100) := by
  have hn := w.n
  have hB := w.B
  obtain ⟨k, d, e, hn2, k0, k1, d0, d1, hc⟩ := (zq_mem w).mp h
  have e0 : 0 ≤ e ∧ e < 100 := by rcases hc with q | q | q <;> omega
  have ek : n / 10000 = k := by omega
  have ed : n / 100 % 100 = d := by omega
  have ee : n % 100 = e := by omega
  rw [ek, ed, ee]
  obtain ⟨i0, i4, c0, c1, c2, c3⟩ := zq_spot w hp ⟨k0, k1⟩
  have hcm : ∃ v, g.come (g.a (2 * g.m + k)) d v := by
    rcases hc with q | q | q
    · exact ⟨_, q.1⟩
    · exact ⟨_, q.1⟩
    · exact ⟨_, q.2⟩
  obtain ⟨v, hcd, hcm⟩ := hcm
  refine ⟨hn2, ⟨k0, k1⟩, ⟨i0, i4⟩, rfl, ⟨c0, c1⟩, c2, c3, ⟨d0, d1⟩, ?_, hcd, e0, ?_, ?_, ?_, ?_, ?_, ?_⟩
  · rcases hcm with q | ⟨-, x, -, -, -, -, q, -⟩
    · exact q.1.2.1
    · exact q.2.1
  · intro h9
    rcases hc with q | q | q
    · exact Or.inl q.2.2.1
    · exact Or.inr ⟨q.2.2.1, q.2.2.2.1⟩
    · exact absurd q.1 h9
  · intro hoc
    rcases hcm with ⟨q1, q2, -⟩ | ⟨-, x, -, -, -, -, -, q, -⟩
    · obtain ⟨-, f, f0, f8, hnb⟩ := zq_adj w.R w.C (show 0 ≤ _ ∧ _ from ⟨c0, c1⟩) ⟨d0, d1⟩ q1.1
      have a5 := zq_nb w.R w.C (show 0 ≤ g.a (2 * g.m + k) ∧ g.a (2 * g.m + k) < g.R * g.C from ⟨c0, c1⟩) ⟨f0, f8⟩
      have a6 := zq_nb w.R w.C (show 0 ≤ d ∧ d < g.R * g.C from ⟨d0, d1⟩) ⟨f0, f8⟩
      rw [hnb] at a5
      rcases a5 with z | ⟨-, -, -, z1, z2, z3⟩
      · omega
      have hbe : g.bey (g.a (2 * g.m + k)) d = zqNb g.R g.C d f := z1
      rcases q2 with q | ⟨q2, q | ⟨q3, q4, q5, q6⟩⟩
      · exact absurd q hoc
      · exact ⟨q2, Or.inl q⟩
      · refine ⟨q2, Or.inr ⟨q3, ?_⟩⟩
        rw [hbe] at q4 q5 q6 ⊢
        rcases a6 with z | ⟨y1, y2, y3, y4, y5, y6⟩
        · exact absurd z q4
        · exact ⟨y1, y2, by omega, by omega, y6, q5, q6⟩
    · exact absurd q hoc
  · intro h5
    rcases hc with q | q | q
    · exact q.2.2.2
    · omega
    · omega
  · intro h5 h9
    rcases hc with q | q | q
    · omega
    · exact ⟨q.2.2.2.2.1, q.2.2.2.2.2, q.2.1⟩
    · exact absurd q.1 h9
  · intro h9
    rcases hc with q | q | q
    · exact q.1
    · exact q.1
    · exact absurd q.1 h9
  · intro h9
    rcases hc with q | q | q
    · omega
    · omega
    · exact q.2
/-- the cell that is built on, or -1 -/
def zqBc (e : Int) : Int := if e = 99 then -1 else if 50 ≤ e then e - 50 else e
theorem ZT.fre {g : ZG} {n k c d e : Int} (t : ZT g n k c d e) (h : e ≠ 99) : g.fre c d (zqBc e) ∧ 0 ≤ zqBc e ∧ zqBc e < g.n := by
  unfold zqBc
  rw [if_neg h]
  have := t.eb h
  have hn := t.e0
  by_cases h5 : 50 ≤ e
  · rw [if_pos h5]
    exact ⟨(t.hi h5 h).1, by omega, by
      rcases this with q | q
      · omega
      · omega⟩
  · rw [if_neg h5]
    exact ⟨t.lo (by omega), by omega, by omega⟩
/-- where the one that stood at the step's end is brought, or -1 -/
def ZG.as (g : ZG) (c d : Int) : Int := if g.bI d = -1 then -1 else g.sd c d
theorem ZT.as {g : ZG} {n k c d e : Int} (t : ZT g n k c d e) : g.asd c d = g.as c d := by
  unfold ZG.asd ZG.as ZG.sd
  by_cases h : g.bI d = -1
  · rw [if_pos h, if_pos h]
  · rw [if_neg h, if_neg h]
    by_cases h2 : g.pm = 2
    · rw [if_pos h2, if_pos h2]
    · rw [if_neg h2, if_neg h2]
      have := (t.occ h).2.resolve_left h2
      omega
theorem ZT.nums {g : ZG} (w : ZW g) {n k c d e : Int} (t : ZT g n k c d e) : n / 10000 = k ∧ n / 100 % 100 = d ∧ n % 100 = e := by
  have h1 := t.en
  have h2 := t.k0
  have h3 := t.d0
  have h4 := t.e0
  have h5 := w.n
  have h6 := w.B
  omega
theorem zt_a {g : ZG} (w : ZW g) {n k c d e : Int} (t : ZT g n k c d e) (x : Int) : (g.act n).a x = if x = 2 * g.m + k then d else if x = g.bI d then g.sd c d else g.a x := by
  obtain ⟨h1, h2, h3⟩ := t.nums w
  show (if x = 2 * g.m + n / 10000 then n / 100 % 100 else if x = g.bI (n / 100 % 100) then g.sd (g.a (2 * g.m + n / 10000)) (n / 100 % 100) else g.a x) = _
  rw [h1, h2, t.ec]
theorem zt_h {g : ZG} (w : ZW g) {n k c d e : Int} (t : ZT g n k c d e) (x : Int) (hx : 0 ≤ x) : (g.act n).h x = if x = zqBc e then (if 50 ≤ e then 4 else g.h x + 1) else g.h x := by
  obtain ⟨h1, h2, h3⟩ := t.nums w
  show (if n % 100 = 99 then g.h x else if 50 ≤ n % 100 then (if x = n % 100 - 50 then 4 else g.h x) else (if x = n % 100 then g.h x + 1 else g.h x)) = _
  rw [h3]
  unfold zqBc
  by_cases h9 : e = 99
  · rw [if_pos h9, if_pos h9, if_neg (by omega)]
  · rw [if_neg h9, if_neg h9]
    by_cases h5 : 50 ≤ e
    · rw [if_pos h5, if_pos h5, if_pos h5]
    · rw [if_neg h5, if_neg h5, if_neg h5]
/-- where the one at the step's end goes -/
theorem ZT.sd {g : ZG} (w : ZW g) {n k c d e : Int} (t : ZT g n k c d e) (ho : g.bI d ≠ -1) : 0 ≤ g.sd c d ∧ g.sd c d < g.n ∧ g.sd c d ≠ d ∧ g.h (g.sd c d) < 4 ∧ (∀ x, 0 ≤ x → x < 4 → x ≠ 2 * g.m + k → g.a x ≠ g.sd c d) ∧ g.bI d ≠ 2 * g.m + k ∧ 0 ≤ g.bI d ∧ g.bI d < 4 := by
  have hb := zq_bI g d
  have hB := w.B
  have h3 := t.k0
  obtain ⟨o1, o2⟩ := t.occ ho
  have ci := t.i
  have cc := t.c0
  have ec := t.ec
  refine ⟨?_, ?_, ?_, ?_, ?_, by omega, by omega, by omega⟩
  all_goals unfold ZG.sd
  · split
    · exact cc.1
    · exact (o2.resolve_left (by assumption)).2.1
  · split
    · exact cc.2
    · exact (o2.resolve_left (by assumption)).2.2.1
  · split
    · exact t.cd
    · exact (o2.resolve_left (by assumption)).2.2.2.2.2.1
  · split
    · exact t.hc
    · exact (o2.resolve_left (by assumption)).2.2.2.2.2.2.2
  · intro x x0 x4 xi
    split
    · intro hx
      exact xi (w.inj x (2 * g.m + k) x0 x4 ci.1 ci.2 (by rw [hx, ec]) (by omega))
    · have q := o2.resolve_left (by assumption)
      exact zq_bIno w q.2.1 q.2.2.2.2.2.2.1 x x0 x4
theorem zt_ne {g : ZG} (w : ZW g) {n k c d e : Int} (t : ZT g n k c d e) {x : Int} (x0 : 0 ≤ x) (x4 : x < 4) (h2 : x ≠ g.bI d) : g.a x ≠ d := fun h => h2 (zq_bIe w x0 x4 t.d0.1 h).symm
theorem zw_act {g : ZG} (w : ZW g) {n k c d e : Int} (t : ZT g n k c d e) : ZW (g.act n) := by
  have hn := w.n
  have hB := w.B
  have hk := t.k0
  have hbd := zq_bI g d
  refine ⟨w.R, w.C, w.B, w.p, ?_, ?_, ?_, ?_, ?_, ?_, ?_⟩
  · intro x x0 x1
    rw [zt_h w t x x0]
    have hx := w.h x x0 x1
    by_cases hc : x = zqBc e
    · rw [if_pos hc]
      by_cases h9 : e = 99
      · unfold zqBc at hc
        rw [if_pos h9] at hc
        omega
      · have := (t.fre h9).1.2.1
        rw [← hc] at this
        split <;> omega
    · rw [if_neg hc]; exact hx
  · intro x x0 x4
    rw [zt_a w t x]
    have hd := t.d0
    have ha := w.a x x0 x4
    show -1 ≤ _ ∧ _ < g.n
    by_cases h1 : x = 2 * g.m + k
    · rw [if_pos h1]; omega
    · rw [if_neg h1]
      by_cases h2 : x = g.bI d
      · rw [if_pos h2]
        have s := t.sd w (by omega)
        omega
      · rw [if_neg h2]; exact ha
  · intro x y x0 x4 y0 y4
    rw [zt_a w t x, zt_a w t y]
    have hd := t.d0
    have ne := fun (x : Int) (x0 : 0 ≤ x) (x4 : x < 4) (h2 : x ≠ g.bI d) => zt_ne w t x0 x4 h2
    by_cases h1 : x = 2 * g.m + k
    · rw [if_pos h1]
      by_cases h2 : y = 2 * g.m + k
      · intro _ _; omega
      · rw [if_neg h2]
        by_cases h3 : y = g.bI d
        · rw [if_pos h3]
          have s := t.sd w (by omega)
          intro q; exact absurd q.symm s.2.2.1
        · rw [if_neg h3]
          intro q; exact absurd q.symm (ne y y0 y4 h3)
    · rw [if_neg h1]
      by_cases h3 : x = g.bI d
      · rw [if_pos h3]
        have s := t.sd w (by omega)
        by_cases h2 : y = 2 * g.m + k
        · rw [if_pos h2]
          intro q; exact absurd q s.2.2.1
        · rw [if_neg h2]
          by_cases h4 : y = g.bI d
          · intro _ _; omega
          · rw [if_neg h4]
            intro q; exact absurd q.symm (s.2.2.2.2.1 y y0 y4 h2)
      · rw [if_neg h3]
        by_cases h2 : y = 2 * g.m + k
        · rw [if_pos h2]
          intro q; exact absurd q (ne x x0 x4 h3)
        · rw [if_neg h2]
          by_cases h4 : y = g.bI d
          · rw [if_pos h4]
            have s := t.sd w (by omega)
            intro q; exact absurd q (s.2.2.2.2.1 x x0 x4 h1)
          · rw [if_neg h4]
            exact w.inj x y x0 x4 y0 y4
  · intro x x0 x4 hne
    rw [zt_a w t x] at hne ⊢
    have hd := t.d0
    -- the cell where x stands is not built on
    have key : ∀ y, 0 ≤ y → g.h y < 4 → (e ≠ 99 → y ≠ zqBc e) → (g.act n).h y < 4 := by
      intro y y0 hy hb
      rw [zt_h w t y y0]
      by_cases hc : y = zqBc e
      · by_cases h9 : e = 99
        · unfold zqBc at hc
          rw [if_pos h9] at hc; omega
        · exact absurd hc (hb h9)
      · rw [if_neg hc]; exact hy
    by_cases h1 : x = 2 * g.m + k
    · rw [if_pos h1] at hne ⊢
      refine key d hd.1 t.hd (fun h9 q => ?_)
      have := (t.fre h9).1.1.1
      exact this q
    · rw [if_neg h1] at hne ⊢
      by_cases h2 : x = g.bI d
      · rw [if_pos h2] at hne ⊢
        have ho : g.bI d ≠ -1 := by omega
        have s := t.sd w ho
        refine key _ s.1 s.2.2.2.1 (fun h9 q => ?_)
        have f := (t.fre h9).1.2.2
        have o2 := (t.occ ho).2
        unfold ZG.sd at q
        by_cases h5 : g.pm = 2
        · rw [if_pos h5] at q
          rcases f with f | f
          · exact f.2 ⟨ho, h5⟩
          · exact f.1 q.symm
        · rw [if_neg h5] at q
          have o3 := o2.resolve_left h5
          rcases f with f | f
          · exact o3.2.2.2.2.1 (by rw [q]; exact f.1)
          · exact f.2.2 ⟨ho, o3.1, q⟩
      · rw [if_neg h2] at hne ⊢
        have ha := w.a x x0 x4
        refine key _ (by omega) (w.low x x0 x4 hne) (fun h9 q => ?_)
        have f := (t.fre h9).1.2.2
        rcases f with f | f
        · have e1 : g.a x = g.a (2 * g.m + k) := by rw [q, f.1, t.ec]
          exact h1 (w.inj x _ x0 x4 t.i.1 t.i.2 e1 hne)
        · exact zq_bIno w (t.fre h9).2.1 f.2.1 x x0 x4 q
  · show 1 - g.m = 0 ∨ 1 - g.m = 1
    rcases w.m with h | h <;> omega
  · show (if _ then (1 : Int) else 0) = 0 ∨ (if _ then (1 : Int) else 0) = 1
    split <;> omega
  · intro x x0 x4 hx
    rw [zt_a w t x]
    have hx : g.B ≤ x % 2 := hx
    have := w.out x x0 x4 hx
    have hm : g.m = 0 ∨ g.m = 1 := w.m
    by_cases h1 : x = 2 * g.m + k
    · rcases hm with h | h <;> omega
    · rw [if_neg h1]
      by_cases h2 : x = g.bI d
      · have e1 := zq_bIa (g := g) (c := d) (by omega)
        rw [← h2, this] at e1
        have := t.d0
        omega
      · rw [if_neg h2]; exact this
theorem zp_act {g : ZG} (w : ZW g) (hp : ZP g) {n k c d e : Int} (t : ZT g n k c d e) : ZP (g.act n) := by
  intro x x0 x4 hx
  rw [zt_a w t x]
  have hx : x % 2 < g.B := hx
  have hd := t.d0
  split
  · omega
  · split
    · have s := t.sd w (by omega)
      omega
    · exact hp x x0 x4 hx
/-- who stands where, behind a turn -/
theorem zt_bI {g : ZG} (w : ZW g) {n k c d e : Int} (t : ZT g n k c d e) {x : Int} (x0 : 0 ≤ x) : (g.act n).bI x = if x = d then 2 * g.m + k else if x = g.as c d then g.bI d else if x = c then -1 else g.bI x := by
  have w' := zw_act w t
  have hn := w.n
  have hbd := zq_bI g d
  have ci := t.i
  have hcd := t.cd
  by_cases h1 : x = d
  · rw [if_pos h1]
    exact zq_bIe w' ci.1 ci.2 x0 (by rw [zt_a w t, if_pos rfl, h1])
  · rw [if_neg h1]
    by_cases h2 : x = g.as c d
    · rw [if_pos h2]
      have ho : g.bI d ≠ -1 := by
        intro h
        unfold ZG.as at h2
        rw [if_pos h] at h2
        omega
      have s := t.sd w ho
      have e1 : x = g.sd c d := by
        rw [h2]; unfold ZG.as; rw [if_neg ho]
      exact zq_bIe w' s.2.2.2.2.2.2.1 s.2.2.2.2.2.2.2 x0 (by rw [zt_a w t, if_neg s.2.2.2.2.2.1, if_pos rfl, e1])
    · rw [if_neg h2]
      have nsd : g.bI d ≠ -1 → g.sd c d ≠ x := by
        intro ho h
        exact h2 (by unfold ZG.as; rw [if_neg ho, h])
      by_cases h3 : x = c
      · rw [if_pos h3]
        refine zq_bIn (fun i i0 i4 => ?_)
        rw [zt_a w t]
        by_cases q1 : i = 2 * g.m + k
        · rw [if_pos q1]; omega
        · rw [if_neg q1]
          by_cases q2 : i = g.bI d
          · rw [if_pos q2]; exact nsd (by omega)
          · rw [if_neg q2]
            intro q
            exact q1 (w.inj i _ i0 i4 ci.1 ci.2 (by rw [q, h3, t.ec]) (by omega))
      · rw [if_neg h3]
        by_cases h4 : g.bI x = -1
        · rw [h4]
          refine zq_bIn (fun i i0 i4 => ?_)
          rw [zt_a w t]
          by_cases q1 : i = 2 * g.m + k
          · rw [if_pos q1]; omega
          · rw [if_neg q1]
            by_cases q2 : i = g.bI d
            · rw [if_pos q2]; exact nsd (by omega)
            · rw [if_neg q2]
              exact zq_bIno w x0 h4 i i0 i4
        · have hb := zq_bI g x
          have ha := zq_bIa h4
          refine zq_bIe w' (by omega) (by omega) x0 ?_
          rw [zt_a w t]
          by_cases q1 : g.bI x = 2 * g.m + k
          · rw [q1, t.ec] at ha; exact absurd ha.symm h3
          · rw [if_neg q1]
            by_cases q2 : g.bI x = g.bI d
            · rw [q2, zq_bIa (by omega)] at ha
              exact absurd ha.symm h1
            · rw [if_neg q2]; exact ha
/-! the class's board is written -/
theorem zc_put {S : SC} {i x : Int} (h0 : 0 ≤ i ∧ i < 4) (hx : 0 ≤ x ∧ x < 25) : fX0_put S (zq (10 * (i / 2) + i % 2)) (zq x) = some (setA (setA S 2 (zq x) (zq (10 * (i / 2) + i % 2))) 3 (zq i) (zq x)) := by
  have e : 2 * ((10 * (i / 2) + i % 2) / 10) + (10 * (i / 2) + i % 2 - (10 * (i / 2) + i % 2) / 10 * 10) = i := by omega
  unfold fX0_put
  simp (disch := omega) only [zq_l0, zq_l1, zq_l2, zq_l3, zq_l4, zq_l5, zq_l6, zq_l8, zq_l10, zq_l25, zq_l29, zq_l30, zq_l32, zq_l50, zq_l63, zq_l99, zq_l100, zq_l125, zq_l200, zq_l338, zq_l505, zq_l6000, zq_l10000, zq_l20, zq_bnd, zq_nm, zq_ck, zq_ex, zq_neg, zq_add, zq_sub, zq_mul, zq_div, zq_lt, zq_le, zq_eq, zq_tn, zq_setA_1, zq_setS_2, if_pos, if_neg, zq_if0, zq_if1, ite_true, ite_false, e]
theorem zc_clear {S : SC} {x : Int} (hx : 0 ≤ x ∧ x < 25) : fX0_clear S (zq x) = some (setA S 2 (zq x) (zq (-1))) := by
  unfold fX0_clear
  simp (disch := omega) only [zq_l0, zq_l1, zq_l2, zq_l3, zq_l4, zq_l5, zq_l6, zq_l8, zq_l10, zq_l25, zq_l29, zq_l30, zq_l32, zq_l50, zq_l63, zq_l99, zq_l100, zq_l125, zq_l200, zq_l338, zq_l505, zq_l6000, zq_l10000, zq_l20, zq_bnd, zq_nm, zq_ck, zq_ex, zq_neg, zq_add, zq_sub, zq_mul, zq_div, zq_lt, zq_le, zq_eq, zq_tn, zq_setA_1, zq_setS_2, if_pos, if_neg, zq_if0, zq_if1, ite_true, ite_false, zq_m1]
theorem zc_setStoreys {S : SC} {x v : Int} (hx : 0 ≤ x ∧ x < 25) : fX0_setStoreys S (zq x) (zq v) = some (setA S 1 (zq x) (zq v)) := by
  unfold fX0_setStoreys
  simp (disch := omega) only [zq_l0, zq_l1, zq_l2, zq_l3, zq_l4, zq_l5, zq_l6, zq_l8, zq_l10, zq_l25, zq_l29, zq_l30, zq_l32, zq_l50, zq_l63, zq_l99, zq_l100, zq_l125, zq_l200, zq_l338, zq_l505, zq_l6000, zq_l10000, zq_l20, zq_bnd, zq_nm, zq_ck, zq_ex, zq_neg, zq_add, zq_sub, zq_mul, zq_div, zq_lt, zq_le, zq_eq, zq_tn, zq_setA_1, zq_setS_2, if_pos, if_neg, zq_if0, zq_if1, ite_true, ite_false]
theorem zc_setStoreys' {S : SC} {v : Int} : fX0_setStoreys S (zq (-1)) (zq v) = some S := by
  unfold fX0_setStoreys
  simp (disch := omega) only [zq_l0, zq_l1, zq_l2, zq_l3, zq_l4, zq_l5, zq_l6, zq_l8, zq_l10, zq_l25, zq_l29, zq_l30, zq_l32, zq_l50, zq_l63, zq_l99, zq_l100, zq_l125, zq_l200, zq_l338, zq_l505, zq_l6000, zq_l10000, zq_l20, zq_bnd, zq_nm, zq_ck, zq_ex, zq_neg, zq_add, zq_sub, zq_mul, zq_div, zq_lt, zq_le, zq_eq, zq_tn, zq_setA_1, zq_setS_2, if_pos, if_neg, zq_if0, zq_if1, ite_true, ite_false]
theorem zc_dest {S : SC} {n : Int} (h : 0 ≤ n ∧ n < 100000) : fX0_destinationOf S (zq n) = some (zq (n / 100 % 100)) := by
  have e : n / 100 - n / 100 / 100 * 100 = n / 100 % 100 := by omega
  unfold fX0_destinationOf
  simp (disch := omega) only [zq_l0, zq_l1, zq_l2, zq_l3, zq_l4, zq_l5, zq_l6, zq_l8, zq_l10, zq_l25, zq_l29, zq_l30, zq_l32, zq_l50, zq_l63, zq_l99, zq_l100, zq_l125, zq_l200, zq_l338, zq_l505, zq_l6000, zq_l10000, zq_l20, zq_bnd, zq_nm, zq_ck, zq_ex, zq_neg, zq_add, zq_sub, zq_mul, zq_div, zq_lt, zq_le, zq_eq, zq_tn, zq_setA_1, zq_setS_2, if_pos, if_neg, zq_if0, zq_if1, ite_true, ite_false, e]
theorem zc_built {S : SC} {n : Int} (h : 0 ≤ n ∧ n < 100000) : fX0_builtCellOf S (zq n) = some (zq (zqBc (n % 100))) := by
  have e : n - n / 100 * 100 = n % 100 := by omega
  unfold fX0_builtCellOf zqBc
  simp (disch := omega) only [zq_l0, zq_l1, zq_l2, zq_l3, zq_l4, zq_l5, zq_l6, zq_l8, zq_l10, zq_l25, zq_l29, zq_l30, zq_l32, zq_l50, zq_l63, zq_l99, zq_l100, zq_l125, zq_l200, zq_l338, zq_l505, zq_l6000, zq_l10000, zq_l20, zq_bnd, zq_nm, zq_ck, zq_ex, zq_neg, zq_add, zq_sub, zq_mul, zq_div, zq_lt, zq_le, zq_eq, zq_tn, zq_setA_1, zq_setS_2, if_pos, if_neg, zq_if0, zq_if1, ite_true, ite_false, e, zq_m1]
  by_cases h9 : n % 100 = 99
  · rw [if_pos h9, if_pos h9]
  · rw [if_neg h9, if_neg h9]
    by_cases h5 : 50 ≤ n % 100
    · rw [if_pos h5, if_pos h5]
    · rw [if_neg h5, if_neg h5]
theorem zq_wr (S : SC) (a b : Nat) {i x : Int} (v : Int32) (hi : 0 ≤ i ∧ i < 10000) (hx : 0 ≤ x) : (setA S a (zq i) v).2 b x.toNat = if b = a ∧ x = i then v else S.2 b x.toNat := by
  by_cases h : b = a
  · subst h
    rw [zq_setA_at, zq_tn (by omega)]
    by_cases h2 : x = i
    · rw [if_pos (by omega), if_pos ⟨rfl, h2⟩]
    · rw [if_neg (by omega), if_neg (fun q => h2 q.2)]
  · rw [zq_setA_other _ _ _ _ _ h, if_neg (fun q => h q.1)]
theorem zc_holderO {S : SC} {g : ZG} (o : ∀ c, 0 ≤ c → c < 25 → S.2 2 c.toNat = zq (g.hold c)) {c : Int} (h0 : 0 ≤ c) (h1 : c < 25) : fX0_holderOf S (zq c) = some (zq (g.hold c)) := by
  unfold fX0_holderOf
  simp (disch := omega) only [zq_l0, zq_l1, zq_l2, zq_l3, zq_l4, zq_l5, zq_l6, zq_l8, zq_l10, zq_l25, zq_l29, zq_l30, zq_l32, zq_l50, zq_l63, zq_l99, zq_l100, zq_l125, zq_l200, zq_l338, zq_l505, zq_l6000, zq_l10000, zq_l20, zq_bnd, zq_nm, zq_ck, zq_ex, zq_neg, zq_add, zq_sub, zq_mul, zq_div, zq_lt, zq_le, zq_eq, zq_tn, zq_setA_1, zq_setS_2, if_pos, if_neg, zq_if0, zq_if1, ite_true, ite_false, o c h0 h1]
theorem zc_carry {S : SC} {g : ZG} (zo : ∀ c, 0 ≤ c → c < 25 → S.2 2 c.toNat = zq (g.hold c)) (za : ∀ i, 0 ≤ i → i < 4 → S.2 3 i.toNat = zq (g.a i)) (w : ZW g) {n k c d e : Int} (t : ZT g n k c d e) : ∃ S', fX0_carry S (zq c) (zq d) (zq (g.as c d)) = some S' ∧ S'.1 = S.1 ∧ (∀ b, b ≠ 2 → b ≠ 3 → S'.2 b = S.2 b) ∧ (∀ x, 0 ≤ x → x < 25 → S'.2 2 x.toNat = zq ((g.act n).hold x)) ∧ (∀ y, 0 ≤ y → y < 4 → S'.2 3 y.toNat = zq ((g.act n).a y)) := by
  have hn := w.n
  have ci := t.i
  have c0 := t.c0
  have d0 := t.d0
  have hcd := t.cd
  have bc := t.bc
  have hh : g.hold c = 10 * ((2 * g.m + k) / 2) + (2 * g.m + k) % 2 := by
    unfold ZG.hold; rw [bc, if_neg (by omega)]
  have hbd := zq_bI g d
  unfold fX0_carry
  rw [zc_holderO zo c0.1 (by omega), zq_bnd, zc_holderO zo d0.1 (by omega), zq_bnd, zc_clear (by omega), zq_bnd, hh, zc_put ci (by omega), zq_bnd]
  by_cases ho : g.bI d = -1
  · have ha : g.as c d = -1 := by unfold ZG.as; rw [if_pos ho]
    rw [ha, if_pos (show zq (-1) = -1 from rfl)]
    refine ⟨_, rfl, rfl, ?_, ?_, ?_⟩
    · intro b h2 h3
      rw [zq_setA_other _ _ _ _ _ h3, zq_setA_other _ _ _ _ _ h2, zq_setA_other _ _ _ _ _ h2]
    · intro x x0 x1
      rw [zq_wr _ _ _ _ (by omega) x0, zq_wr _ _ _ _ (by omega) x0, zq_wr _ _ _ _ (by omega) x0]
      unfold ZG.hold
      rw [zt_bI w t x0, ha]
      by_cases h1 : x = d
      · simp [h1]; rw [if_neg (by omega)]
      · by_cases h2 : x = c
        · have hc1 : c ≠ -1 := by omega
          simp [h1, h2, hcd, hc1]
        · have h3 : x ≠ -1 := by omega
          simp [h1, h2, h3]
          rw [zo x x0 x1]; unfold ZG.hold; rfl
    · intro y y0 y1
      rw [zq_wr _ _ _ _ (by omega) y0, zq_wr _ _ _ _ (by omega) y0, zq_wr _ _ _ _ (by omega) y0, zt_a w t]
      by_cases h1 : y = 2 * g.m + k
      · simp [h1]
      · have h2 : y ≠ g.bI d := by omega
        simp [h1, h2]
        exact za y y0 y1
  · have s := t.sd w ho
    have ha : g.as c d = g.sd c d := by unfold ZG.as; rw [if_neg ho]
    have hd : g.hold d = 10 * (g.bI d / 2) + g.bI d % 2 := by unfold ZG.hold; rw [if_neg ho]
    have hm : ¬ zq (g.as c d) = -1 := by
      rw [zq_m1, zq_eq (by omega)]; omega
    rw [if_neg hm, hd, ha, zc_put (by omega) (by omega), zq_bnd]
    refine ⟨_, rfl, rfl, ?_, ?_, ?_⟩
    · intro b h2 h3
      rw [zq_setA_other _ _ _ _ _ h3, zq_setA_other _ _ _ _ _ h2, zq_setA_other _ _ _ _ _ h3, zq_setA_other _ _ _ _ _ h2, zq_setA_other _ _ _ _ _ h2]
    · intro x x0 x1
      rw [zq_wr _ _ _ _ (by omega) x0, zq_wr _ _ _ _ (by omega) x0, zq_wr _ _ _ _ (by omega) x0, zq_wr _ _ _ _ (by omega) x0, zq_wr _ _ _ _ (by omega) x0]
      unfold ZG.hold
      rw [zt_bI w t x0, ha]
      by_cases h1 : x = d
      · have h4 : d ≠ g.sd c d := fun q => s.2.2.1 q.symm
        simp [h1, h4]; rw [if_neg (by omega)]
      · by_cases h4 : x = g.sd c d
        · simp [h4, s.2.2.1, ho]
        · by_cases h2 : x = c
          · subst h2
            simp [h1, h4]
          · simp [h1, h2, h4]
            rw [zo x x0 x1]; unfold ZG.hold; rfl
    · intro y y0 y1
      rw [zq_wr _ _ _ _ (by omega) y0, zq_wr _ _ _ _ (by omega) y0, zq_wr _ _ _ _ (by omega) y0, zq_wr _ _ _ _ (by omega) y0, zq_wr _ _ _ _ (by omega) y0, zt_a w t]
      by_cases h1 : y = 2 * g.m + k
      · have h2 : y ≠ g.bI d := by omega
        subst h1
        simp [h2]
      · by_cases h2 : y = g.bI d
        · subst h2
          simp [h1]
        · simp [h1, h2]
          exact za y y0 y1
/-- the storeys that a turn's row keeps -/
def ZG.old (g : ZG) (n : Int) : Int := if n % 100 = 99 then 0 else g.h (zqBc (n % 100))
theorem zc_remember {S : SC} {g : ZG} (z : ZC S g) (w : ZW g) {T n c s : Int} (hT : S.1 5 = zq T) (h0 : 0 ≤ T ∧ T ≤ 100) (hn : 0 ≤ n ∧ n < 100000) (hb : n % 100 = 99 ∨ (0 ≤ zqBc (n % 100) ∧ zqBc (n % 100) < 25)) : ∃ S', fX0_remember S (zq n) (zq c) (zq s) = some S' ∧ S'.1 = S.1 ∧ (∀ b, b ≠ 4 → S'.2 b = S.2 b) ∧
    (∀ y : Int, 0 ≤ y → S'.2 4 y.toNat = if y = 5 * T then zq n else if y = 5 * T + 1 then zq c else if y = 5 * T + 2 then zq s else if y = 5 * T + 3 then zq (g.old n) else if y = 5 * T + 4 then zq g.b else S.2 4 y.toNat) := by
  have hbb := w.b
  have st : ∀ S' : SC, S'.2 1 = S.2 1 → fX0_storeysOf S' (zq (zqBc (n % 100))) = some (zq (g.old n)) := by
    intro S' e
    unfold ZG.old
    by_cases h9 : n % 100 = 99
    · rw [if_pos h9]
      have : zqBc (n % 100) = -1 := by unfold zqBc; rw [if_pos h9]
      rw [this, zc_storeysOf']
    · rw [if_neg h9]
      have hb := hb.resolve_left h9
      unfold fX0_storeysOf
      rw [e]
      simp (disch := omega) only [zq_l0, zq_l1, zq_l2, zq_l3, zq_l4, zq_l5, zq_l6, zq_l8, zq_l10, zq_l25, zq_l29, zq_l30, zq_l32, zq_l50, zq_l63, zq_l99, zq_l100, zq_l125, zq_l200, zq_l338, zq_l505, zq_l6000, zq_l10000, zq_l20, zq_bnd, zq_nm, zq_ck, zq_ex, zq_neg, zq_add, zq_sub, zq_mul, zq_div, zq_lt, zq_le, zq_eq, zq_tn, zq_setA_1, zq_setS_2, if_pos, if_neg, zq_if0, zq_if1, ite_true, ite_false, z.h _ hb.1 hb.2]
  refine ⟨setA (setA (setA (setA (setA S 4 (zq (5 * T)) (zq n)) 4 (zq (5 * T + 1)) (zq c)) 4 (zq (5 * T + 2)) (zq s)) 4 (zq (5 * T + 3)) (zq (g.old n))) 4 (zq (5 * T + 4)) (zq g.b), ?_, rfl, ?_, ?_⟩
  · unfold fX0_remember fX0_remember_j90
    rw [hT, Int.mul_comm 5 T]
    simp (disch := omega) only [zq_l0, zq_l1, zq_l2, zq_l3, zq_l4, zq_l5, zq_l6, zq_l8, zq_l10, zq_l25, zq_l29, zq_l30, zq_l32, zq_l50, zq_l63, zq_l99, zq_l100, zq_l125, zq_l200, zq_l338, zq_l505, zq_l6000, zq_l10000, zq_l20, zq_bnd, zq_nm, zq_ck, zq_ex, zq_neg, zq_add, zq_sub, zq_mul, zq_div, zq_lt, zq_le, zq_eq, zq_tn, zq_setA_1, zq_setS_2, if_pos, if_neg, zq_if0, zq_if1, ite_true, ite_false, zc_built hn]
    rw [st _ (by rw [zq_setA_other _ _ _ _ _ (by omega), zq_setA_other _ _ _ _ _ (by omega), zq_setA_other _ _ _ _ _ (by omega)])]
    simp (disch := omega) only [zq_l0, zq_l1, zq_l2, zq_l3, zq_l4, zq_l5, zq_l6, zq_l8, zq_l10, zq_l25, zq_l29, zq_l30, zq_l32, zq_l50, zq_l63, zq_l99, zq_l100, zq_l125, zq_l200, zq_l338, zq_l505, zq_l6000, zq_l10000, zq_l20, zq_bnd, zq_nm, zq_ck, zq_ex, zq_neg, zq_add, zq_sub, zq_mul, zq_div, zq_lt, zq_le, zq_eq, zq_tn, zq_setA_1, zq_setS_2, if_pos, if_neg, zq_if0, zq_if1, ite_true, ite_false, z.b]
    rcases hbb with h | h
    · rw [h]; simp (disch := omega) only [zq_l0, zq_l1, zq_l2, zq_l3, zq_l4, zq_l5, zq_l6, zq_l8, zq_l10, zq_l25, zq_l29, zq_l30, zq_l32, zq_l50, zq_l63, zq_l99, zq_l100, zq_l125, zq_l200, zq_l338, zq_l505, zq_l6000, zq_l10000, zq_l20, zq_bnd, zq_nm, zq_ck, zq_ex, zq_neg, zq_add, zq_sub, zq_mul, zq_div, zq_lt, zq_le, zq_eq, zq_tn, zq_setA_1, zq_setS_2, if_pos, if_neg, zq_if0, zq_if1, ite_true, ite_false]
    · rw [h]; simp (disch := omega) only [zq_l0, zq_l1, zq_l2, zq_l3, zq_l4, zq_l5, zq_l6, zq_l8, zq_l10, zq_l25, zq_l29, zq_l30, zq_l32, zq_l50, zq_l63, zq_l99, zq_l100, zq_l125, zq_l200, zq_l338, zq_l505, zq_l6000, zq_l10000, zq_l20, zq_bnd, zq_nm, zq_ck, zq_ex, zq_neg, zq_add, zq_sub, zq_mul, zq_div, zq_lt, zq_le, zq_eq, zq_tn, zq_setA_1, zq_setS_2, if_pos, if_neg, zq_if0, zq_if1, ite_true, ite_false]
  · intro b hb
    rw [zq_setA_other _ _ _ _ _ hb, zq_setA_other _ _ _ _ _ hb, zq_setA_other _ _ _ _ _ hb, zq_setA_other _ _ _ _ _ hb, zq_setA_other _ _ _ _ _ hb]
  · intro y y0
    rw [zq_wr _ _ _ _ (by omega) y0, zq_wr _ _ _ _ (by omega) y0, zq_wr _ _ _ _ (by omega) y0, zq_wr _ _ _ _ (by omega) y0, zq_wr _ _ _ _ (by omega) y0]
    simp only [true_and]
    by_cases h4 : y = 5 * T + 4
    · rw [if_pos h4, if_neg (by omega), if_neg (by omega), if_neg (by omega), if_neg (by omega), if_pos h4]
    · rw [if_neg h4]
      by_cases h3 : y = 5 * T + 3
      · rw [if_pos h3, if_neg (by omega), if_neg (by omega), if_neg (by omega), if_pos h3]
      · rw [if_neg h3]
        by_cases h2 : y = 5 * T + 2
        · rw [if_pos h2, if_neg (by omega), if_neg (by omega), if_pos h2]
        · rw [if_neg h2]
          by_cases h1 : y = 5 * T + 1
          · rw [if_pos h1, if_neg (by omega), if_pos h1]
          · rw [if_neg h1]
            by_cases h0 : y = 5 * T
            · rw [if_pos h0, if_pos h0]
            · rw [if_neg h0, if_neg h0, if_neg h1, if_neg h2, if_neg h3, if_neg h4]
theorem ZC.v {S : SC} {g : ZG} (z : ZC S g) (v : Int32) : ZC (setS S 6 v) g :=
  ⟨by rw [zq_setS_other _ _ _ _ (by omega)]; exact z.n, by rw [zq_setS_other _ _ _ _ (by omega)]; exact z.B, by rw [zq_setS_other _ _ _ _ (by omega)]; exact z.p0, by rw [zq_setS_other _ _ _ _ (by omega)]; exact z.p1, by rw [zq_setS_other _ _ _ _ (by omega)]; exact z.b, z.h, z.o, z.a, z.nb⟩
/-- the end of a turn: who has won -/
theorem zc_p140 {S : SC} {g : ZG} {m e : Int} (z : ZC S g) (w : ZW g) (hp : ZP g) (hm : g.m = 1 - m) (he : 0 ≤ e ∧ e < 100) : fX0_perform_j140 (zq m) (zq e) S = some (if e = 99 ∨ g.trs = [] then setS S 6 (zq m) else S) := by
  unfold fX0_perform_j140 fX0_perform_j157
  have ht := zc_hasTurn z w hp
  rw [hm] at ht
  simp (disch := omega) only [zq_l0, zq_l1, zq_l2, zq_l3, zq_l4, zq_l5, zq_l6, zq_l8, zq_l10, zq_l25, zq_l29, zq_l30, zq_l32, zq_l50, zq_l63, zq_l99, zq_l100, zq_l125, zq_l200, zq_l338, zq_l505, zq_l6000, zq_l10000, zq_l20, zq_bnd, zq_nm, zq_ck, zq_ex, zq_neg, zq_add, zq_sub, zq_mul, zq_div, zq_lt, zq_le, zq_eq, zq_tn, zq_setA_1, zq_setS_2, if_pos, if_neg, zq_if0, zq_if1, ite_true, ite_false, ht]
  by_cases h9 : e = 99
  · rw [if_pos h9, if_pos (Or.inl h9)]
  · rw [if_neg h9]
    by_cases hn : g.trs = []
    · rw [if_neg (fun q => q hn), if_pos (Or.inr hn)]
    · rw [if_pos hn, if_neg (fun q => q.elim h9 hn)]
theorem zc_p77 {S : SC} {g : ZG} (z : ZC S g) (w : ZW g) (hp : ZP g) {T n k c d e f : Int} (t : ZT g n k c d e) (hT : S.1 5 = zq T) (hf : (g.act n).b = f) : ∃ S9, fX0_perform_j77 (zq g.m) (zq c) (zq d) (zq e) (zq (g.as c d)) (zq f) S = some (if e = 99 ∨ (g.act n).trs = [] then setS S9 6 (zq g.m) else S9) ∧ ZC S9 (g.act n) ∧ S9.1 5 = zq (T + 1) ∧ (∀ k, k ≠ 5 → k ≠ 7 → S9.1 k = S.1 k) ∧ (∀ b, 4 ≤ b → S9.2 b = S.2 b) := by
  have w' := zw_act w t
  have hp' := zp_act w hp t
  have hn := w.n
  have he := t.e0
  have hb' := w'.b
  rw [hf] at hb'
  obtain ⟨S6, e6, q1, q2, q3, q4⟩ := zc_carry (S := setS S 7 (zq f)) z.o z.a w t
  have r5 : S6.1 5 = zq T := by rw [q1, zq_setS_other _ _ _ _ (by omega)]; exact hT
  have mk : ∀ S9 : SC, S9.1 = (setS S6 5 (zq (T + 1))).1 → S9.2 0 = S6.2 0 → S9.2 2 = S6.2 2 → S9.2 3 = S6.2 3 → (∀ b, 4 ≤ b → S9.2 b = S6.2 b) → (∀ x, 0 ≤ x → x < 25 → S9.2 1 x.toNat = zq ((g.act n).h x)) → fX0_perform_j140 (zq g.m) (zq e) S9 = some (if e = 99 ∨ (g.act n).trs = [] then setS S9 6 (zq g.m) else S9) ∧ ZC S9 (g.act n) ∧ S9.1 5 = zq (T + 1) ∧ (∀ k, k ≠ 5 → k ≠ 7 → S9.1 k = S.1 k) ∧ (∀ b, 4 ≤ b → S9.2 b = S.2 b) := by
    intro S9 h1 h20 h22 h23 h24 hh
    have r : ∀ k, k ≠ 5 → k ≠ 7 → S9.1 k = S.1 k := fun k k5 k7 => by rw [h1, zq_setS_other _ _ _ _ k5, q1, zq_setS_other _ _ _ _ k7]
    have zz : ZC S9 (g.act n) := ⟨by rw [r 0 (by omega) (by omega)]; exact z.n, by rw [r 1 (by omega) (by omega)]; exact z.B, by rw [r 2 (by omega) (by omega)]; exact z.p0, by rw [r 3 (by omega) (by omega)]; exact z.p1,
      by rw [h1, zq_setS_other _ _ _ _ (by omega), q1, zq_setS_same, hf], hh, by rw [h22]; exact q3, by rw [h23]; exact q4, by rw [h20, q2 0 (by omega) (by omega)]; exact z.nb⟩
    exact ⟨zc_p140 zz w' hp' (show 1 - g.m = 1 - g.m from rfl) he, zz, by rw [h1, zq_setS_same], r, fun b hb => by rw [h24 b hb, q2 b (by omega) (by omega)]; rfl⟩
  have hh1 : S6.2 1 = S.2 1 := by rw [q2 1 (by omega) (by omega)]; rfl
  have cpf : (zq f = 0 ∨ zq f = 1) := by
    rcases hb' with h | h
    · left; rw [h]; rfl
    · right; rw [h]; rfl
  unfold fX0_perform_j77
  rw [zq_cp _ cpf, zq_nm, e6, zq_bnd, r5, zq_l1, zq_add, zq_nm]
  by_cases h9 : e = 99
  · have : ∀ x, 0 ≤ x → x < 25 → (setS S6 5 (zq (T + 1))).2 1 x.toNat = zq ((g.act n).h x) := by
      intro x x0 x1
      rw [zt_h w t x x0, zq_setS_2, hh1, if_neg (by unfold zqBc; rw [if_pos h9]; omega)]
      exact z.h x x0 x1
    refine ⟨setS S6 5 (zq (T + 1)), ?_, (mk _ rfl rfl rfl rfl (fun _ _ => rfl) this).2⟩
    rw [← (mk _ rfl rfl rfl rfl (fun _ _ => rfl) this).1]
    simp (disch := omega) only [zq_l0, zq_l1, zq_l2, zq_l3, zq_l4, zq_l5, zq_l6, zq_l8, zq_l10, zq_l25, zq_l29, zq_l30, zq_l32, zq_l50, zq_l63, zq_l99, zq_l100, zq_l125, zq_l200, zq_l338, zq_l505, zq_l6000, zq_l10000, zq_l20, zq_bnd, zq_nm, zq_ck, zq_ex, zq_neg, zq_add, zq_sub, zq_mul, zq_div, zq_lt, zq_le, zq_eq, zq_tn, zq_setA_1, zq_setS_2, if_pos, if_neg, zq_if0, zq_if1, ite_true, ite_false]
  · obtain ⟨fr, b0, b1⟩ := t.fre h9
    by_cases h5 : 50 ≤ e
    · have hbc : zqBc e = e - 50 := by unfold zqBc; rw [if_neg h9, if_pos h5]
      rw [hbc] at b0 b1
      have : ∀ x, 0 ≤ x → x < 25 → (setA (setS S6 5 (zq (T + 1))) 1 (zq (e - 50)) (zq 4)).2 1 x.toNat = zq ((g.act n).h x) := by
        intro x x0 x1
        rw [zt_h w t x x0, zq_wr _ _ _ _ (by omega) x0, zq_setS_2, hh1, hbc]
        by_cases hx : x = e - 50
        · rw [if_pos ⟨rfl, hx⟩, if_pos hx, if_pos h5]
        · rw [if_neg (fun q => hx q.2), if_neg hx]
          exact z.h x x0 x1
      have M := mk (setA (setS S6 5 (zq (T + 1))) 1 (zq (e - 50)) (zq 4)) rfl (zq_setA_other _ _ _ _ _ (by omega)) (zq_setA_other _ _ _ _ _ (by omega)) (zq_setA_other _ _ _ _ _ (by omega)) (fun b hb => zq_setA_other _ _ _ _ _ (by omega)) this
      refine ⟨_, ?_, M.2⟩
      rw [← M.1]
      simp (disch := omega) only [zq_l0, zq_l1, zq_l2, zq_l3, zq_l4, zq_l5, zq_l6, zq_l8, zq_l10, zq_l25, zq_l29, zq_l30, zq_l32, zq_l50, zq_l63, zq_l99, zq_l100, zq_l125, zq_l200, zq_l338, zq_l505, zq_l6000, zq_l10000, zq_l20, zq_bnd, zq_nm, zq_ck, zq_ex, zq_neg, zq_add, zq_sub, zq_mul, zq_div, zq_lt, zq_le, zq_eq, zq_tn, zq_setA_1, zq_setS_2, if_pos, if_neg, zq_if0, zq_if1, ite_true, ite_false, zc_setStoreys (S := setS S6 5 (zq (T + 1))) (x := e - 50) (v := 4) (by omega)]
    · have hbc : zqBc e = e := by unfold zqBc; rw [if_neg h9, if_neg h5]
      rw [hbc] at b0 b1
      have hhe := w.h e b0 (by omega)
      have : ∀ x, 0 ≤ x → x < 25 → (setA (setS S6 5 (zq (T + 1))) 1 (zq e) (zq (g.h e + 1))).2 1 x.toNat = zq ((g.act n).h x) := by
        intro x x0 x1
        rw [zt_h w t x x0, zq_wr _ _ _ _ (by omega) x0, zq_setS_2, hh1, hbc]
        by_cases hx : x = e
        · rw [if_pos ⟨rfl, hx⟩, if_pos hx, if_neg h5, hx]
        · rw [if_neg (fun q => hx q.2), if_neg hx]
          exact z.h x x0 x1
      have M := mk (setA (setS S6 5 (zq (T + 1))) 1 (zq e) (zq (g.h e + 1))) rfl (zq_setA_other _ _ _ _ _ (by omega)) (zq_setA_other _ _ _ _ _ (by omega)) (zq_setA_other _ _ _ _ _ (by omega)) (fun b hb => zq_setA_other _ _ _ _ _ (by omega)) this
      have st : fX0_storeysOf (setS S6 5 (zq (T + 1))) (zq e) = some (zq (g.h e)) := by
        unfold fX0_storeysOf
        rw [zq_setS_2, hh1]
        simp (disch := omega) only [zq_l0, zq_l1, zq_l2, zq_l3, zq_l4, zq_l5, zq_l6, zq_l8, zq_l10, zq_l25, zq_l29, zq_l30, zq_l32, zq_l50, zq_l63, zq_l99, zq_l100, zq_l125, zq_l200, zq_l338, zq_l505, zq_l6000, zq_l10000, zq_l20, zq_bnd, zq_nm, zq_ck, zq_ex, zq_neg, zq_add, zq_sub, zq_mul, zq_div, zq_lt, zq_le, zq_eq, zq_tn, zq_setA_1, zq_setS_2, if_pos, if_neg, zq_if0, zq_if1, ite_true, ite_false, z.h e b0 (by omega)]
      refine ⟨_, ?_, M.2⟩
      rw [← M.1]
      simp (disch := omega) only [zq_l0, zq_l1, zq_l2, zq_l3, zq_l4, zq_l5, zq_l6, zq_l8, zq_l10, zq_l25, zq_l29, zq_l30, zq_l32, zq_l50, zq_l63, zq_l99, zq_l100, zq_l125, zq_l200, zq_l338, zq_l505, zq_l6000, zq_l10000, zq_l20, zq_bnd, zq_nm, zq_ck, zq_ex, zq_neg, zq_add, zq_sub, zq_mul, zq_div, zq_lt, zq_le, zq_eq, zq_tn, zq_setA_1, zq_setS_2, if_pos, if_neg, zq_if0, zq_if1, ite_true, ite_false, st, zc_setStoreys (S := setS S6 5 (zq (T + 1))) (x := e) (v := g.h e + 1) (by omega)]
