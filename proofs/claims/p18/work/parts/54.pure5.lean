set_option maxRecDepth 100000
/-- a second step by way of x -/
abbrev ZG.via (g : ZG) (c x d : Int) (v : Bool) : Prop := g.stp c x ∧ g.bI x = -1 ∧ ¬ g.win c x ∧ g.stp x d ∧ g.bI d = -1 ∧ decide (g.win x d) = v
def zqV (v : Bool) : Int := if v then 1 else 0
theorem zqV_e {P : Prop} [Decidable P] {v : Bool} : (zqB P = zqV v) = (decide P = v) := by
  unfold zqB zqV
  cases v <;> by_cases h : P <;> simp [h]
theorem zq_1B {P : Prop} (h : P) : zq 1 = zq (zqB P) := by rw [zqB_t h]
theorem zq_0B {P : Prop} (h : ¬ P) : zq 0 = zq (zqB P) := by rw [zqB_f h]
/-- the reference: may be built there -/
abbrev ZG.fd (g : ZG) (c d e : Int) (D : Prop) : Prop := g.fre c d e ∧ (D → g.pm = 6 ∧ g.h e < 3)
theorem zq_memE {g : ZG} (w : ZW g) {n : Int} : n ∈ g.trs ↔ 0 ≤ n ∧ n / 10000 < g.B ∧ n / 100 % 100 < g.n ∧
    ((n % 100 = 99 ∧ g.come (g.a (2 * g.m + n / 10000)) (n / 100 % 100) true) ∨
     (n % 100 < 50 ∧ n % 100 < g.n ∧ g.fre (g.a (2 * g.m + n / 10000)) (n / 100 % 100) (n % 100) ∧ g.come (g.a (2 * g.m + n / 10000)) (n / 100 % 100) false) ∨
     (50 ≤ n % 100 ∧ n % 100 ≠ 99 ∧ n % 100 - 50 < g.n ∧ (g.fre (g.a (2 * g.m + n / 10000)) (n / 100 % 100) (n % 100 - 50) ∧ g.pm = 6 ∧ g.h (n % 100 - 50) < 3) ∧ g.come (g.a (2 * g.m + n / 10000)) (n / 100 % 100) false)) := by
  have hn := w.n
  have hB := w.B
  rw [zq_mem w]
  constructor
  · rintro ⟨k, d, e, h1, k0, k1, d0, d1, hc⟩
    have e0 : 0 ≤ e ∧ e < 100 := by rcases hc with q | q | q <;> omega
    have ek : n / 10000 = k := by omega
    have ed : n / 100 % 100 = d := by omega
    have ee : n % 100 = e := by omega
    rw [ek, ed, ee]
    refine ⟨by omega, k1, d1, ?_⟩
    rcases hc with q | q | q
    · exact Or.inr (Or.inl ⟨by omega, q.2.2.1, q.2.2.2, q.1⟩)
    · exact Or.inr (Or.inr ⟨by omega, by omega, by omega, ⟨q.2.2.2.2.1, q.2.1, q.2.2.2.2.2⟩, q.1⟩)
    · exact Or.inl q
  · rintro ⟨h0, h1, h2, hc⟩
    refine ⟨n / 10000, n / 100 % 100, n % 100, by omega, by omega, h1, by omega, h2, ?_⟩
    rcases hc with q | q | q
    · exact Or.inr (Or.inr q)
    · exact Or.inl ⟨q.2.2.2, by omega, q.2.1, q.2.2.1⟩
    · exact Or.inr (Or.inl ⟨q.2.2.2.2, q.2.2.2.1.2.1, by omega, by omega, q.2.2.2.1.1, q.2.2.2.1.2.2⟩)
/-- a number's parts, as the machine finds them -/
theorem zq_parts {n : Int} (h : 0 ≤ n ∧ n < 2147483648) : zq n / 10000 = zq (n / 10000) ∧ (zq n / 100) - (zq n / 100) / 100 * 100 = zq (n / 100 % 100) ∧ zq n - zq n / 100 * 100 = zq (n % 100) := by
  have e0 : zq n / 100 = zq (n / 100) := by rw [zq_l100]; exact zq_div (by omega)
  have e1 : zq (n / 100) / 100 = zq (n / 100 / 100) := by rw [zq_l100]; exact zq_div (by omega)
  refine ⟨by rw [zq_l10000]; exact zq_div (by omega), ?_, ?_⟩
  · rw [e0, e1, zq_l100, zq_mul, zq_sub, show n / 100 - n / 100 / 100 * 100 = n / 100 % 100 by omega]
  · rw [e0, zq_l100, zq_mul, zq_sub, show n - n / 100 * 100 = n % 100 by omega]
abbrev ZG.bd (g : ZG) (c d e : Int) (D : Prop) : Prop := (0 ≤ e ∧ e < g.n) ∧ g.fd c d e D ∧ g.come c d false
theorem zq_memK {g : ZG} (w : ZW g) {k d e : Int} (hk : 0 ≤ k) (hd : 0 ≤ d ∧ d < 100) (he : 0 ≤ e ∧ e < 100) : 10000 * k + 100 * d + e ∈ g.trs ↔ k < g.B ∧ d < g.n ∧
    (if e = 99 then g.come (g.a (2 * g.m + k)) d true else if e < 50 then g.bd (g.a (2 * g.m + k)) d e False else g.bd (g.a (2 * g.m + k)) d (e - 50) True) := by
  have hn := w.n
  rw [zq_memE w, show (10000 * k + 100 * d + e) / 10000 = k by omega, show (10000 * k + 100 * d + e) / 100 % 100 = d by omega, show (10000 * k + 100 * d + e) % 100 = e by omega]
  constructor
  · rintro ⟨-, h1, h2, q | q | q⟩
    · rw [if_pos q.1]; exact ⟨h1, h2, q.2⟩
    · rw [if_neg (by have := q.1; omega), if_pos q.1]; exact ⟨h1, h2, ⟨he.1, q.2.1⟩, ⟨q.2.2.1, fun h => h.elim⟩, q.2.2.2⟩
    · have h5 := q.1
      rw [if_neg q.2.1, if_neg (by omega)]; exact ⟨h1, h2, ⟨by omega, q.2.2.1⟩, ⟨q.2.2.2.1.1, fun _ => q.2.2.2.1.2⟩, q.2.2.2.2⟩
  · rintro ⟨h1, h2, q⟩
    refine ⟨by omega, h1, h2, ?_⟩
    by_cases h9 : e = 99
    · rw [if_pos h9] at q; exact Or.inl ⟨h9, q⟩
    · rw [if_neg h9] at q
      by_cases h5 : e < 50
      · rw [if_pos h5] at q; exact Or.inr (Or.inl ⟨h5, q.1.2, q.2.1.1, q.2.2⟩)
      · rw [if_neg h5] at q; exact Or.inr (Or.inr ⟨Int.not_lt.mp h5, h9, q.1.2, ⟨q.2.1.1, q.2.1.2 trivial⟩, q.2.2⟩)
/-- a loop that a measure ends -/
theorem zq_while {σ ρ : Type} {b : σ → Option (σ ⊕ ρ)} (P : σ → Prop) (Q : ρ → Prop) (μ : σ → Nat) (h : ∀ s, P s → (∃ s', b s = some (.inl s') ∧ P s' ∧ μ s' < μ s) ∨ (∃ r, b s = some (.inr r) ∧ Q r)) {s : σ} (h0 : P s) (hk : μ s < 1000000) : ∃ r, loop b FUEL s = some r ∧ Q r := by
  have g : ∀ n s, P s → μ s < n → ∃ r, loop b n s = some r ∧ Q r := by
    intro n
    induction n with
    | zero => intro s _ hn; exact absurd hn (by omega)
    | succ n ih =>
      intro s hp hn
      rcases h s hp with ⟨s', e, q, m⟩ | ⟨r, e, q⟩
      · rw [zq_loop1 e]; exact ih s' q (by omega)
      · exact ⟨r, zq_loop0 e, q⟩
  exact g FUEL s h0 (by rw [FUEL_is]; omega)
/-- r is the next turn behind b, or -1 -/
def ZG.Nx (g : ZG) (b r : Int) : Prop := (r = -1 ∧ ∀ x ∈ g.trs, x ≤ b) ∨ (r ∈ g.trs ∧ b < r ∧ ∀ x ∈ g.trs, b < x → r ≤ x)
theorem zq_hi {g : ZG} (w : ZW g) {x : Int} (h : x ∈ g.trs) : 0 ≤ x ∧ x < 10000 * g.B := by
  have hm := (zq_memE w).mp h
  have h1 := hm.1
  have h2 := hm.2.1
  omega
/-! the list of turns is sorted -/
theorem zqRg_pw (n : Int) : (zqRg n).Pairwise (· < ·) := by
  unfold zqRg
  rw [List.pairwise_map]
  refine List.pairwise_lt_range.imp ?_
  intro a b h
  exact Int.ofNat_lt.mpr h
theorem zq_blkr {g : ZG} (w : ZW g) {k d x : Int} (h : x ∈ g.blk k d) : 10000 * k + 100 * d ≤ x ∧ x < 10000 * k + 100 * d + 100 := by
  have hn := w.n
  unfold ZG.blk at h
  rw [List.mem_append] at h
  rcases h with h | h
  · by_cases h1 : g.come (g.a (2 * g.m + k)) d false
    · rw [if_pos h1, List.mem_append] at h
      rcases h with h | h
      · rw [List.mem_map] at h
        obtain ⟨e, he, rfl⟩ := h
        have := zqRg_mem.mp (List.mem_filter.mp he).1
        omega
      · by_cases h6 : g.pm = 6
        · rw [if_pos h6, List.mem_map] at h
          obtain ⟨e, he, rfl⟩ := h
          have := zqRg_mem.mp (List.mem_filter.mp he).1
          omega
        · rw [if_neg h6] at h; exact absurd h List.not_mem_nil
    · rw [if_neg h1] at h; exact absurd h List.not_mem_nil
  · by_cases h1 : g.come (g.a (2 * g.m + k)) d true
    · rw [if_pos h1, List.mem_singleton] at h; omega
    · rw [if_neg h1] at h; exact absurd h List.not_mem_nil
theorem zq_blks {g : ZG} (w : ZW g) (k d : Int) : (g.blk k d).Pairwise (· < ·) := by
  have hn := w.n
  have fl : ∀ (p : Int → Bool) (c : Int), (((zqRg g.n).filter p).map (fun e => c + e)).Pairwise (· < ·) := by
    intro p c
    rw [List.pairwise_map]
    exact ((zqRg_pw g.n).filter p).imp (fun h => by omega)
  have lo : ∀ (p : Int → Bool) (c x : Int), x ∈ ((zqRg g.n).filter p).map (fun e => c + e) → c ≤ x ∧ x < c + g.n := by
    intro p c x h
    rw [List.mem_map] at h
    obtain ⟨e, he, rfl⟩ := h
    have := zqRg_mem.mp (List.mem_filter.mp he).1
    omega
  unfold ZG.blk
  rw [List.pairwise_append]
  refine ⟨?_, ?_, ?_⟩
  · by_cases h1 : g.come (g.a (2 * g.m + k)) d false
    · rw [if_pos h1]
      by_cases h6 : g.pm = 6
      · rw [if_pos h6, List.pairwise_append]
        refine ⟨fl _ _, fl _ _, fun x hx y hy => ?_⟩
        have a1 := lo _ _ _ hx
        have a2 := lo _ _ _ hy
        omega
      · rw [if_neg h6, List.append_nil]; exact fl _ _
    · rw [if_neg h1]; exact List.Pairwise.nil
  · split
    · exact List.pairwise_singleton _ _
    · exact List.Pairwise.nil
  · intro x hx y hy
    by_cases h2 : g.come (g.a (2 * g.m + k)) d true
    · rw [if_pos h2, List.mem_singleton] at hy
      by_cases h1 : g.come (g.a (2 * g.m + k)) d false
      · rw [if_pos h1, List.mem_append] at hx
        rcases hx with hx | hx
        · have := lo _ _ _ hx; omega
        · by_cases h6 : g.pm = 6
          · rw [if_pos h6] at hx
            have := lo _ _ _ hx; omega
          · rw [if_neg h6] at hx; exact absurd hx List.not_mem_nil
      · rw [if_neg h1] at hx; exact absurd hx List.not_mem_nil
    · rw [if_neg h2] at hy; exact absurd hy List.not_mem_nil
theorem zq_sorted {g : ZG} (w : ZW g) : g.trs.Pairwise (· < ·) := by
  have hn := w.n
  unfold ZG.trs
  rw [List.pairwise_flatMap]
  refine ⟨fun k hk => ?_, ?_⟩
  · rw [List.pairwise_flatMap]
    refine ⟨fun d hd => zq_blks w k d, ?_⟩
    refine (zqRg_pw g.n).imp ?_
    intro a b hab x hx y hy
    have := zq_blkr w hx
    have := zq_blkr w hy
    omega
  · refine (zqRg_pw g.B).imp ?_
    intro a b hab x hx y hy
    rw [List.mem_flatMap] at hx hy
    obtain ⟨d, hd, hx⟩ := hx
    obtain ⟨e, he, hy⟩ := hy
    have := zq_blkr w hx
    have := zq_blkr w hy
    have := zqRg_mem.mp hd
    have := zqRg_mem.mp he
    omega
/-- the turn at a place, or -1 -/
def ZG.tr (g : ZG) (i : Nat) : Int := g.trs.getD i (-1)
theorem zq_tr {g : ZG} {i : Nat} (h : i < g.trs.length) : g.tr i = g.trs[i] := by
  unfold ZG.tr
  rw [List.getD_eq_getElem?_getD, List.getElem?_eq_getElem h]; rfl
theorem zq_trn {g : ZG} {i : Nat} (h : g.trs.length ≤ i) : g.tr i = -1 := by
  unfold ZG.tr
  rw [List.getD_eq_getElem?_getD, List.getElem?_eq_none h]; rfl
theorem zq_trm {g : ZG} {i : Nat} (h : i < g.trs.length) : g.tr i ∈ g.trs := by
  rw [zq_tr h]; exact List.getElem_mem h
theorem zq_trr {g : ZG} (w : ZW g) (i : Nat) : -1 ≤ g.tr i ∧ g.tr i < 20000 := by
  have hB := w.B
  by_cases h : i < g.trs.length
  · have := zq_hi w (zq_trm h); omega
  · rw [zq_trn (by omega)]; omega
theorem zq_trlt {g : ZG} (w : ZW g) {i j : Nat} (h : i < j) (hj : j < g.trs.length) : g.tr i < g.tr j := by
  rw [zq_tr (by omega), zq_tr hj]
  exact List.pairwise_iff_getElem.mp (zq_sorted w) i j (by omega) hj h
theorem zq_trx {g : ZG} {x : Int} (h : x ∈ g.trs) : ∃ j, j < g.trs.length ∧ g.tr j = x := by
  obtain ⟨j, hj, e⟩ := List.getElem_of_mem h
  exact ⟨j, hj, by rw [zq_tr hj]; exact e⟩
theorem zq_Nx0 {g : ZG} (w : ZW g) {r : Int} (h : g.Nx (-1) r) : r = g.tr 0 := by
  rcases h with ⟨e, h⟩ | ⟨h1, h2, h3⟩
  · by_cases h0 : 0 < g.trs.length
    · have := h _ (zq_trm h0)
      have := zq_hi w (zq_trm h0)
      omega
    · rw [zq_trn (by omega)]; exact e
  · obtain ⟨j, hj, e⟩ := zq_trx h1
    have h0 : 0 < g.trs.length := by omega
    have a := h3 _ (zq_trm h0) (by have := zq_hi w (zq_trm h0); omega)
    by_cases hj0 : j = 0
    · rw [← e, hj0]
    · have := zq_trlt w (i := 0) (j := j) (by omega) hj
      omega
theorem zq_Nx1 {g : ZG} (w : ZW g) {r : Int} {i : Nat} (hi : i < g.trs.length) (h : g.Nx (g.tr i) r) : r = g.tr (i + 1) := by
  rcases h with ⟨e, h⟩ | ⟨h1, h2, h3⟩
  · by_cases h0 : i + 1 < g.trs.length
    · have := h _ (zq_trm h0)
      have := zq_trlt w (i := i) (by omega) h0
      omega
    · rw [zq_trn (by omega)]; exact e
  · obtain ⟨j, hj, e⟩ := zq_trx h1
    have hij : i < j := by
      refine Nat.lt_of_not_le fun q => ?_
      by_cases hji : j = i
      · rw [hji] at e; omega
      · have := zq_trlt w (i := j) (j := i) (by omega) hi
        omega
    have a := h3 _ (zq_trm (i := i + 1) (by omega)) (zq_trlt w (by omega) (by omega))
    by_cases hj0 : j = i + 1
    · rw [← e, hj0]
    · have := zq_trlt w (i := i + 1) (j := j) (by omega) hj
      omega
/-! the reference writes at a level -/
theorem zq_nar {b : Int} (h : b = 0 ∨ b = 1) : vp_nar .boolean (zq b) = zq b := by
  rcases h with rfl | rfl <;> rfl
/-- nothing but level L is changed -/
def zmE (L : Int) (M M' : SC) : Prop := (∀ k, M'.1 k = M.1 k) ∧ (∀ b, b ≠ 1 → b ≠ 2 → b ≠ 3 → b ≠ 4 → M'.2 b = M.2 b) ∧
  (∀ x : Int, 0 ≤ x → ¬ (25 * L ≤ x ∧ x < 25 * L + 25) → M'.2 1 x.toNat = M.2 1 x.toNat) ∧ (∀ x : Int, 0 ≤ x → ¬ (4 * L ≤ x ∧ x < 4 * L + 4) → M'.2 2 x.toNat = M.2 2 x.toNat) ∧
  (∀ x : Int, 0 ≤ x → x ≠ L → M'.2 3 x.toNat = M.2 3 x.toNat) ∧ (∀ x : Int, 0 ≤ x → x ≠ L → M'.2 4 x.toNat = M.2 4 x.toNat)
theorem zmE.rf {L : Int} {M : SC} : zmE L M M := ⟨fun _ => rfl, fun _ _ _ _ _ => rfl, fun _ _ _ => rfl, fun _ _ _ => rfl, fun _ _ _ => rfl, fun _ _ _ => rfl⟩
theorem zmE.tr {L : Int} {M M' M'' : SC} (a : zmE L M M') (b : zmE L M' M'') : zmE L M M'' :=
  ⟨fun k => (b.1 k).trans (a.1 k), fun c h1 h2 h3 h4 => (b.2.1 c h1 h2 h3 h4).trans (a.2.1 c h1 h2 h3 h4), fun x h0 h => (b.2.2.1 x h0 h).trans (a.2.2.1 x h0 h), fun x h0 h => (b.2.2.2.1 x h0 h).trans (a.2.2.2.1 x h0 h), fun x h0 h => (b.2.2.2.2.1 x h0 h).trans (a.2.2.2.2.1 x h0 h), fun x h0 h => (b.2.2.2.2.2 x h0 h).trans (a.2.2.2.2.2 x h0 h)⟩
theorem zmE.z {L K : Int} {M M' : SC} {g : ZG} (e : zmE L M M') (hK : 0 ≤ K) (hL : 0 ≤ L) (h : K ≠ L) (z : ZM M K g) : ZM M' K g :=
  ⟨by rw [e.1]; exact z.R, by rw [e.1]; exact z.C, by rw [e.1]; exact z.B, by rw [e.2.1 0 (by omega) (by omega) (by omega) (by omega)]; exact z.p0, by rw [e.2.1 0 (by omega) (by omega) (by omega) (by omega)]; exact z.p1,
   fun c h0 h1 => by rw [e.2.2.1 _ (by omega) (by omega)]; exact z.h c h0 h1, fun c h0 h1 => by rw [e.2.2.2.1 _ (by omega) (by omega)]; exact z.a c h0 h1, by rw [e.2.2.2.2.1 _ hK h]; exact z.m, by rw [e.2.2.2.2.2 _ hK h]; exact z.b⟩
theorem zmE_h {L : Int} (hL : 0 ≤ L ∧ L < 5) (S : SC) {i : Int} (hi : 25 * L ≤ i ∧ i < 25 * L + 25) (v : Int32) : zmE L S (setA S 1 (zq i) v) :=
  ⟨fun _ => rfl, fun b h1 h2 h3 h4 => zq_setA_other _ _ _ _ _ h1, fun x h0 h => by rw [zq_wr _ _ _ _ (by omega) h0, if_neg (by omega)], fun x h0 h => by rw [zq_setA_other _ _ _ _ _ (by omega)], fun x h0 h => by rw [zq_setA_other _ _ _ _ _ (by omega)], fun x h0 h => by rw [zq_setA_other _ _ _ _ _ (by omega)]⟩
theorem zmE_a {L : Int} (hL : 0 ≤ L ∧ L < 5) (S : SC) {i : Int} (hi : 4 * L ≤ i ∧ i < 4 * L + 4) (v : Int32) : zmE L S (setA S 2 (zq i) v) :=
  ⟨fun _ => rfl, fun b h1 h2 h3 h4 => zq_setA_other _ _ _ _ _ h2, fun x h0 h => by rw [zq_setA_other _ _ _ _ _ (by omega)], fun x h0 h => by rw [zq_wr _ _ _ _ (by omega) h0, if_neg (by omega)], fun x h0 h => by rw [zq_setA_other _ _ _ _ _ (by omega)], fun x h0 h => by rw [zq_setA_other _ _ _ _ _ (by omega)]⟩
theorem zmE_m {L : Int} (hL : 0 ≤ L ∧ L < 5) (S : SC) (v : Int32) : zmE L S (setA S 3 (zq L) v) :=
  ⟨fun _ => rfl, fun b h1 h2 h3 h4 => zq_setA_other _ _ _ _ _ h3, fun x h0 h => by rw [zq_setA_other _ _ _ _ _ (by omega)], fun x h0 h => by rw [zq_setA_other _ _ _ _ _ (by omega)], fun x h0 h => by rw [zq_wr _ _ _ _ (by omega) h0, if_neg (by omega)], fun x h0 h => by rw [zq_setA_other _ _ _ _ _ (by omega)]⟩
theorem zmE_b {L : Int} (hL : 0 ≤ L ∧ L < 5) (S : SC) (v : Int32) : zmE L S (setA S 4 (zq L) v) :=
  ⟨fun _ => rfl, fun b h1 h2 h3 h4 => zq_setA_other _ _ _ _ _ h4, fun x h0 h => by rw [zq_setA_other _ _ _ _ _ (by omega)], fun x h0 h => by rw [zq_setA_other _ _ _ _ _ (by omega)], fun x h0 h => by rw [zq_setA_other _ _ _ _ _ (by omega)], fun x h0 h => by rw [zq_wr _ _ _ _ (by omega) h0, if_neg (by omega)]⟩

theorem ZM.s {M : SC} {L : Int} {g : ZG} (z : ZM M L g) (k : Nat) (v : Int32) (h1 : k ≠ 1) (h2 : k ≠ 2) (h3 : k ≠ 3) : ZM (setS M k v) L g :=
  ⟨by rw [zq_setS_other _ _ _ _ (by omega)]; exact z.R, by rw [zq_setS_other _ _ _ _ (by omega)]; exact z.C, by rw [zq_setS_other _ _ _ _ (by omega)]; exact z.B, z.p0, z.p1, z.h, z.a, z.m, z.b⟩
/-- a row of the kept boards -/
def zmK (M : SC) (g : ZG) (T : Int) : Prop := (∀ c : Int, 0 ≤ c → c < 25 → M.2 5 (30 * T + c).toNat = zq (g.h c)) ∧ (∀ i : Int, 0 ≤ i → i < 4 → M.2 5 (30 * T + 25 + i).toNat = zq (g.a i)) ∧ M.2 5 (30 * T + 29).toNat = zq g.b
/-- nothing but row T of the kept boards is changed -/
def zmF (T : Int) (M M' : SC) : Prop := M'.1 = M.1 ∧ (∀ b, b ≠ 5 → M'.2 b = M.2 b) ∧ (∀ x : Int, 0 ≤ x → ¬ (30 * T ≤ x ∧ x < 30 * T + 30) → M'.2 5 x.toNat = M.2 5 x.toNat)
theorem zmF.rf {T : Int} {M : SC} : zmF T M M := ⟨rfl, fun _ _ => rfl, fun _ _ _ => rfl⟩
theorem zmF.tr {T : Int} {M M' M'' : SC} (a : zmF T M M') (b : zmF T M' M'') : zmF T M M'' := ⟨b.1.trans a.1, fun c h => (b.2.1 c h).trans (a.2.1 c h), fun x h0 h => (b.2.2 x h0 h).trans (a.2.2 x h0 h)⟩
theorem zmF_1 {T : Int} (h0 : 0 ≤ T ∧ T ≤ 150) (S : SC) {i : Int} (hi : 30 * T ≤ i ∧ i < 30 * T + 30) (v : Int32) : zmF T S (setA S 5 (zq i) v) :=
  ⟨rfl, fun b h => zq_setA_other _ _ _ _ _ h, fun x x0 h => by rw [zq_wr _ _ _ _ (by omega) x0, if_neg (by omega)]⟩
theorem zmF.z {T L : Int} {M M' : SC} {g : ZG} (e : zmF T M M') (z : ZM M L g) : ZM M' L g :=
  ⟨by rw [e.1]; exact z.R, by rw [e.1]; exact z.C, by rw [e.1]; exact z.B, by rw [e.2.1 0 (by omega)]; exact z.p0, by rw [e.2.1 0 (by omega)]; exact z.p1, by rw [e.2.1 1 (by omega)]; exact z.h, by rw [e.2.1 2 (by omega)]; exact z.a, by rw [e.2.1 3 (by omega)]; exact z.m, by rw [e.2.1 4 (by omega)]; exact z.b⟩
/-! the reference takes a turn back -/
/-! the class begins a game -/
def zqG0 (R C B p0 p1 : Int) : ZG := ZG.mk R C B (fun i => if i = 0 then p0 else p1) (fun _ => 0) (fun _ => -1) 0 0
theorem zq_dn : ∀ d : Fin 8, dnD d.val = zq (zqDn d.val) ∧ dnA d.val = zq (zqAc d.val) := by decide +kernel
theorem zq_dn' {d : Int} (h : 0 ≤ d ∧ d < 8) : dnD d.toNat = zq (zqDn d) ∧ dnA d.toNat = zq (zqAc d) := by
  have e := zq_dn ⟨d.toNat, by omega⟩
  have e1 : ((d.toNat : Nat) : Int) = d := by omega
  rw [e1] at e; exact e
theorem zq_dnr (d : Int) : -1 ≤ zqDn d ∧ zqDn d ≤ 1 ∧ -1 ≤ zqAc d ∧ zqAc d ≤ 1 := by
  unfold zqDn zqAc
  refine ⟨?_, ?_, ?_, ?_⟩ <;> (repeat' split) <;> omega
theorem zq_cdiv {C r q : Int} (hC : 2 ≤ C ∧ C ≤ 5) (hr : 0 ≤ r) (hq : 0 ≤ q ∧ q < C) : (r * C + q) / C = r ∧ (r * C + q) % C = q := by
  constructor
  · rw [Int.add_comm, Int.add_mul_ediv_right _ _ (by omega), Int.ediv_eq_zero_of_lt hq.1 hq.2, Int.zero_add]
  · rw [Int.add_comm, Int.add_mul_emod_self_right, Int.emod_eq_of_lt hq.1 hq.2]
theorem zq_rc {R C r : Int} (hR : 2 ≤ R ∧ R ≤ 5) (hC : 2 ≤ C ∧ C ≤ 5) (hr : 0 ≤ r ∧ r < R) : 0 ≤ r * C ∧ r * C + C ≤ R * C := by
  have h1 : 0 ≤ r * C := Int.mul_nonneg hr.1 (by omega)
  have h2 : (r + 1) * C ≤ R * C := Int.mul_le_mul_of_nonneg_right (by omega) (by omega)
  rw [Int.add_mul] at h2
  omega
def zjE (S S' : SC) : Prop := S'.1 = S.1 ∧ ∀ b, b ≠ 0 → S'.2 b = S.2 b
theorem zc_join {S : SC} {R C r q : Int} (hR : 2 ≤ R ∧ R ≤ 5) (hC : 2 ≤ C ∧ C ≤ 5) (hr : 0 ≤ r ∧ r < R) (hq : 0 ≤ q ∧ q < C) : ∃ S', fX0_joinNeighbours S (zq r) (zq q) (zq R) (zq C) = some S' ∧ zjE S S' ∧ (∀ d : Int, 0 ≤ d → d < 8 → S'.2 0 ((r * C + q) * 8 + d).toNat = zq (zqNb R C (r * C + q) d)) ∧ (∀ x : Int, 0 ≤ x → ¬ ((r * C + q) * 8 ≤ x ∧ x < (r * C + q) * 8 + 8) → S'.2 0 x.toNat = S.2 0 x.toNat) := by
  have rc := zq_rc hR hC hr
  have RC := zq_RC hR hC
  obtain ⟨cd, cm⟩ := zq_cdiv hC hr.1 hq
  unfold fX0_joinNeighbours
  refine zq_forP (b := fX0_joinNeighbours_b3 (zq r) (zq q) (zq R) (zq C)) (fun i s => s.1 = zq i ∧ zjE S s.2 ∧ (∀ d : Int, 0 ≤ d → d < i → s.2.2 0 ((r * C + q) * 8 + d).toNat = zq (zqNb R C (r * C + q) d)) ∧ (∀ x : Int, 0 ≤ x → ¬ ((r * C + q) * 8 ≤ x ∧ x < (r * C + q) * 8 + 8) → s.2.2 0 x.toNat = S.2 0 x.toNat)) (fun S' => zjE S S' ∧ (∀ d : Int, 0 ≤ d → d < 8 → S'.2 0 ((r * C + q) * 8 + d).toNat = zq (zqNb R C (r * C + q) d)) ∧ (∀ x : Int, 0 ≤ x → ¬ ((r * C + q) * 8 ≤ x ∧ x < (r * C + q) * 8 + 8) → S'.2 0 x.toNat = S.2 0 x.toNat)) 8 (by omega) ?_ ?_ ⟨rfl, ⟨rfl, fun _ _ => rfl⟩, fun d d0 d1 => by omega, fun _ _ _ => rfl⟩
  · rintro i hi ⟨s1, s⟩ ⟨e, hE, h1, h2⟩
    have e : s1 = zq i := e
    subst e
    have hE : zjE S s := hE
    have h1 : ∀ d : Int, 0 ≤ d → d < i → s.2 0 ((r * C + q) * 8 + d).toNat = zq (zqNb R C (r * C + q) d) := h1
    have h2 : ∀ x : Int, 0 ≤ x → ¬ ((r * C + q) * 8 ≤ x ∧ x < (r * C + q) * 8 + 8) → s.2 0 x.toNat = S.2 0 x.toNat := h2
    obtain ⟨dD, dA⟩ := zq_dn' (d := (i : Int)) (by omega)
    have dr := zq_dnr i
    have nbE : zqNb R C (r * C + q) i = zqAt R C (r + zqDn i) (q + zqAc i) := by unfold zqNb; rw [cd, cm]
    clear cd cm
    have wr : ∀ v : Int, v = zqNb R C (r * C + q) i → ∃ s', fX0_joinNeighbours_j112 (zq r) (zq q) (zq R) (zq C) (zq i) (zq ((r * C + q) * 8 + i)) (zq v) s = some (.inl s') ∧ (s'.1 = zq ((i + 1 : Nat) : Int) ∧ zjE S s'.2 ∧ (∀ d : Int, 0 ≤ d → d < (i + 1 : Nat) → s'.2.2 0 ((r * C + q) * 8 + d).toNat = zq (zqNb R C (r * C + q) d)) ∧ (∀ x : Int, 0 ≤ x → ¬ ((r * C + q) * 8 ≤ x ∧ x < (r * C + q) * 8 + 8) → s'.2.2 0 x.toNat = S.2 0 x.toNat)) := by
      intro v hv
      refine ⟨(zq (i + 1), setA s 0 (zq ((r * C + q) * 8 + i)) (zq v)), ?_, rfl, ⟨hE.1, fun b hb => ?_⟩, ?_, ?_⟩
      · unfold fX0_joinNeighbours_j112 fX0_joinNeighbours_j113
        simp (disch := omega) only [zq_l0, zq_l1, zq_l2, zq_l3, zq_l4, zq_l5, zq_l6, zq_l8, zq_l10, zq_l25, zq_l29, zq_l30, zq_l32, zq_l50, zq_l63, zq_l99, zq_l100, zq_l125, zq_l200, zq_l338, zq_l505, zq_l6000, zq_l10000, zq_l20, zq_bnd, zq_nm, zq_ck, zq_ex, zq_neg, zq_add, zq_sub, zq_mul, zq_div, zq_lt, zq_le, zq_eq, zq_tn, zq_setA_1, zq_setS_2, if_pos, if_neg, zq_if0, zq_if1, ite_true, ite_false]
      · show (setA s 0 _ (zq v)).2 b = _
        rw [zq_setA_other _ _ _ _ _ hb]; exact hE.2 b hb
      · intro d d0 d1
        show (setA s 0 (zq ((r * C + q) * 8 + i)) (zq v)).2 0 _ = _
        rw [zq_wr _ _ _ _ (by omega) (by omega)]
        by_cases hd : d = i
        · rw [if_pos ⟨rfl, by omega⟩, hv, hd]
        · rw [if_neg (by omega)]; exact h1 d d0 (by omega)
      · intro x x0 hx
        show (setA s 0 (zq ((r * C + q) * 8 + i)) (zq v)).2 0 _ = _
        rw [zq_wr _ _ _ _ (by omega) (by omega), if_neg (by omega)]; exact h2 x x0 hx
    have b3 : fX0_joinNeighbours_b3 (zq r) (zq q) (zq R) (zq C) (zq i, s) = fX0_joinNeighbours_j112 (zq r) (zq q) (zq R) (zq C) (zq i) (zq ((r * C + q) * 8 + i)) (zq (zqNb R C (r * C + q) i)) s := by
      rw [nbE]
      generalize zqDn (i : Int) = dn at *
      generalize zqAc (i : Int) = ac at *
      unfold fX0_joinNeighbours_b3 fX0_joinNeighbours_j57 fX0_joinNeighbours_j58 zqAt
      simp (disch := omega) only [zq_l0, zq_l1, zq_l2, zq_l3, zq_l4, zq_l5, zq_l6, zq_l8, zq_l10, zq_l25, zq_l29, zq_l30, zq_l32, zq_l50, zq_l63, zq_l99, zq_l100, zq_l125, zq_l200, zq_l338, zq_l505, zq_l6000, zq_l10000, zq_l20, zq_bnd, zq_nm, zq_ck, zq_ex, zq_neg, zq_add, zq_sub, zq_mul, zq_div, zq_lt, zq_le, zq_eq, zq_tn, zq_setA_1, zq_setS_2, if_pos, if_neg, zq_if0, zq_if1, ite_true, ite_false, dD, dA, zq_m1]
      by_cases q1 : r + dn < 0
      · rw [if_pos q1, if_neg (by omega)]
      · rw [if_neg q1]
        by_cases q2 : R ≤ r + dn
        · rw [if_pos q2, if_neg (by omega)]
        · rw [if_neg q2]
          by_cases q3 : q + ac < 0
          · rw [if_pos q3, if_neg (by omega)]
          · rw [if_neg q3]
            by_cases q4 : C ≤ q + ac
            · rw [if_pos q4, if_neg (by omega)]
            · rw [if_neg q4, if_pos (by omega)]
    rw [b3]
    exact wr _ rfl
  · rintro ⟨s1, s⟩ ⟨e, hE, h1, h2⟩
    have e : s1 = zq 8 := e
    subst e
    refine ⟨s, ?_, hE, fun d d0 d1 => h1 d d0 (by omega), h2⟩
    unfold fX0_joinNeighbours_b3
    simp (disch := omega) only [zq_l0, zq_l1, zq_l2, zq_l3, zq_l4, zq_l5, zq_l6, zq_l8, zq_l10, zq_l25, zq_l29, zq_l30, zq_l32, zq_l50, zq_l63, zq_l99, zq_l100, zq_l125, zq_l200, zq_l338, zq_l505, zq_l6000, zq_l10000, zq_l20, zq_bnd, zq_nm, zq_ck, zq_ex, zq_neg, zq_add, zq_sub, zq_mul, zq_div, zq_lt, zq_le, zq_eq, zq_tn, zq_setA_1, zq_setS_2, if_pos, if_neg, zq_if0, zq_if1, ite_true, ite_false]
/-- the table of neighbours, as far as cell k -/
def zjD (S S' : SC) (R C k : Int) : Prop := zjE S S' ∧ ∀ c d : Int, 0 ≤ c → c < k → 0 ≤ d → d < 8 → S'.2 0 (c * 8 + d).toNat = zq (zqNb R C c d)
theorem zc_start80 {S S1 : SC} {R C r : Int} (hR : 2 ≤ R ∧ R ≤ 5) (hC : 2 ≤ C ∧ C ≤ 5) (hr : 0 ≤ r ∧ r < R) (D : zjD S S1 R C (r * C)) : ∃ S', loop (fX0_start_b80 (zq R) (zq C) (zq r)) FUEL (0, S1) = some (.inl (zq (r + 1), S')) ∧ zjD S S' R C ((r + 1) * C) := by
  have rc := zq_rc hR hC hr
  have RC := zq_RC hR hC
  have e1 : (r + 1) * C = r * C + C := by rw [Int.add_mul]; omega
  obtain ⟨x, e, S', q1, q2⟩ := zq_forP (b := fX0_start_b80 (zq R) (zq C) (zq r)) (s := (0, S1)) (fun i s => s.1 = zq i ∧ zjD S s.2 R C (r * C + i)) (fun x => ∃ S', x = .inl (zq (r + 1), S') ∧ zjD S S' R C ((r + 1) * C)) C.toNat (by omega)
    (by
      rintro i hi ⟨s1, s⟩ ⟨e, hD⟩
      have e : s1 = zq i := e
      subst e
      have hD : zjD S s R C (r * C + i) := hD
      obtain ⟨s', e', E', n1, n2⟩ := zc_join (S := s) hR hC hr (q := (i : Int)) (by omega)
      refine ⟨(zq (i + 1), s'), ?_, rfl, ⟨E'.1.trans hD.1.1, fun b hb => (E'.2 b hb).trans (hD.1.2 b hb)⟩, ?_⟩
      · unfold fX0_start_b80
        simp (disch := omega) only [zq_l0, zq_l1, zq_l2, zq_l3, zq_l4, zq_l5, zq_l6, zq_l8, zq_l10, zq_l25, zq_l29, zq_l30, zq_l32, zq_l50, zq_l63, zq_l99, zq_l100, zq_l125, zq_l200, zq_l338, zq_l505, zq_l6000, zq_l10000, zq_l20, zq_bnd, zq_nm, zq_ck, zq_ex, zq_neg, zq_add, zq_sub, zq_mul, zq_div, zq_lt, zq_le, zq_eq, zq_tn, zq_setA_1, zq_setS_2, if_pos, if_neg, zq_if0, zq_if1, ite_true, ite_false, e']
      · intro c d c0 c1 d0 d1
        show s'.2 0 _ = _
        by_cases hc : c = r * C + i
        · rw [hc]; exact n1 d d0 d1
        · rw [n2 _ (by omega) (by omega)]
          exact hD.2 c d c0 (by omega) d0 d1)
    (by
      rintro ⟨s1, s⟩ ⟨e, hD⟩
      have e : s1 = zq (C.toNat : Nat) := e
      subst e
      have hD : zjD S s R C (r * C + (C.toNat : Nat)) := hD
      rw [show ((C.toNat : Nat) : Int) = C by omega] at hD ⊢
      refine ⟨.inl (zq (r + 1), s), ?_, s, rfl, by rw [e1]; exact hD⟩
      unfold fX0_start_b80
      simp (disch := omega) only [zq_l0, zq_l1, zq_l2, zq_l3, zq_l4, zq_l5, zq_l6, zq_l8, zq_l10, zq_l25, zq_l29, zq_l30, zq_l32, zq_l50, zq_l63, zq_l99, zq_l100, zq_l125, zq_l200, zq_l338, zq_l505, zq_l6000, zq_l10000, zq_l20, zq_bnd, zq_nm, zq_ck, zq_ex, zq_neg, zq_add, zq_sub, zq_mul, zq_div, zq_lt, zq_le, zq_eq, zq_tn, zq_setA_1, zq_setS_2, if_pos, if_neg, zq_if0, zq_if1, ite_true, ite_false])
    ⟨rfl, by rw [show r * C + ((0 : Nat) : Int) = r * C by omega]; exact D⟩
  exact ⟨S', by rw [e, q1], q2⟩
theorem zc_start71 {S : SC} {R C : Int} (hR : 2 ≤ R ∧ R ≤ 5) (hC : 2 ≤ C ∧ C ≤ 5) : ∃ S', loop (fX0_start_b71 (zq R) (zq C)) FUEL (0, S) = some S' ∧ zjD S S' R C (R * C) := by
  refine zq_forP (b := fX0_start_b71 (zq R) (zq C)) (s := (0, S)) (fun i s => s.1 = zq i ∧ zjD S s.2 R C (i * C)) (fun S' => zjD S S' R C (R * C)) R.toNat (by omega) ?_ ?_ ⟨rfl, ⟨rfl, fun _ _ => rfl⟩, fun c d c0 c1 d0 d1 => by rw [show (((0 : Nat) : Int) * C) = 0 by rw [show ((0 : Nat) : Int) = 0 from rfl, Int.zero_mul]] at c1; omega⟩
  · rintro i hi ⟨s1, s⟩ ⟨e, hD⟩
    have e : s1 = zq i := e
    subst e
    have hD : zjD S s R C (i * C) := hD
    obtain ⟨S', e', D'⟩ := zc_start80 hR hC (r := (i : Int)) (by omega) hD
    refine ⟨(zq (i + 1), S'), ?_, rfl, D'⟩
    unfold fX0_start_b71
    rw [zq_l0] at e'
    simp (disch := omega) only [zq_l0, zq_l1, zq_l2, zq_l3, zq_l4, zq_l5, zq_l6, zq_l8, zq_l10, zq_l25, zq_l29, zq_l30, zq_l32, zq_l50, zq_l63, zq_l99, zq_l100, zq_l125, zq_l200, zq_l338, zq_l505, zq_l6000, zq_l10000, zq_l20, zq_bnd, zq_nm, zq_ck, zq_ex, zq_neg, zq_add, zq_sub, zq_mul, zq_div, zq_lt, zq_le, zq_eq, zq_tn, zq_setA_1, zq_setS_2, if_pos, if_neg, zq_if0, zq_if1, ite_true, ite_false, e']
  · rintro ⟨s1, s⟩ ⟨e, hD⟩
    have e : s1 = zq (R.toNat : Nat) := e
    subst e
    have hD : zjD S s R C ((R.toNat : Nat) * C) := hD
    rw [show ((R.toNat : Nat) : Int) = R by omega] at hD ⊢
    refine ⟨s, ?_, hD⟩
    unfold fX0_start_b71
    simp (disch := omega) only [zq_l0, zq_l1, zq_l2, zq_l3, zq_l4, zq_l5, zq_l6, zq_l8, zq_l10, zq_l25, zq_l29, zq_l30, zq_l32, zq_l50, zq_l63, zq_l99, zq_l100, zq_l125, zq_l200, zq_l338, zq_l505, zq_l6000, zq_l10000, zq_l20, zq_bnd, zq_nm, zq_ck, zq_ex, zq_neg, zq_add, zq_sub, zq_mul, zq_div, zq_lt, zq_le, zq_eq, zq_tn, zq_setA_1, zq_setS_2, if_pos, if_neg, zq_if0, zq_if1, ite_true, ite_false]
theorem zc_fill (k : Nat) (n : Int) (hn : 0 ≤ n ∧ n < 1000) (h1 : lenA k = n.toNat) (h2 : Int32.ofNat (lenA k) = zq n) (S : SC) (v : Int32) : ∃ S', fJ7_fill_53178 k S v = some S' ∧ S'.1 = S.1 ∧ (∀ b, b ≠ k → S'.2 b = S.2 b) ∧ ∀ x : Int, 0 ≤ x → x < n → S'.2 k x.toNat = v := by
  unfold fJ7_fill_53178
  rw [h2, zq_nm]
  refine zq_forP (b := fJ7_fill_53178_b5 k v (zq n)) (s := (0, S)) (fun i s => s.1 = zq i ∧ s.2.1 = S.1 ∧ (∀ b, b ≠ k → s.2.2 b = S.2 b) ∧ ∀ x : Int, 0 ≤ x → x < i → s.2.2 k x.toNat = v) (fun S' => S'.1 = S.1 ∧ (∀ b, b ≠ k → S'.2 b = S.2 b) ∧ ∀ x : Int, 0 ≤ x → x < n → S'.2 k x.toNat = v) n.toNat (by omega) ?_ ?_ ⟨rfl, rfl, fun _ _ => rfl, fun x x0 x1 => by omega⟩
  · rintro i hi ⟨s1, s⟩ ⟨e, q1, q2, q3⟩
    have e : s1 = zq i := e
    subst e
    have q2 : ∀ b, b ≠ k → s.2 b = S.2 b := q2
    have q3 : ∀ x : Int, 0 ≤ x → x < i → s.2 k x.toNat = v := q3
    refine ⟨(zq (i + 1), setA s k (zq i) v), ?_, rfl, q1, ?_, ?_⟩
    · unfold fJ7_fill_53178_b5
      rw [h1]
      simp (disch := omega) only [zq_l0, zq_l1, zq_l2, zq_l3, zq_l4, zq_l5, zq_l6, zq_l8, zq_l10, zq_l25, zq_l29, zq_l30, zq_l32, zq_l50, zq_l63, zq_l99, zq_l100, zq_l125, zq_l200, zq_l338, zq_l505, zq_l6000, zq_l10000, zq_l20, zq_bnd, zq_nm, zq_ck, zq_ex, zq_neg, zq_add, zq_sub, zq_mul, zq_div, zq_lt, zq_le, zq_eq, zq_tn, zq_setA_1, zq_setS_2, if_pos, if_neg, zq_if0, zq_if1, ite_true, ite_false]
    · intro b hb
      show (setA s k (zq i) v).2 b = _
      rw [zq_setA_other _ _ _ _ _ hb]; exact q2 b hb
    · intro x x0 x1
      show (setA s k (zq i) v).2 k _ = _
      rw [zq_wr _ _ _ _ (by omega) (by omega)]
      by_cases hx : x = i
      · rw [if_pos ⟨rfl, hx⟩]
      · rw [if_neg (fun q => hx q.2)]; exact q3 x x0 (by omega)
  · rintro ⟨s1, s⟩ ⟨e, q1, q2, q3⟩
    have e : s1 = zq (n.toNat : Nat) := e
    subst e
    refine ⟨s, ?_, q1, q2, fun x x0 x1 => q3 x x0 (by omega)⟩
    rw [show ((n.toNat : Nat) : Int) = n by omega]
    unfold fJ7_fill_53178_b5
    simp (disch := omega) only [zq_l0, zq_l1, zq_l2, zq_l3, zq_l4, zq_l5, zq_l6, zq_l8, zq_l10, zq_l25, zq_l29, zq_l30, zq_l32, zq_l50, zq_l63, zq_l99, zq_l100, zq_l125, zq_l200, zq_l338, zq_l505, zq_l6000, zq_l10000, zq_l20, zq_bnd, zq_nm, zq_ck, zq_ex, zq_neg, zq_add, zq_sub, zq_mul, zq_div, zq_lt, zq_le, zq_eq, zq_tn, zq_setA_1, zq_setS_2, if_pos, if_neg, zq_if0, zq_if1, ite_true, ite_false]
theorem zq_bI0 (R C B p0 p1 : Int) {c : Int} (h : 0 ≤ c) : (zqG0 R C B p0 p1).bI c = -1 := zq_bIn (fun i _ _ => by show (-1 : Int) ≠ c; omega)
theorem zc_start {S : SC} {R C B p0 p1 : Int} (hR : 2 ≤ R ∧ R ≤ 5) (hC : 2 ≤ C ∧ C ≤ 5) : ∃ S', fX0_start S (zq R) (zq C) (zq B) (zq p0) (zq p1) = some S' ∧ ZC S' (zqG0 R C B p0 p1) ∧ S'.1 4 = zq 0 ∧ S'.1 5 = zq 0 ∧ S'.1 6 = zq (-1) := by
  unfold fX0_start
  rw [zq_mul]
  simp only [zq_nm]
  generalize hS : setS (setS (setS (setS (setS (setS (setS (setS S 0 (zq (R * C))) 1 (zq B)) 2 (zq p0)) 3 (zq p1)) 4 0) 5 0) 6 (-1)) 7 0 = S1
  have i0 : S1.1 0 = zq (R * C) ∧ S1.1 1 = zq B ∧ S1.1 2 = zq p0 ∧ S1.1 3 = zq p1 ∧ S1.1 4 = zq 0 ∧ S1.1 5 = zq 0 ∧ S1.1 6 = zq (-1) ∧ S1.1 7 = zq 0 := by
    rw [← hS]
    refine ⟨rfl, rfl, rfl, rfl, rfl, rfl, rfl, rfl⟩
  clear hS
  obtain ⟨S2, e2, a2, b2, c2⟩ := zc_fill 1 25 (by omega) rfl rfl S1 0
  obtain ⟨S3, e3, a3, b3, c3⟩ := zc_fill 2 25 (by omega) rfl rfl S2 (-1)
  obtain ⟨S4, e4, a4, b4, c4⟩ := zc_fill 3 4 (by omega) rfl rfl S3 (-1)
  obtain ⟨S5, e5, D5⟩ := zc_start71 (S := S4) hR hC
  have i5 : ∀ k, S5.1 k = S1.1 k := fun k => by rw [D5.1.1, a4, a3, a2]
  refine ⟨S5, ?_, ⟨?_, ?_, ?_, ?_, ?_, ?_, ?_, ?_, ?_⟩, ?_, ?_, ?_⟩
  · rw [e2, zq_bnd, e3, zq_bnd, e4, zq_bnd, e5]
  · rw [i5]; exact i0.1
  · rw [i5]; exact i0.2.1
  · rw [i5]; exact i0.2.2.1
  · rw [i5]; exact i0.2.2.2.1
  · rw [i5]; exact i0.2.2.2.2.2.2.2
  · intro c c0 c1
    rw [D5.1.2 1 (by omega), b4 1 (by omega), b3 1 (by omega), c2 c c0 c1]; rfl
  · intro c c0 c1
    rw [D5.1.2 2 (by omega), b4 2 (by omega), c3 c c0 c1]
    unfold ZG.hold
    rw [zq_bI0 R C B p0 p1 c0, if_pos rfl]; rfl
  · intro c c0 c1
    rw [D5.1.2 3 (by omega), c4 c c0 c1]; rfl
  · intro c d c0 c1 d0 d1
    exact D5.2 c d c0 c1 d0 d1
  · rw [i5]; exact i0.2.2.2.2.1
  · rw [i5]; exact i0.2.2.2.2.2.1
  · rw [i5]; exact i0.2.2.2.2.2.2.1
theorem zw_G0 {R C B p0 p1 : Int} (hR : 2 ≤ R ∧ R ≤ 5) (hC : 2 ≤ C ∧ C ≤ 5) (hB : 1 ≤ B ∧ B ≤ 2) (h0 : 0 ≤ p0 ∧ p0 ≤ 6) (h1 : 0 ≤ p1 ∧ p1 ≤ 6) : ZW (zqG0 R C B p0 p1) := by
  have RC := zq_RC hR hC
  refine ⟨hR, hC, hB, ?_, ?_, ?_, ?_, ?_, Or.inl rfl, Or.inl rfl, ?_⟩
  · intro i _ _
    show 0 ≤ (if i = 0 then p0 else p1) ∧ (if i = 0 then p0 else p1) ≤ 6
    split <;> omega
  · intro c _ _; show (0 : Int) ≤ 0 ∧ (0 : Int) ≤ 4; omega
  · intro i _ _; show (-1 : Int) ≤ -1 ∧ (-1 : Int) < R * C; omega
  · intro i j _ _ _ _ _ h; exact absurd rfl h
  · intro i _ _ h; exact absurd rfl h
  · intro i _ _ _; rfl
/-! a builder is placed -/
def zqIx (B q : Int) : Int := if B = 2 then q else 2 * q
theorem zq_Ix {B q : Int} (hB : 1 ≤ B ∧ B ≤ 2) : (B = 1 ∧ zqIx B q = 2 * q) ∨ (B = 2 ∧ zqIx B q = q) := by
  unfold zqIx
  rcases (show B = 1 ∨ B = 2 by omega) with h | h
  · left; rw [if_neg (by omega)]; exact ⟨h, rfl⟩
  · right; rw [if_pos h]; exact ⟨h, rfl⟩
/-- q builders are placed -/
def ZQ (g : ZG) (q : Int) : Prop := ∀ i, 0 ≤ i → i < 4 → i % 2 < g.B → (g.a i ≠ -1 ↔ i < zqIx g.B q)
theorem ZQ.p {g : ZG} {q : Int} (w : ZW g) (h : ZQ g q) (hq : q = 2 * g.B) : ZP g := by
  have hB := w.B
  intro i i0 i4 hi
  have := zq_Ix (q := q) hB
  exact (h i i0 i4 hi).mpr (by omega)
def ZG.put (g : ZG) (i c : Int) : ZG := ZG.mk g.R g.C g.B g.p g.h (fun x => if x = i then c else g.a x) g.m g.b
theorem zp_a (g : ZG) (i c x : Int) : (g.put i c).a x = if x = i then c else g.a x := rfl
theorem zw_put {g : ZG} (w : ZW g) {i c : Int} (hi : 0 ≤ i ∧ i < 4) (hb : i % 2 < g.B) (hc : 0 ≤ c ∧ c < g.n) (h1 : g.bI c = -1) (h4 : g.h c < 4) : ZW (g.put i c) := by
  have no := zq_bIno w hc.1 h1
  refine ⟨w.R, w.C, w.B, w.p, w.h, ?_, ?_, ?_, w.m, w.b, ?_⟩
  · intro x x0 x4
    rw [zp_a]
    have := w.a x x0 x4
    show -1 ≤ _ ∧ _ < g.n
    split <;> omega
  · intro x y x0 x4 y0 y4
    rw [zp_a, zp_a]
    by_cases hx : x = i
    · rw [if_pos hx]
      by_cases hy : y = i
      · intro _ _; omega
      · rw [if_neg hy]; intro q; exact absurd q.symm (no y y0 y4)
    · rw [if_neg hx]
      by_cases hy : y = i
      · rw [if_pos hy]; intro q; exact absurd q (no x x0 x4)
      · rw [if_neg hy]; exact w.inj x y x0 x4 y0 y4
  · intro x x0 x4
    rw [zp_a]
    show _ → g.h _ < 4
    by_cases hx : x = i
    · rw [if_pos hx]; exact fun _ => h4
    · rw [if_neg hx]; exact w.low x x0 x4
  · intro x x0 x4 hx
    have hx : g.B ≤ x % 2 := hx
    rw [zp_a]
    by_cases he : x = i
    · rw [he] at hx; omega
    · rw [if_neg he]; exact w.out x x0 x4 hx
theorem zp_bI {g : ZG} (w : ZW g) {i c : Int} (hi : 0 ≤ i ∧ i < 4) (hb : i % 2 < g.B) (hc : 0 ≤ c ∧ c < g.n) (h1 : g.bI c = -1) (h4 : g.h c < 4) (ha : g.a i = -1) {x : Int} (x0 : 0 ≤ x) : (g.put i c).bI x = if x = c then i else g.bI x := by
  have w' := zw_put w hi hb hc h1 h4
  by_cases hx : x = c
  · rw [if_pos hx]
    exact zq_bIe w' hi.1 hi.2 x0 (by rw [zp_a, if_pos rfl, hx])
  · rw [if_neg hx]
    by_cases hb : g.bI x = -1
    · rw [hb]
      refine zq_bIn (fun j j0 j4 => ?_)
      rw [zp_a]
      by_cases hj : j = i
      · rw [if_pos hj]; exact fun q => hx q.symm
      · rw [if_neg hj]; exact zq_bIno w x0 hb j j0 j4
    · have e := zq_bIa hb
      have r := zq_bI g x
      refine zq_bIe w' (by omega) (by omega) x0 ?_
      rw [zp_a, if_neg, e]
      intro h; rw [h, ha] at e; omega
theorem zq_putQ {g : ZG} (w : ZW g) {q c : Int} (h : ZQ g q) (hq : 0 ≤ q ∧ q < 2 * g.B) (hc : 0 ≤ c ∧ c < g.n) : (0 ≤ zqIx g.B q ∧ zqIx g.B q < 4) ∧ zqIx g.B q % 2 < g.B ∧ g.a (zqIx g.B q) = -1 ∧ ZQ (g.put (zqIx g.B q) c) (q + 1) := by
  have hB := w.B
  have ix := zq_Ix (q := q) hB
  have ix1 := zq_Ix (q := q + 1) hB
  have r1 : 0 ≤ zqIx g.B q ∧ zqIx g.B q < 4 := by omega
  have r2 : zqIx g.B q % 2 < g.B := by omega
  refine ⟨r1, r2, ?_, ?_⟩
  · exact Classical.byContradiction fun hn => by have := (h _ r1.1 r1.2 r2).mp hn; omega
  · intro i i0 i4 hi
    have hi : i % 2 < g.B := hi
    rw [zp_a]
    have eB : (g.put (zqIx g.B q) c).B = g.B := rfl
    rw [eB]
    by_cases he : i = zqIx g.B q
    · rw [if_pos he]
      constructor
      · intro _; omega
      · intro _; omega
    · rw [if_neg he, h i i0 i4 hi]
      omega
/-- the class places one -/
theorem zc_addBuilder {S : SC} {g : ZG} (z : ZC S g) (w : ZW g) {q c : Int} (hq : S.1 4 = zq q) (hQ : ZQ g q) (q0 : 0 ≤ q ∧ q < 2 * g.B) (hm : g.m = 0) (hv : S.1 6 = zq (-1)) (hc : 0 ≤ c ∧ c < g.n) (h1 : g.bI c = -1) (h4 : g.h c < 4) :
    ∃ S', fX0_addBuilder S (zq c) = some S' ∧ ZC S' (g.put (zqIx g.B q) c) ∧ S'.1 4 = zq (q + 1) ∧ S'.1 5 = S.1 5 ∧ S'.1 6 = zq (if q + 1 = 2 * g.B ∧ (g.put (zqIx g.B q) c).trs = [] then 1 else -1) := by
  have hB := w.B
  have hn := w.n
  obtain ⟨i0, i2, ia, Q'⟩ := zq_putQ w hQ q0 hc
  have w' := zw_put w i0 i2 hc h1 h4
  have ix := zq_Ix (q := q) hB
  have bi := fun x (x0 : 0 ≤ x) => zp_bI w i0 i2 hc h1 h4 ia x0
  have pZ : (g.put (zqIx g.B q) c).trs ≠ [] ∨ True := Or.inr trivial
  generalize hi : zqIx g.B q = i at *
  -- behind the writes
  have zS : ∀ S4 : SC, S4 = setS (setA (setA S 2 (zq c) (zq (10 * (i / 2) + i % 2))) 3 (zq i) (zq c)) 4 (zq (q + 1)) → ZC S4 (g.put i c) ∧ S4.1 4 = zq (q + 1) ∧ S4.1 5 = S.1 5 ∧ S4.1 6 = zq (-1) ∧ S4.1 1 = zq g.B := by
    intro S4 e4
    have k1 : ∀ k, k ≠ 4 → S4.1 k = S.1 k := fun k hk => by rw [e4, zq_setS_other _ _ _ _ hk]; rfl
    refine ⟨⟨by rw [k1 0 (by omega)]; exact z.n, by rw [k1 1 (by omega)]; exact z.B, by rw [k1 2 (by omega)]; exact z.p0, by rw [k1 3 (by omega)]; exact z.p1, by rw [k1 7 (by omega)]; exact z.b, ?_, ?_, ?_, ?_⟩, by rw [e4, zq_setS_same], k1 5 (by omega), by rw [k1 6 (by omega)]; exact hv, by rw [k1 1 (by omega)]; exact z.B⟩
    · rw [e4, zq_setS_2, zq_setA_other _ _ _ _ _ (by omega), zq_setA_other _ _ _ _ _ (by omega)]; exact z.h
    · intro x x0 x1
      rw [e4, zq_setS_2, zq_wr _ _ _ _ (by omega) x0, zq_wr _ _ _ _ (by omega) x0, if_neg (by omega)]
      unfold ZG.hold
      rw [bi x x0]
      by_cases hx : x = c
      · rw [if_pos ⟨rfl, hx⟩, if_pos hx, if_neg (by omega)]
      · rw [if_neg (fun r => hx r.2), if_neg hx, z.o x x0 x1]; rfl
    · intro y y0 y4
      rw [e4, zq_setS_2, zq_wr _ _ _ _ (by omega) y0, zq_wr _ _ _ _ (by omega) y0, zp_a]
      by_cases hy : y = i
      · rw [if_pos ⟨rfl, hy⟩, if_pos hy]
      · rw [if_neg (fun r => hy r.2), if_neg hy, if_neg (by omega)]; exact z.a y y0 y4
    · rw [e4, zq_setS_2, zq_setA_other _ _ _ _ _ (by omega), zq_setA_other _ _ _ _ _ (by omega)]; exact z.nb
  have fin : ∀ k : Int, (k = if g.B ≤ q then 1 else 0) → ∃ S', fX0_addBuilder_j16 (zq c) (zq k) S = some S' ∧ ZC S' (g.put i c) ∧ S'.1 4 = zq (q + 1) ∧ S'.1 5 = S.1 5 ∧ S'.1 6 = zq (if q + 1 = 2 * g.B ∧ (g.put i c).trs = [] then 1 else -1) := by
    intro k hk
    have ek : 10 * k + (q - k * g.B) = 10 * (i / 2) + i % 2 := by
      by_cases hb : g.B ≤ q
      · rw [if_pos hb] at hk; subst hk; omega
      · rw [if_neg hb] at hk; subst hk; omega
    unfold fX0_addBuilder_j16
    rw [hq, z.B, zq_mul, zq_sub, zq_nm, zq_l10, zq_mul, zq_add, ek, zc_put (by omega) (by omega), zq_bnd]
    have e6 : (setA (setA S 2 (zq c) (zq (10 * (i / 2) + i % 2))) 3 (zq i) (zq c)).1 4 = zq q := hq
    rw [e6, zq_l1, zq_add, zq_nm]
    obtain ⟨z4, a4, a5, a6, a1⟩ := zS _ rfl
    generalize setS (setA (setA S 2 (zq c) (zq (10 * (i / 2) + i % 2))) 3 (zq i) (zq c)) 4 (zq (q + 1)) = S4 at *
    have is : fX0_isSet S4 = some (zq (zqB (q + 1 = 2 * g.B))) := by
      unfold fX0_isSet
      rw [a4, a1]
      simp (disch := omega) only [zq_l0, zq_l1, zq_l2, zq_l3, zq_l4, zq_l5, zq_l6, zq_l8, zq_l10, zq_l25, zq_l29, zq_l30, zq_l32, zq_l50, zq_l63, zq_l99, zq_l100, zq_l125, zq_l200, zq_l338, zq_l505, zq_l6000, zq_l10000, zq_l20, zq_bnd, zq_nm, zq_ck, zq_ex, zq_neg, zq_add, zq_sub, zq_mul, zq_div, zq_lt, zq_le, zq_eq, zq_tn, zq_setA_1, zq_setS_2, if_pos, if_neg, zq_if0, zq_if1, ite_true, ite_false]
      rw [zqB_if]
    rw [is, zq_bnd, zq_l0, zq_if0]
    by_cases hs : q + 1 = 2 * g.B
    · have hp : ZP (g.put i c) := Q'.p w' hs
      have ht := zc_hasTurn z4 w' hp
      have em : (g.put i c).m = 0 := hm
      rw [em] at ht
      rw [if_pos hs, ht, zq_bnd, zq_if0]
      by_cases hn : (g.put i c).trs = []
      · rw [if_neg (fun q => q hn)]
        refine ⟨setS S4 6 (zq 1), rfl, z4.v _, by rw [zq_setS_other _ _ _ _ (by omega)]; exact a4, by rw [zq_setS_other _ _ _ _ (by omega)]; exact a5, by rw [zq_setS_same, if_pos ⟨hs, hn⟩]⟩
      · rw [if_pos hn]
        exact ⟨S4, rfl, z4, a4, a5, by rw [a6, if_neg (fun r => hn r.2)]⟩
    · rw [if_neg hs]
      exact ⟨S4, rfl, z4, a4, a5, by rw [a6, if_neg (fun r => hs r.1)]⟩
  unfold fX0_addBuilder
  rw [z.B, hq]
  have q1 : (zq g.B ≤ zq q) = (g.B ≤ q) := zq_le (by omega)
  simp only [q1]
  by_cases hb : g.B ≤ q
  · rw [if_pos hb, zq_l1]; exact fin 1 (by rw [if_pos hb])
  · rw [if_neg hb, zq_l0]; exact fin 0 (by rw [if_neg hb])
/-! the reference lays an empty board -/
/-- who is on turn, as both tell it -/
def zqOT (B q m v : Int) : Int := if v = -1 then (if q = 2 * B then m else if q < B then 0 else 1) else -1
theorem zc_isSet {S : SC} {g : ZG} (z : ZC S g) (w : ZW g) {q : Int} (hq : S.1 4 = zq q) (q0 : 0 ≤ q ∧ q ≤ 2 * g.B) : fX0_isSet S = some (zq (zqB (q = 2 * g.B))) := by
  have hB := w.B
  unfold fX0_isSet
  rw [hq, z.B]
  simp (disch := omega) only [zq_l0, zq_l1, zq_l2, zq_l3, zq_l4, zq_l5, zq_l6, zq_l8, zq_l10, zq_l25, zq_l29, zq_l30, zq_l32, zq_l50, zq_l63, zq_l99, zq_l100, zq_l125, zq_l200, zq_l338, zq_l505, zq_l6000, zq_l10000, zq_l20, zq_bnd, zq_nm, zq_ck, zq_ex, zq_neg, zq_add, zq_sub, zq_mul, zq_div, zq_lt, zq_le, zq_eq, zq_tn, zq_setA_1, zq_setS_2, if_pos, if_neg, zq_if0, zq_if1, ite_true, ite_false]
  rw [zqB_if]
theorem zc_mover {S : SC} {g : ZG} (z : ZC S g) (w : ZW g) {q v T : Int} (hq : S.1 4 = zq q) (q0 : 0 ≤ q ∧ q ≤ 2 * g.B) (hv : S.1 6 = zq v) (v0 : -1 ≤ v ∧ v ≤ 1) (hT : S.1 5 = zq T) (T0 : 0 ≤ T ∧ T ≤ 200) (hm : q = 2 * g.B → T % 2 = g.m) : fX0_mover S = some (zq (zqOT g.B q g.m v)) := by
  have hB := w.B
  unfold fX0_mover zqOT
  rw [hv, zc_isSet z w hq q0, zq_bnd, hq, hT, z.B, zq_l0, zq_if0]
  simp (disch := omega) only [zq_l0, zq_l1, zq_l2, zq_l3, zq_l4, zq_l5, zq_l6, zq_l8, zq_l10, zq_l25, zq_l29, zq_l30, zq_l32, zq_l50, zq_l63, zq_l99, zq_l100, zq_l125, zq_l200, zq_l338, zq_l505, zq_l6000, zq_l10000, zq_l20, zq_bnd, zq_nm, zq_ck, zq_ex, zq_neg, zq_add, zq_sub, zq_mul, zq_div, zq_lt, zq_le, zq_eq, zq_tn, zq_setA_1, zq_setS_2, if_pos, if_neg, zq_if0, zq_if1, ite_true, ite_false, zq_m1]
  by_cases h1 : v = -1
  · rw [if_pos h1, if_pos h1]
    by_cases h2 : q = 2 * g.B
    · rw [if_pos h2, if_pos h2, show T - T / 2 * 2 = T % 2 by omega, hm h2]
    · rw [if_neg h2, if_neg h2]
      by_cases h3 : g.B ≤ q
      · rw [if_pos h3, if_neg (by omega)]
      · rw [if_neg h3, if_pos (by omega)]
  · rw [if_neg h1, if_neg h1]
/-! no game is longer than its storeys -/
def ZG.hs (g : ZG) : Int := ((zqRg 25).map g.h).sum
theorem zq_sumle {f g : Int → Int} : ∀ l : List Int, (∀ x ∈ l, f x ≤ g x) → (l.map f).sum ≤ (l.map g).sum
  | [], _ => by simp
  | a :: l, h => by
    have h1 := h a (by simp)
    have h2 := zq_sumle l (fun x hx => h x (by simp [hx]))
    simp only [List.map_cons, List.sum_cons]
    omega
theorem zq_sumlt {f g : Int → Int} : ∀ l : List Int, (∀ x ∈ l, f x ≤ g x) → (∃ x ∈ l, f x < g x) → (l.map f).sum + 1 ≤ (l.map g).sum
  | [], _, h => by obtain ⟨x, hx, _⟩ := h; exact absurd hx List.not_mem_nil
  | a :: l, h, ⟨x, hx, hlt⟩ => by
    have h1 := h a (by simp)
    simp only [List.map_cons, List.sum_cons]
    rcases List.mem_cons.mp hx with e | hx
    · have h2 := zq_sumle l (fun x hx => h x (by simp [hx]))
      rw [e] at hlt
      omega
    · have h2 := zq_sumlt l (fun x hx => h x (by simp [hx])) ⟨x, hx, hlt⟩
      omega
theorem zq_hs {g : ZG} (w : ZW g) : g.hs ≤ 100 := by
  unfold ZG.hs
  have h := zq_sumle (f := g.h) (g := fun _ => 4) (zqRg 25) (fun x hx => by have := zqRg_mem.mp hx; exact (w.h x this.1 this.2).2)
  have e : ((zqRg 25).map (fun _ => (4 : Int))).sum = 100 := by decide
  omega
theorem zq_hs0 {g : ZG} (w : ZW g) : 0 ≤ g.hs := by
  unfold ZG.hs
  have h := zq_sumle (f := fun _ => (0 : Int)) (g := g.h) (zqRg 25) (fun x hx => by have := zqRg_mem.mp hx; exact (w.h x this.1 this.2).1)
  have e : ((zqRg 25).map (fun _ => (0 : Int))).sum = 0 := by decide
  omega
theorem zt_hs {g : ZG} (w : ZW g) {n k c d e : Int} (t : ZT g n k c d e) (h9 : e ≠ 99) : g.hs + 1 ≤ (g.act n).hs := by
  have hn := w.n
  obtain ⟨fr, b0, b1⟩ := t.fre h9
  have h4 := fr.2.1
  unfold ZG.hs
  refine zq_sumlt (zqRg 25) (fun x hx => ?_) ⟨zqBc e, zqRg_mem.mpr ⟨b0, by omega⟩, ?_⟩
  · have hx := zqRg_mem.mp hx
    have hh := w.h x hx.1 hx.2
    rw [zt_h w t x hx.1]
    by_cases hb : x = zqBc e
    · rw [if_pos hb]; split <;> omega
    · rw [if_neg hb]; omega
  · rw [zt_h w t _ b0, if_pos rfl]
    by_cases h5 : 50 ≤ e
    · rw [if_pos h5]; exact h4
    · rw [if_neg h5]; omega
