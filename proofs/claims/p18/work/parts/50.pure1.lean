set_option maxRecDepth 100000
/-! ints by their number -/
def zq (z : Int) : Int32 := Int32.ofInt z
theorem zq_nat (n : Nat) : (OfNat.ofNat n : Int32) = zq n := rfl
theorem zq_add (a b : Int) : zq a + zq b = zq (a + b) := (Int32.ofInt_add a b).symm
theorem zq_sub (a b : Int) : zq a - zq b = zq (a - b) := (Int32.ofInt_sub a b).symm
theorem zq_mul (a b : Int) : zq a * zq b = zq (a * b) := (Int32.ofInt_mul a b).symm
theorem zq_neg (a : Int) : - zq a = zq (- a) := (Int32.ofInt_neg a).symm
theorem zq_of (x : Int32) : x = zq x.toInt := (Int32.ofInt_toInt x).symm
theorem zq_to {a : Int} (h1 : -2147483648 ≤ a) (h2 : a < 2147483648) : (zq a).toInt = a := Int32.toInt_ofInt_of_le (by omega) (by omega)
theorem zq_lt {a b : Int} (h : -2147483648 ≤ a ∧ a < 2147483648 ∧ -2147483648 ≤ b ∧ b < 2147483648) : (zq a < zq b) = (a < b) := by
  rw [Int32.lt_iff_toInt_lt, zq_to h.1 h.2.1, zq_to h.2.2.1 h.2.2.2]
theorem zq_le {a b : Int} (h : -2147483648 ≤ a ∧ a < 2147483648 ∧ -2147483648 ≤ b ∧ b < 2147483648) : (zq a ≤ zq b) = (a ≤ b) := by
  rw [Int32.le_iff_toInt_le, zq_to h.1 h.2.1, zq_to h.2.2.1 h.2.2.2]
theorem zq_eq {a b : Int} (h : -2147483648 ≤ a ∧ a < 2147483648 ∧ -2147483648 ≤ b ∧ b < 2147483648) : (zq a = zq b) = (a = b) := by
  rw [← Int32.toInt_inj, zq_to h.1 h.2.1, zq_to h.2.2.1 h.2.2.2]
theorem zq_tn {a : Int} (h : 0 ≤ a ∧ a < 2147483648) : (zq a).toNatClampNeg = a.toNat := by
  show (zq a).toInt.toNat = a.toNat
  rw [zq_to (by omega) h.2]
theorem zq_div {a b : Int} (h : 0 ≤ a ∧ a < 2147483648 ∧ 0 < b ∧ b < 2147483648) : zq a / zq b = zq (a / b) := by
  rw [← Int32.toInt_inj, Int32.toInt_div_of_ne_left, zq_to (by omega) (by omega), zq_to (by omega) (by omega)]
  · rw [Int.tdiv_eq_ediv_of_nonneg h.1, zq_to]
    · have := Int.ediv_nonneg h.1 (Int.le_of_lt h.2.2.1); omega
    · have := Int.ediv_le_self b h.1; omega
  · intro hc
    have := congrArg Int32.toInt hc
    rw [zq_to (by omega) (by omega)] at this
    have h9 : (Int32.minValue).toInt = -2147483648 := by decide
    omega
theorem zq_ck {β : Type} {a : Int} {n : Nat} (k : Option β) (h : 0 ≤ a ∧ a < n ∧ n ≤ 10000) : ck (zq a) n k = k := by
  unfold ck
  rw [if_pos]
  constructor
  · rw [show (0 : Int32) = zq 0 from rfl, zq_le (by omega)]; exact h.1
  · rw [zq_tn (by omega)]; omega
theorem zq_ckN {β : Type} (n m : Nat) (k : Option β) (h : n < m ∧ m ≤ 10000) : ck (OfNat.ofNat n : Int32) m k = k := zq_ck (a := n) k (by omega)
theorem zq_bnd {α β : Type} (y : α) (k : α → Option β) : bnd (some y) k = k y := rfl
theorem zq_nm {α β : Type} (y : α) (k : α → Option β) : nm y k = k y := rfl
theorem zq_cp {β : Type} {P : Prop} [Decidable P] (k : Option β) (h : P) : cp P k = k := if_pos h
theorem zq_ex {σ ρ : Type} (x : ρ) : ex (σ := σ) (some x) = some (.inr x) := rfl
/-! loops -/
theorem zq_loop1 {σ ρ : Type} {b : σ → Option (σ ⊕ ρ)} {n : Nat} {s s' : σ} (h : b s = some (.inl s')) : loop b (n + 1) s = loop b n s' := by
  show (match b s with | none => none | some (.inl s') => loop b n s' | some (.inr r) => some r) = _
  rw [h]
theorem zq_loop0 {σ ρ : Type} {b : σ → Option (σ ⊕ ρ)} {n : Nat} {s : σ} {r : ρ} (h : b s = some (.inr r)) : loop b (n + 1) s = some r := by
  show (match b s with | none => none | some (.inl s') => loop b n s' | some (.inr r) => some r) = _
  rw [h]
theorem zq_loopK {σ ρ : Type} {b : σ → Option (σ ⊕ ρ)} (s : Nat → σ) : ∀ (k n : Nat), (∀ i, i < k → b (s i) = some (.inl (s (i + 1)))) → loop b (n + k) (s 0) = loop b n (s k) := by
  intro k
  induction k with
  | zero => intro n _; rfl
  | succ k ih =>
    intro n h
    rw [show n + (k + 1) = (n + 1) + k by omega, ih (n + 1) (fun i hi => h i (by omega)), zq_loop1 (h k (by omega))]
/-- a loop that runs k rounds, then ends -/
theorem zq_for {σ ρ : Type} {b : σ → Option (σ ⊕ ρ)} (s : Nat → σ) (k : Nat) {r : ρ} (hk : k < 1000000) (h : ∀ i, i < k → b (s i) = some (.inl (s (i + 1)))) (he : b (s k) = some (.inr r)) : loop b FUEL (s 0) = some r := by
  have e : FUEL = (FUEL - k - 1 + 1) + k := by rw [FUEL_is]; omega
  rw [e, zq_loopK s k _ h, zq_loop0 he]
/-- the same with a state that an invariant tells -/
theorem zq_forP {σ ρ : Type} {b : σ → Option (σ ⊕ ρ)} (P : Nat → σ → Prop) (Q : ρ → Prop) (k : Nat) (hk : k < 1000000) (h : ∀ i, i < k → ∀ s, P i s → ∃ s', b s = some (.inl s') ∧ P (i + 1) s') (he : ∀ s, P k s → ∃ r, b s = some (.inr r) ∧ Q r) {s : σ} (h0 : P 0 s) : ∃ r, loop b FUEL s = some r ∧ Q r := by
  have g : ∀ j n s, j ≤ k → P (k - j) s → j < n → ∃ r, loop b n s = some r ∧ Q r := by
    intro j
    induction j with
    | zero =>
      intro n s _ hp hn
      obtain ⟨r, e, q⟩ := he s (by simpa using hp)
      obtain ⟨n, rfl⟩ : ∃ m, n = m + 1 := ⟨n - 1, by omega⟩
      exact ⟨r, zq_loop0 e, q⟩
    | succ j ih =>
      intro n s hj hp hn
      obtain ⟨s', e, q⟩ := h (k - (j + 1)) (by omega) s hp
      obtain ⟨n, rfl⟩ : ∃ m, n = m + 1 := ⟨n - 1, by omega⟩
      rw [zq_loop1 e]
      exact ih n s' (by omega) (by rw [show k - j = k - (j + 1) + 1 by omega]; exact q) (by omega)
  exact g k FUEL s (by omega) (by rw [Nat.sub_self]; exact h0) (by rw [FUEL_is]; omega)
/-- the same, that may end before -/
theorem zq_forE {σ ρ : Type} {b : σ → Option (σ ⊕ ρ)} (P : Nat → σ → Prop) (Q : ρ → Prop) (k : Nat) (hk : k < 1000000) (h : ∀ i, i < k → ∀ s, P i s → (∃ s', b s = some (.inl s') ∧ P (i + 1) s') ∨ (∃ r, b s = some (.inr r) ∧ Q r)) (he : ∀ s, P k s → ∃ r, b s = some (.inr r) ∧ Q r) {s : σ} (h0 : P 0 s) : ∃ r, loop b FUEL s = some r ∧ Q r := by
  have g : ∀ j n s, j ≤ k → P (k - j) s → j < n → ∃ r, loop b n s = some r ∧ Q r := by
    intro j
    induction j with
    | zero =>
      intro n s _ hp hn
      obtain ⟨r, e, q⟩ := he s (by simpa using hp)
      obtain ⟨n, rfl⟩ : ∃ m, n = m + 1 := ⟨n - 1, by omega⟩
      exact ⟨r, zq_loop0 e, q⟩
    | succ j ih =>
      intro n s hj hp hn
      obtain ⟨n, rfl⟩ : ∃ m, n = m + 1 := ⟨n - 1, by omega⟩
      rcases h (k - (j + 1)) (by omega) s hp with ⟨s', e, q⟩ | ⟨r, e, q⟩
      · rw [zq_loop1 e]
        exact ih n s' (by omega) (by rw [show k - j = k - (j + 1) + 1 by omega]; exact q) (by omega)
      · exact ⟨r, zq_loop0 e, q⟩
  exact g k FUEL s (by omega) (by rw [Nat.sub_self]; exact h0) (by rw [FUEL_is]; omega)
/-! rows that are written -/
theorem zq_setA_same (S : SC) (a : Nat) (i v : Int32) : (setA S a i v).2 a i.toNatClampNeg = v := by simp [setA, upd]
theorem zq_setA_other (S : SC) (a b : Nat) (i v : Int32) (h : b ≠ a) : (setA S a i v).2 b = S.2 b := by simp [setA, h]
theorem zq_setA_1 (S : SC) (a : Nat) (i v : Int32) : (setA S a i v).1 = S.1 := rfl
theorem zq_setS_2 (S : SC) (k : Nat) (v : Int32) : (setS S k v).2 = S.2 := rfl
theorem zq_setS_same (S : SC) (k : Nat) (v : Int32) : (setS S k v).1 k = v := by simp [setS, upd]
theorem zq_setS_other (S : SC) (k j : Nat) (v : Int32) (h : j ≠ k) : (setS S k v).1 j = S.1 j := by simp [setS, upd, h]
theorem zq_setA_at (S : SC) (a : Nat) (i v : Int32) (j : Nat) : (setA S a i v).2 a j = if j = i.toNatClampNeg then v else S.2 a j := by simp [setA, upd]
/-! the game -/
def zqDn (d : Int) : Int := if d < 3 then -1 else if d < 5 then 0 else 1
def zqAc (d : Int) : Int := if d = 0 ∨ d = 3 ∨ d = 5 then -1 else if d = 1 ∨ d = 6 then 0 else 1
def zqAt (R C r q : Int) : Int := if 0 ≤ r ∧ r < R ∧ 0 ≤ q ∧ q < C then r * C + q else -1
def zqNb (R C c d : Int) : Int := zqAt R C (c / C + zqDn d) (c % C + zqAc d)
abbrev zqAdj (C c d : Int) : Prop := c ≠ d ∧ -1 ≤ c / C - d / C ∧ c / C - d / C ≤ 1 ∧ -1 ≤ c % C - d % C ∧ c % C - d % C ≤ 1
def zqBey (R C c d : Int) : Int := zqAt R C (2 * (d / C) - c / C) (2 * (d % C) - c % C)
def zqRg (n : Int) : List Int := (List.range n.toNat).map Int.ofNat
theorem zqRg_mem {n x : Int} : x ∈ zqRg n ↔ 0 ≤ x ∧ x < n := by
  unfold zqRg
  rw [List.mem_map]
  constructor
  · rintro ⟨k, hk, rfl⟩
    rw [List.mem_range] at hk
    exact ⟨Int.natCast_nonneg k, by show (k : Int) < n; omega⟩
  · intro h
    exact ⟨x.toNat, by rw [List.mem_range]; omega, by show ((x.toNat : Nat) : Int) = x; omega⟩
/-- what holds of all boards -/
def zqAll (P : Int → Int → Int → Bool) : Bool := ([2, 3, 4, 5] : List Int).all fun R => ([2, 3, 4, 5] : List Int).all fun C => (zqRg (R * C)).all fun c => P R C c
theorem zqAll_get {P : Int → Int → Int → Bool} (h : zqAll P = true) {R C c : Int} (hR : 2 ≤ R ∧ R ≤ 5) (hC : 2 ≤ C ∧ C ≤ 5) (hc : 0 ≤ c ∧ c < R * C) : P R C c = true := by
  unfold zqAll at h
  rw [List.all_eq_true] at h
  have h1 := h R (by rcases (show R = 2 ∨ R = 3 ∨ R = 4 ∨ R = 5 by omega) with rfl | rfl | rfl | rfl <;> simp)
  rw [List.all_eq_true] at h1
  have h2 := h1 C (by rcases (show C = 2 ∨ C = 3 ∨ C = 4 ∨ C = 5 by omega) with rfl | rfl | rfl | rfl <;> simp)
  rw [List.all_eq_true] at h2
  exact h2 c (zqRg_mem.mpr hc)
def zqF1 (R C c : Int) : Bool := (zqRg 8).all fun d => decide (zqNb R C c d = -1 ∨ (0 ≤ zqNb R C c d ∧ zqNb R C c d < R * C ∧ zqAdj C c (zqNb R C c d) ∧ zqBey R C c (zqNb R C c d) = zqNb R C (zqNb R C c d) d ∧ (zqNb R C (zqNb R C c d) d = -1 ∨ zqNb R C (zqNb R C c d) d = zqNb R C c d + (zqNb R C c d - c)) ∧ zqNb R C c d ≠ c))
set_option maxHeartbeats 4000000 in
theorem zqF1_ok : zqAll zqF1 = true := by decide +kernel
def zqF2 (R C c : Int) : Bool := (zqRg (R * C)).all fun x => decide (zqAdj C c x → zqAdj C x c ∧ ∃ d ∈ zqRg 8, zqNb R C c d = x)
set_option maxHeartbeats 4000000 in
theorem zqF2_ok : zqAll zqF2 = true := by decide +kernel
def zqF3 (R C c : Int) : Bool := decide (((zqRg 8).map (zqNb R C c)).filter (fun x => decide (x ≠ -1)) = (zqRg (R * C)).filter (fun x => decide (zqAdj C c x)))
set_option maxHeartbeats 4000000 in
theorem zqF3_ok : zqAll zqF3 = true := by decide +kernel
theorem zq_nb {R C c d : Int} (hR : 2 ≤ R ∧ R ≤ 5) (hC : 2 ≤ C ∧ C ≤ 5) (hc : 0 ≤ c ∧ c < R * C) (hd : 0 ≤ d ∧ d < 8) : zqNb R C c d = -1 ∨ (0 ≤ zqNb R C c d ∧ zqNb R C c d < R * C ∧ zqAdj C c (zqNb R C c d) ∧ zqBey R C c (zqNb R C c d) = zqNb R C (zqNb R C c d) d ∧ (zqNb R C (zqNb R C c d) d = -1 ∨ zqNb R C (zqNb R C c d) d = zqNb R C c d + (zqNb R C c d - c)) ∧ zqNb R C c d ≠ c) := by
  have h := zqAll_get zqF1_ok hR hC hc
  unfold zqF1 at h
  rw [List.all_eq_true] at h
  exact of_decide_eq_true (h d (zqRg_mem.mpr hd))
theorem zq_adj {R C c x : Int} (hR : 2 ≤ R ∧ R ≤ 5) (hC : 2 ≤ C ∧ C ≤ 5) (hc : 0 ≤ c ∧ c < R * C) (hx : 0 ≤ x ∧ x < R * C) (ha : zqAdj C c x) : zqAdj C x c ∧ ∃ d, 0 ≤ d ∧ d < 8 ∧ zqNb R C c d = x := by
  have h := zqAll_get zqF2_ok hR hC hc
  unfold zqF2 at h
  rw [List.all_eq_true] at h
  obtain ⟨h1, d, hd, he⟩ := of_decide_eq_true (h x (zqRg_mem.mpr hx)) ha
  exact ⟨h1, d, (zqRg_mem.mp hd).1, (zqRg_mem.mp hd).2, he⟩
theorem zq_nbl {R C c : Int} (hR : 2 ≤ R ∧ R ≤ 5) (hC : 2 ≤ C ∧ C ≤ 5) (hc : 0 ≤ c ∧ c < R * C) : ((zqRg 8).map (zqNb R C c)).filter (fun x => decide (x ≠ -1)) = (zqRg (R * C)).filter (fun x => decide (zqAdj C c x)) := by
  have h := zqAll_get zqF3_ok hR hC hc
  exact of_decide_eq_true h
theorem zq_RC {R C : Int} (hR : 2 ≤ R ∧ R ≤ 5) (hC : 2 ≤ C ∧ C ≤ 5) : 4 ≤ R * C ∧ R * C ≤ 25 := by
  rcases (show C = 2 ∨ C = 3 ∨ C = 4 ∨ C = 5 by omega) with rfl | rfl | rfl | rfl <;> omega
def ZG : Type := Int × Int × Int × (Int → Int) × (Int → Int) × (Int → Int) × Int × Int
def ZG.R (g : ZG) : Int := g.1
def ZG.C (g : ZG) : Int := g.2.1
def ZG.B (g : ZG) : Int := g.2.2.1
def ZG.p (g : ZG) : Int → Int := g.2.2.2.1
def ZG.h (g : ZG) : Int → Int := g.2.2.2.2.1
def ZG.a (g : ZG) : Int → Int := g.2.2.2.2.2.1
def ZG.m (g : ZG) : Int := g.2.2.2.2.2.2.1
def ZG.b (g : ZG) : Int := g.2.2.2.2.2.2.2
def ZG.mk (R C B : Int) (p h a : Int → Int) (m b : Int) : ZG := (R, C, B, p, h, a, m, b)
def ZG.n (g : ZG) : Int := g.R * g.C
def ZG.bI (g : ZG) (c : Int) : Int := if g.a 3 = c then 3 else if g.a 2 = c then 2 else if g.a 1 = c then 1 else if g.a 0 = c then 0 else -1
def ZG.pm (g : ZG) : Int := g.p g.m
abbrev ZG.stp (g : ZG) (c d : Int) : Prop := zqAdj g.C c d ∧ g.h d < 4 ∧ g.h d - g.h c ≤ (if g.b = 0 then 1 else 0)
abbrev ZG.win (g : ZG) (c d : Int) : Prop := (g.h d = 3 ∧ g.h c < 3) ∨ (g.pm = 5 ∧ 2 ≤ g.h c - g.h d)
def ZG.bey (g : ZG) (c d : Int) : Int := zqBey g.R g.C c d
abbrev ZG.ent (g : ZG) (c d : Int) : Prop := g.bI d = -1 ∨ (g.bI d / 2 ≠ g.m ∧ (g.pm = 2 ∨ (g.pm = 3 ∧ g.bey c d ≠ -1 ∧ g.bI (g.bey c d) = -1 ∧ g.h (g.bey c d) < 4)))
/-- one step from c to d, that wins or not -/
abbrev ZG.s1 (g : ZG) (c d : Int) (w : Bool) : Prop := g.stp c d ∧ g.ent c d ∧ decide (g.win c d) = w
/-- two steps, by way of x -/
abbrev ZG.s2 (g : ZG) (c d : Int) (w : Bool) : Prop := g.pm = 1 ∧ ∃ x ∈ zqRg g.n, g.stp c x ∧ g.bI x = -1 ∧ ¬ g.win c x ∧ g.stp x d ∧ g.bI d = -1 ∧ decide (g.win x d) = w
abbrev ZG.come (g : ZG) (c d : Int) (w : Bool) : Prop := c ≠ d ∧ (g.s1 c d w ∨ g.s2 c d w)
/-- e is free to be built on, come from c to d -/
abbrev ZG.fre (g : ZG) (c d e : Int) : Prop := zqAdj g.C d e ∧ g.h e < 4 ∧ ((e = c ∧ ¬ (g.bI d ≠ -1 ∧ g.pm = 2)) ∨ (e ≠ c ∧ g.bI e = -1 ∧ ¬ (g.bI d ≠ -1 ∧ g.pm = 3 ∧ g.bey c d = e)))
def ZG.blk (g : ZG) (k d : Int) : List Int :=
  (if g.come (g.a (2 * g.m + k)) d false then
    ((zqRg g.n).filter fun e => g.fre (g.a (2 * g.m + k)) d e).map (fun e => 10000 * k + 100 * d + e) ++
    (if g.pm = 6 then ((zqRg g.n).filter fun e => g.fre (g.a (2 * g.m + k)) d e ∧ g.h e < 3).map (fun e => 10000 * k + 100 * d + 50 + e) else [])
  else []) ++ (if g.come (g.a (2 * g.m + k)) d true then [10000 * k + 100 * d + 99] else [])
def ZG.trs (g : ZG) : List Int := (zqRg g.B).flatMap fun k => (zqRg g.n).flatMap fun d => g.blk k d
/-- what holds of a position -/
def ZW (g : ZG) : Prop := (2 ≤ g.R ∧ g.R ≤ 5) ∧ (2 ≤ g.C ∧ g.C ≤ 5) ∧ (1 ≤ g.B ∧ g.B ≤ 2) ∧ (∀ i, 0 ≤ i → i ≤ 1 → 0 ≤ g.p i ∧ g.p i ≤ 6) ∧ (∀ c, 0 ≤ c → c < 25 → 0 ≤ g.h c ∧ g.h c ≤ 4) ∧ (∀ i, 0 ≤ i → i < 4 → -1 ≤ g.a i ∧ g.a i < g.n) ∧ (∀ i j, 0 ≤ i → i < 4 → 0 ≤ j → j < 4 → g.a i = g.a j → g.a i ≠ -1 → i = j) ∧ (∀ i, 0 ≤ i → i < 4 → g.a i ≠ -1 → g.h (g.a i) < 4) ∧ (g.m = 0 ∨ g.m = 1) ∧ (g.b = 0 ∨ g.b = 1) ∧ (∀ i, 0 ≤ i → i < 4 → g.B ≤ i % 2 → g.a i = -1)
theorem ZW.R {g : ZG} (w : ZW g) : 2 ≤ g.R ∧ g.R ≤ 5 := w.1
theorem ZW.C {g : ZG} (w : ZW g) : 2 ≤ g.C ∧ g.C ≤ 5 := w.2.1
theorem ZW.B {g : ZG} (w : ZW g) : 1 ≤ g.B ∧ g.B ≤ 2 := w.2.2.1
theorem ZW.p {g : ZG} (w : ZW g) : ∀ i, 0 ≤ i → i ≤ 1 → 0 ≤ g.p i ∧ g.p i ≤ 6 := w.2.2.2.1
theorem ZW.h {g : ZG} (w : ZW g) : ∀ c, 0 ≤ c → c < 25 → 0 ≤ g.h c ∧ g.h c ≤ 4 := w.2.2.2.2.1
theorem ZW.a {g : ZG} (w : ZW g) : ∀ i, 0 ≤ i → i < 4 → -1 ≤ g.a i ∧ g.a i < g.n := w.2.2.2.2.2.1
theorem ZW.inj {g : ZG} (w : ZW g) : ∀ i j, 0 ≤ i → i < 4 → 0 ≤ j → j < 4 → g.a i = g.a j → g.a i ≠ -1 → i = j := w.2.2.2.2.2.2.1
theorem ZW.low {g : ZG} (w : ZW g) : ∀ i, 0 ≤ i → i < 4 → g.a i ≠ -1 → g.h (g.a i) < 4 := w.2.2.2.2.2.2.2.1
theorem ZW.m {g : ZG} (w : ZW g) : g.m = 0 ∨ g.m = 1 := w.2.2.2.2.2.2.2.2.1
theorem ZW.b {g : ZG} (w : ZW g) : g.b = 0 ∨ g.b = 1 := w.2.2.2.2.2.2.2.2.2.1
theorem ZW.out {g : ZG} (w : ZW g) : ∀ i, 0 ≤ i → i < 4 → g.B ≤ i % 2 → g.a i = -1 := w.2.2.2.2.2.2.2.2.2.2
theorem ZW.n {g : ZG} (w : ZW g) : 4 ≤ g.n ∧ g.n ≤ 25 := zq_RC w.R w.C
/-- all are placed -/
def ZP (g : ZG) : Prop := ∀ i, 0 ≤ i → i < 4 → i % 2 < g.B → g.a i ≠ -1
def ZG.hold (g : ZG) (c : Int) : Int := if g.bI c = -1 then -1 else 10 * (g.bI c / 2) + g.bI c % 2
theorem zq_bI (g : ZG) (c : Int) : -1 ≤ g.bI c ∧ g.bI c ≤ 3 := by
  unfold ZG.bI; split
  · omega
  · split
    · omega
    · split
      · omega
      · split <;> omega
theorem zq_bIa {g : ZG} {c : Int} (h : g.bI c ≠ -1) : g.a (g.bI c) = c := by
  unfold ZG.bI at *; split
  · assumption
  · split
    · assumption
    · split
      · assumption
      · split
        · assumption
        · rename_i h1 h2 h3 h4
          rw [if_neg h1, if_neg h2, if_neg h3, if_neg h4] at h
          exact absurd rfl h
theorem zq_bIi {g : ZG} (w : ZW g) {i : Int} (h0 : 0 ≤ i) (h4 : i < 4) (h : g.a i ≠ -1) : g.bI (g.a i) = i := by
  have q : g.bI (g.a i) ≠ -1 := by
    unfold ZG.bI
    rcases (show i = 0 ∨ i = 1 ∨ i = 2 ∨ i = 3 by omega) with rfl | rfl | rfl | rfl
    · split
      · omega
      · split
        · omega
        · split
          · omega
          · rw [if_pos rfl]; omega
    · split
      · omega
      · split
        · omega
        · rw [if_pos rfl]; omega
    · split
      · omega
      · rw [if_pos rfl]; omega
    · rw [if_pos rfl]; omega
  have e := zq_bIa q
  have b := zq_bI g (g.a i)
  exact w.inj _ _ (by omega) (by omega) h0 h4 e (by rw [e]; exact h)
theorem zq_bIl {g : ZG} (w : ZW g) {c : Int} (hc : 0 ≤ c) (h : g.bI c ≠ -1) : g.h c < 4 := by
  have e := zq_bIa h
  have b := zq_bI g c
  have := w.low (g.bI c) (by omega) (by omega) (by rw [e]; omega)
  rw [e] at this; exact this
theorem zq_l0 : (0 : Int32) = zq 0 := Int32.toInt_inj.mp rfl
theorem zq_l1 : (1 : Int32) = zq 1 := Int32.toInt_inj.mp rfl
theorem zq_l2 : (2 : Int32) = zq 2 := Int32.toInt_inj.mp rfl
theorem zq_l3 : (3 : Int32) = zq 3 := Int32.toInt_inj.mp rfl
theorem zq_l4 : (4 : Int32) = zq 4 := Int32.toInt_inj.mp rfl
theorem zq_l5 : (5 : Int32) = zq 5 := Int32.toInt_inj.mp rfl
theorem zq_l6 : (6 : Int32) = zq 6 := Int32.toInt_inj.mp rfl
theorem zq_l8 : (8 : Int32) = zq 8 := Int32.toInt_inj.mp rfl
theorem zq_l10 : (10 : Int32) = zq 10 := Int32.toInt_inj.mp rfl
theorem zq_l25 : (25 : Int32) = zq 25 := Int32.toInt_inj.mp rfl
theorem zq_l29 : (29 : Int32) = zq 29 := Int32.toInt_inj.mp rfl
theorem zq_l30 : (30 : Int32) = zq 30 := Int32.toInt_inj.mp rfl
theorem zq_l32 : (32 : Int32) = zq 32 := Int32.toInt_inj.mp rfl
theorem zq_l50 : (50 : Int32) = zq 50 := Int32.toInt_inj.mp rfl
theorem zq_l63 : (63 : Int32) = zq 63 := Int32.toInt_inj.mp rfl
theorem zq_l99 : (99 : Int32) = zq 99 := Int32.toInt_inj.mp rfl
theorem zq_l100 : (100 : Int32) = zq 100 := Int32.toInt_inj.mp rfl
theorem zq_l125 : (125 : Int32) = zq 125 := Int32.toInt_inj.mp rfl
theorem zq_l200 : (200 : Int32) = zq 200 := Int32.toInt_inj.mp rfl
theorem zq_l338 : (338 : Int32) = zq 338 := Int32.toInt_inj.mp rfl
theorem zq_l505 : (505 : Int32) = zq 505 := Int32.toInt_inj.mp rfl
theorem zq_l6000 : (6000 : Int32) = zq 6000 := Int32.toInt_inj.mp rfl
theorem zq_l10000 : (10000 : Int32) = zq 10000 := Int32.toInt_inj.mp rfl
theorem zq_l20 : (20 : Int32) = zq 20 := Int32.toInt_inj.mp rfl
theorem zq_m1 : (-1 : Int32) = zq (-1) := Int32.toInt_inj.mp rfl
theorem zq_m2 : (-2 : Int32) = zq (-2) := Int32.toInt_inj.mp rfl
theorem zq_ite {P : Prop} [Decidable P] {a b : Int} : (if P then zq a else zq b) = zq (if P then a else b) := by split <;> rfl
/-- a truth as an int -/
noncomputable def zqB (P : Prop) : Int := @ite Int P (Classical.propDecidable P) 1 0
theorem zqB_t {P : Prop} (h : P) : zqB P = 1 := if_pos h
theorem zqB_f {P : Prop} (h : ¬ P) : zqB P = 0 := if_neg h
theorem zqB_0 {P : Prop} : (zqB P = 0) = ¬ P := by
  unfold zqB; split <;> simp [*]
theorem zqB_r {P : Prop} : 0 ≤ zqB P ∧ zqB P ≤ 1 := by unfold zqB; split <;> omega
theorem zqB_e {P : Prop} : (zq (zqB P) = zq 0) = ¬ P := by
  have := zqB_r (P := P)
  rw [zq_eq (by omega), zqB_0]
theorem zq_if0 {β : Type} {P : Prop} (a b : β) : (if zq (zqB P) = zq 0 then a else b) = @ite β P (Classical.propDecidable P) b a := by
  by_cases h : P
  · rw [if_pos h, if_neg (by rw [zqB_e]; exact fun q => q h)]
  · rw [if_neg h, if_pos (by rw [zqB_e]; exact h)]
theorem zq_if1 {β : Type} {P : Prop} (a b : β) : (if ¬ (zq (zqB P) = zq 0) then a else b) = @ite β P (Classical.propDecidable P) a b := by
  by_cases h : P
  · rw [if_pos h, if_pos (by rw [zqB_e]; exact fun q => q h)]
  · rw [if_neg h, if_neg (by rw [zqB_e]; exact fun q => q h)]
theorem zq_cp01 {β : Type} {P : Prop} (k : Option β) : cp (zq (zqB P) = zq 0 ∨ zq (zqB P) = zq 1) k = k := by
  refine zq_cp k ?_
  unfold zqB
  split
  · exact Or.inr rfl
  · exact Or.inl rfl
theorem zqB_if {P : Prop} [Decidable P] : (if P then some (zq 1) else some (zq 0)) = some (zq (zqB P)) := by
  by_cases h : P
  · rw [if_pos h, zqB_t h]
  · rw [if_neg h, zqB_f h]
theorem zqB_ifn {P : Prop} [Decidable P] : (if P then some (zq 0) else some (zq 1)) = some (zq (zqB (¬ P))) := by
  by_cases h : P
  · rw [if_pos h, zqB_f (fun q => q h)]
  · rw [if_neg h, zqB_t h]
theorem zqB_c {P Q : Prop} (h : P ↔ Q) : zqB P = zqB Q := congrArg zqB (propext h)
/-- the class's board tells the position g -/
def ZC (S : SC) (g : ZG) : Prop := (S.1 0 = zq g.n) ∧ (S.1 1 = zq g.B) ∧ (S.1 2 = zq (g.p 0)) ∧ (S.1 3 = zq (g.p 1)) ∧ (S.1 7 = zq g.b) ∧ (∀ c, 0 ≤ c → c < 25 → S.2 1 c.toNat = zq (g.h c)) ∧ (∀ c, 0 ≤ c → c < 25 → S.2 2 c.toNat = zq (g.hold c)) ∧ (∀ i, 0 ≤ i → i < 4 → S.2 3 i.toNat = zq (g.a i)) ∧ (∀ c d, 0 ≤ c → c < g.n → 0 ≤ d → d < 8 → S.2 0 (c * 8 + d).toNat = zq (zqNb g.R g.C c d))
theorem ZC.n {S : SC} {g : ZG} (w : ZC S g) : S.1 0 = zq g.n := w.1
theorem ZC.B {S : SC} {g : ZG} (w : ZC S g) : S.1 1 = zq g.B := w.2.1
theorem ZC.p0 {S : SC} {g : ZG} (w : ZC S g) : S.1 2 = zq (g.p 0) := w.2.2.1
theorem ZC.p1 {S : SC} {g : ZG} (w : ZC S g) : S.1 3 = zq (g.p 1) := w.2.2.2.1
theorem ZC.b {S : SC} {g : ZG} (w : ZC S g) : S.1 7 = zq g.b := w.2.2.2.2.1
theorem ZC.h {S : SC} {g : ZG} (w : ZC S g) : ∀ c, 0 ≤ c → c < 25 → S.2 1 c.toNat = zq (g.h c) := w.2.2.2.2.2.1
theorem ZC.o {S : SC} {g : ZG} (w : ZC S g) : ∀ c, 0 ≤ c → c < 25 → S.2 2 c.toNat = zq (g.hold c) := w.2.2.2.2.2.2.1
theorem ZC.a {S : SC} {g : ZG} (w : ZC S g) : ∀ i, 0 ≤ i → i < 4 → S.2 3 i.toNat = zq (g.a i) := w.2.2.2.2.2.2.2.1
theorem ZC.nb {S : SC} {g : ZG} (w : ZC S g) : ∀ c d, 0 ≤ c → c < g.n → 0 ≤ d → d < 8 → S.2 0 (c * 8 + d).toNat = zq (zqNb g.R g.C c d) := w.2.2.2.2.2.2.2.2
theorem zc_storeysOf {S : SC} {g : ZG} (z : ZC S g) {c : Int} (h0 : 0 ≤ c) (h1 : c < 25) : fX0_storeysOf S (zq c) = some (zq (g.h c)) := by
  unfold fX0_storeysOf
  simp (disch := omega) only [zq_l0, zq_l1, zq_l2, zq_l3, zq_l4, zq_l5, zq_l6, zq_l8, zq_l10, zq_l25, zq_l29, zq_l30, zq_l32, zq_l50, zq_l63, zq_l99, zq_l100, zq_l125, zq_l200, zq_l338, zq_l505, zq_l6000, zq_l10000, zq_l20, zq_bnd, zq_nm, zq_ck, zq_ex, zq_neg, zq_add, zq_sub, zq_mul, zq_div, zq_lt, zq_le, zq_eq, zq_tn, zq_setA_1, zq_setS_2, if_pos, if_neg, zq_if0, zq_if1, ite_true, ite_false, z.h c h0 h1]
theorem zc_storeysOf' {S : SC} : fX0_storeysOf S (zq (-1)) = some (zq 0) := by
  unfold fX0_storeysOf
  simp (disch := omega) only [zq_l0, zq_l1, zq_l2, zq_l3, zq_l4, zq_l5, zq_l6, zq_l8, zq_l10, zq_l25, zq_l29, zq_l30, zq_l32, zq_l50, zq_l63, zq_l99, zq_l100, zq_l125, zq_l200, zq_l338, zq_l505, zq_l6000, zq_l10000, zq_l20, zq_bnd, zq_nm, zq_ck, zq_ex, zq_neg, zq_add, zq_sub, zq_mul, zq_div, zq_lt, zq_le, zq_eq, zq_tn, zq_setA_1, zq_setS_2, if_pos, if_neg, zq_if0, zq_if1, ite_true, ite_false]
theorem zc_holderOf {S : SC} {g : ZG} (z : ZC S g) {c : Int} (h0 : 0 ≤ c) (h1 : c < 25) : fX0_holderOf S (zq c) = some (zq (g.hold c)) := by
  unfold fX0_holderOf
  simp (disch := omega) only [zq_l0, zq_l1, zq_l2, zq_l3, zq_l4, zq_l5, zq_l6, zq_l8, zq_l10, zq_l25, zq_l29, zq_l30, zq_l32, zq_l50, zq_l63, zq_l99, zq_l100, zq_l125, zq_l200, zq_l338, zq_l505, zq_l6000, zq_l10000, zq_l20, zq_bnd, zq_nm, zq_ck, zq_ex, zq_neg, zq_add, zq_sub, zq_mul, zq_div, zq_lt, zq_le, zq_eq, zq_tn, zq_setA_1, zq_setS_2, if_pos, if_neg, zq_if0, zq_if1, ite_true, ite_false, z.o c h0 h1]
theorem zc_holderOf' {S : SC} : fX0_holderOf S (zq (-1)) = some (zq (-1)) := by
  unfold fX0_holderOf
  simp (disch := omega) only [zq_l0, zq_l1, zq_l2, zq_l3, zq_l4, zq_l5, zq_l6, zq_l8, zq_l10, zq_l25, zq_l29, zq_l30, zq_l32, zq_l50, zq_l63, zq_l99, zq_l100, zq_l125, zq_l200, zq_l338, zq_l505, zq_l6000, zq_l10000, zq_l20, zq_bnd, zq_nm, zq_ck, zq_ex, zq_neg, zq_add, zq_sub, zq_mul, zq_div, zq_lt, zq_le, zq_eq, zq_tn, zq_setA_1, zq_setS_2, if_pos, if_neg, zq_if0, zq_if1, ite_true, ite_false]
theorem zq_hold (g : ZG) (c : Int) : -1 ≤ g.hold c ∧ g.hold c < 100 ∧ (g.hold c = -1 ↔ g.bI c = -1) ∧ (g.bI c ≠ -1 → g.hold c = 10 * (g.bI c / 2) + g.bI c % 2) := by
  have := zq_bI g c
  unfold ZG.hold
  split <;> omega
/-- open: nobody stands there, and no dome -/
abbrev ZG.opn (g : ZG) (c : Int) : Prop := g.bI c = -1 ∧ g.h c < 4
theorem zc_isOpen {S : SC} {g : ZG} (z : ZC S g) (w : ZW g) {c : Int} (h0 : 0 ≤ c) (h1 : c < 25) : fX0_isOpen S (zq c) = some (zq (zqB (g.opn c))) := by
  have a1 := zq_hold g c
  have a2 := w.h c h0 h1
  unfold fX0_isOpen
  simp (disch := omega) only [zq_l0, zq_l1, zq_l2, zq_l3, zq_l4, zq_l5, zq_l6, zq_l8, zq_l10, zq_l25, zq_l29, zq_l30, zq_l32, zq_l50, zq_l63, zq_l99, zq_l100, zq_l125, zq_l200, zq_l338, zq_l505, zq_l6000, zq_l10000, zq_l20, zq_bnd, zq_nm, zq_ck, zq_ex, zq_neg, zq_add, zq_sub, zq_mul, zq_div, zq_lt, zq_le, zq_eq, zq_tn, zq_setA_1, zq_setS_2, if_pos, if_neg, zq_if0, zq_if1, ite_true, ite_false, z.o c h0 h1, z.h c h0 h1]
  by_cases h : g.hold c = -1
  · rw [if_pos h]
    by_cases h4 : 4 ≤ g.h c
    · rw [if_pos h4, zqB_f (by unfold ZG.opn; omega)]
    · rw [if_neg h4, zqB_t (by unfold ZG.opn; exact ⟨a1.2.2.1.mp h, by omega⟩)]
  · rw [if_neg h, zqB_f (by unfold ZG.opn; exact fun q => h (a1.2.2.1.mpr q.1))]
theorem zc_isOpen' {S : SC} : fX0_isOpen S (zq (-1)) = some (zq 0) := by
  unfold fX0_isOpen
  simp (disch := omega) only [zq_l0, zq_l1, zq_l2, zq_l3, zq_l4, zq_l5, zq_l6, zq_l8, zq_l10, zq_l25, zq_l29, zq_l30, zq_l32, zq_l50, zq_l63, zq_l99, zq_l100, zq_l125, zq_l200, zq_l338, zq_l505, zq_l6000, zq_l10000, zq_l20, zq_bnd, zq_nm, zq_ck, zq_ex, zq_neg, zq_add, zq_sub, zq_mul, zq_div, zq_lt, zq_le, zq_eq, zq_tn, zq_setA_1, zq_setS_2, if_pos, if_neg, zq_if0, zq_if1, ite_true, ite_false]
theorem zc_powerOf {S : SC} {g : ZG} (z : ZC S g) (w : ZW g) : fX0_powerOf S (zq g.m) = some (zq g.pm) := by
  unfold fX0_powerOf
  rcases w.m with h | h
  · rw [h, if_pos (show zq 0 = 0 from rfl), z.p0]; unfold ZG.pm; rw [h]
  · rw [h, if_neg (by decide), z.p1]; unfold ZG.pm; rw [h]
theorem zc_spotOf {S : SC} {g : ZG} (z : ZC S g) {x k : Int} (h0 : 0 ≤ 2 * x + k) (h1 : 2 * x + k < 4) : fX0_spotOf S (zq x) (zq k) = some (zq (g.a (2 * x + k))) := by
  unfold fX0_spotOf
  simp (disch := omega) only [zq_l0, zq_l1, zq_l2, zq_l3, zq_l4, zq_l5, zq_l6, zq_l8, zq_l10, zq_l25, zq_l29, zq_l30, zq_l32, zq_l50, zq_l63, zq_l99, zq_l100, zq_l125, zq_l200, zq_l338, zq_l505, zq_l6000, zq_l10000, zq_l20, zq_bnd, zq_nm, zq_ck, zq_ex, zq_neg, zq_add, zq_sub, zq_mul, zq_div, zq_lt, zq_le, zq_eq, zq_tn, zq_setA_1, zq_setS_2, if_pos, if_neg, zq_if0, zq_if1, ite_true, ite_false, z.a (2 * x + k) h0 h1]
theorem zc_nbOf {S : SC} {g : ZG} (z : ZC S g) (w : ZW g) {c d : Int} (h0 : 0 ≤ c ∧ c < g.n) (h1 : 0 ≤ d ∧ d < 8) : fX0_neighbourOf S (zq c) (zq d) = some (zq (zqNb g.R g.C c d)) := by
  have hn := w.n
  unfold fX0_neighbourOf
  simp (disch := omega) only [zq_l0, zq_l1, zq_l2, zq_l3, zq_l4, zq_l5, zq_l6, zq_l8, zq_l10, zq_l25, zq_l29, zq_l30, zq_l32, zq_l50, zq_l63, zq_l99, zq_l100, zq_l125, zq_l200, zq_l338, zq_l505, zq_l6000, zq_l10000, zq_l20, zq_bnd, zq_nm, zq_ck, zq_ex, zq_neg, zq_add, zq_sub, zq_mul, zq_div, zq_lt, zq_le, zq_eq, zq_tn, zq_setA_1, zq_setS_2, if_pos, if_neg, zq_if0, zq_if1, ite_true, ite_false, z.nb c d h0.1 h0.2 h1.1 h1.2]
/-! sets of cells as the bits of a long -/
def zqM (z : Int) : Int64 := (1 : Int64) <<< ((zq z).toInt64 &&& 63)
def zqT (M : Int64) (i : Nat) : Bool := M.toBitVec.getLsbD i
theorem zqT_0 (i : Nat) : zqT 0 i = false := by simp [zqT]
theorem zqT_or (A B : Int64) (i : Nat) : zqT (A ||| B) i = (zqT A i || zqT B i) := by simp [zqT]
theorem zqM_all : ∀ j : Fin 57, ∀ i : Fin 57, zqT (zqM j.val) i.val = decide (i.val = j.val) := by decide +kernel
theorem zqT_M {z y : Int} (h : 0 ≤ z ∧ z < 57) (hy : 0 ≤ y ∧ y < 57) : zqT (zqM z) y.toNat = decide (y = z) := by
  have e := zqM_all ⟨z.toNat, by omega⟩ ⟨y.toNat, by omega⟩
  have e1 : ((z.toNat : Nat) : Int) = z := by omega
  rw [e1] at e
  rw [e]
  have : (y.toNat = z.toNat) = (y = z) := propext (by omega)
  simp only [this]
theorem zqM_sh : ∀ j : Fin 57, ((zq j.val).toInt64 &&& 63).toBitVec.smod 64 = BitVec.ofNat 64 j.val := by decide +kernel
theorem zq_cmp0 (x : Int64) : (lg_cmp x 0 = 0) = (x = 0) := by
  unfold lg_cmp
  by_cases h : x = 0
  · simp [h]
  · by_cases h2 : x > 0
    · simp [h2, h]
    · simp [h2, h]
theorem zqT_test {M : Int64} {z : Int} (h : 0 ≤ z ∧ z < 57) : (lg_cmp ((M >>> ((zq z).toInt64 &&& 63)) &&& 1) 0 = 0) = (zqT M z.toNat = false) := by
  rw [zq_cmp0]
  have e := zqM_sh ⟨z.toNat, by omega⟩
  have e1 : ((z.toNat : Nat) : Int) = z := by omega
  rw [e1] at e
  generalize (zq z).toInt64 &&& 63 = K at e ⊢
  rw [← Int64.toBitVec_inj, Int64.toBitVec_and, Int64.toBitVec_shiftRight, e]
  have e2 : (BitVec.ofNat 64 z.toNat).toNat = z.toNat := by simp; omega
  apply propext
  constructor
  · intro q
    have := congrArg (fun v => v.getLsbD 0) q
    simp only [BitVec.getLsbD_and, BitVec.sshiftRight', e2, BitVec.getLsbD_sshiftRight] at this
    simpa [zqT, show z.toNat < 64 by omega] using this
  · intro q
    apply BitVec.eq_of_getLsbD_eq
    intro i hi
    simp only [BitVec.getLsbD_and, BitVec.sshiftRight', e2, BitVec.getLsbD_sshiftRight]
    by_cases hi0 : i = 0
    · subst hi0
      simp [zqT] at q
      simp [show z.toNat < 64 by omega]
      rw [← BitVec.getLsbD_eq_getElem]; exact q
    · simp [hi0]
theorem zqM_lo : ∀ j : Fin 25, (lg_cmp (zqM j.val >>> ((32 : Int32).toInt64 &&& 63)) 0 = 0) ∧ ¬ (lg_cmp (zqM j.val) 0 = 0) := by decide +kernel
theorem zqM_hi : ∀ j : Fin 25, ¬ (lg_cmp (zqM (j.val + 32) >>> ((32 : Int32).toInt64 &&& 63)) 0 = 0) := by decide +kernel
theorem zqM_lo' {d : Int} (h : 0 ≤ d ∧ d < 25) : (lg_cmp (zqM d >>> ((32 : Int32).toInt64 &&& 63)) 0 = 0) ∧ ¬ (lg_cmp (zqM d) 0 = 0) := by
  have e := zqM_lo ⟨d.toNat, by omega⟩
  have e1 : ((d.toNat : Nat) : Int) = d := by omega
  rw [e1] at e; exact e
theorem zqM_hi' {d : Int} (h : 0 ≤ d ∧ d < 25) : ¬ (lg_cmp (zqM (d + 32) >>> ((32 : Int32).toInt64 &&& 63)) 0 = 0) := by
  have e := zqM_hi ⟨d.toNat, by omega⟩
  have e1 : ((d.toNat : Nat) : Int) = d := by omega
  rw [e1] at e; exact e
/-! the class's board: what it says of steps and buildings -/
def ZG.asd (g : ZG) (c d : Int) : Int := if g.bI d = -1 then -1 else if g.pm = 2 then c else d + (d - c)
theorem zq_pm {g : ZG} (w : ZW g) : 0 ≤ g.pm ∧ g.pm ≤ 6 := w.p g.m (by rcases w.m with h | h <;> omega) (by rcases w.m with h | h <;> omega)
theorem zc_asideOf {S : SC} {g : ZG} (z : ZC S g) (w : ZW g) {c d : Int} (h0 : 0 ≤ c ∧ c < 25) (h1 : 0 ≤ d ∧ d < 25) : fX0_asideOf S (zq g.m) (zq c) (zq d) = some (zq (g.asd c d)) := by
  have a1 := zq_hold g d
  have a2 := zq_pm w
  unfold fX0_asideOf ZG.asd
  simp (disch := omega) only [zq_l0, zq_l1, zq_l2, zq_l3, zq_l4, zq_l5, zq_l6, zq_l8, zq_l10, zq_l25, zq_l29, zq_l30, zq_l32, zq_l50, zq_l63, zq_l99, zq_l100, zq_l125, zq_l200, zq_l338, zq_l505, zq_l6000, zq_l10000, zq_l20, zq_bnd, zq_nm, zq_ck, zq_ex, zq_neg, zq_add, zq_sub, zq_mul, zq_div, zq_lt, zq_le, zq_eq, zq_tn, zq_setA_1, zq_setS_2, if_pos, if_neg, zq_if0, zq_if1, ite_true, ite_false, zc_holderOf z h1.1 h1.2, zc_powerOf z w]
  by_cases h : g.bI d = -1
  · rw [if_pos h, if_pos (a1.2.2.1.mpr h)]
  · rw [if_neg h, if_neg (fun q => h (a1.2.2.1.mp q))]
    split <;> rfl
/-- may go from c to d, in the direction e, but for the height of an empty cell -/
theorem zc_canEnter {S : SC} {g : ZG} (z : ZC S g) (w : ZW g) {c d e : Int} (h0 : 0 ≤ c ∧ c < g.n) (h1 : 0 ≤ d ∧ d < g.n) (he : 0 ≤ e ∧ e < 8) (hnb : zqNb g.R g.C c e = d) : fX0_canEnter S (zq g.m) (zq d) (zq e) = some (zq (zqB (g.ent c d ∧ g.h d < 4))) := by
  have a1 := zq_hold g d
  have a2 := zq_pm w
  have a3 := w.n
  have a4 := zq_bI g d
  have a5 := zq_nb w.R w.C h0 he
  have a6 := zq_nb w.R w.C (show 0 ≤ d ∧ d < g.R * g.C from h1) he
  have a7 : g.m = 0 ∨ g.m = 1 := w.m
  rw [hnb] at a5
  have a8 : g.bey c d = zqNb g.R g.C d e := by
    rcases a5 with q | q
    · omega
    · exact q.2.2.2.1
  unfold fX0_canEnter
  simp (disch := omega) only [zq_l0, zq_l1, zq_l2, zq_l3, zq_l4, zq_l5, zq_l6, zq_l8, zq_l10, zq_l25, zq_l29, zq_l30, zq_l32, zq_l50, zq_l63, zq_l99, zq_l100, zq_l125, zq_l200, zq_l338, zq_l505, zq_l6000, zq_l10000, zq_l20, zq_bnd, zq_nm, zq_ck, zq_ex, zq_neg, zq_add, zq_sub, zq_mul, zq_div, zq_lt, zq_le, zq_eq, zq_tn, zq_setA_1, zq_setS_2, if_pos, if_neg, zq_if0, zq_if1, ite_true, ite_false, zc_holderOf z h1.1 (show d < 25 by omega), zc_powerOf z w, zc_isOpen z w h1.1 (show d < 25 by omega), zc_nbOf z w h1 he]
  by_cases h : g.bI d = -1
  · rw [if_pos (a1.2.2.1.mpr h), zq_cp01]
    congr 2
    unfold zqB ZG.opn ZG.ent
    simp [h]
  · rw [if_neg (fun q => h (a1.2.2.1.mp q))]
    have b1 := a1.2.2.2 h
    have b2 := zq_bIl w h1.1 h
    by_cases hm : g.hold d / 10 = g.m
    · rw [if_pos hm, zqB_f]
      unfold ZG.ent
      omega
    · rw [if_neg hm]
      have b3 : g.bI d / 2 ≠ g.m := by omega
      by_cases h2 : g.pm = 2
      · rw [if_pos h2, zqB_t]
        unfold ZG.ent
        exact ⟨Or.inr ⟨b3, Or.inl h2⟩, b2⟩
      · rw [if_neg h2]
        by_cases h3 : g.pm = 3
        · rw [if_pos h3]
          by_cases hn : zqNb g.R g.C d e = -1
          · rw [hn, zc_isOpen', zq_bnd, if_pos rfl, zqB_f]
            unfold ZG.ent
            rw [a8, hn]
            omega
          · have b4 : 0 ≤ zqNb g.R g.C d e ∧ zqNb g.R g.C d e < g.n := by
              rcases a6 with q | q
              · exact absurd q hn
              · exact ⟨q.1, q.2.1⟩
            rw [zc_isOpen z w b4.1 (by omega), zq_bnd, zq_if0]
            have b5 : (g.ent c d ∧ g.h d < 4) ↔ g.opn (zqNb g.R g.C d e) := by
              unfold ZG.ent ZG.opn
              rw [a8]
              constructor
              · rintro ⟨q | ⟨-, q | q⟩, -⟩
                · exact absurd q h
                · exact absurd q h2
                · exact ⟨q.2.2.1, q.2.2.2⟩
              · intro q
                exact ⟨Or.inr ⟨b3, Or.inr ⟨h3, hn, q.1, q.2⟩⟩, b2⟩
            unfold zqB
            simp only [b5]
            split <;> rfl
        · rw [if_neg h3, zqB_f]
          unfold ZG.ent
          omega
theorem zc_isOpenBehind {S : SC} {g : ZG} (z : ZC S g) (w : ZW g) {c x e : Int} (h0 : 0 ≤ c ∧ c < 25) (h1 : -100 ≤ x ∧ x < 100) (he : -1 ≤ e ∧ e < 25) : fX0_isOpenBehind S (zq c) (zq x) (zq e) = some (zq (zqB (e ≠ x ∧ (e = c ∨ (e ≠ -1 ∧ g.opn e))))) := by
  unfold fX0_isOpenBehind
  simp (disch := omega) only [zq_l0, zq_l1, zq_l2, zq_l3, zq_l4, zq_l5, zq_l6, zq_l8, zq_l10, zq_l25, zq_l29, zq_l30, zq_l32, zq_l50, zq_l63, zq_l99, zq_l100, zq_l125, zq_l200, zq_l338, zq_l505, zq_l6000, zq_l10000, zq_l20, zq_bnd, zq_nm, zq_ck, zq_ex, zq_neg, zq_add, zq_sub, zq_mul, zq_div, zq_lt, zq_le, zq_eq, zq_tn, zq_setA_1, zq_setS_2, if_pos, if_neg, zq_if0, zq_if1, ite_true, ite_false]
  by_cases hx : e = x
  · rw [if_pos hx, zqB_f (by omega)]
  · rw [if_neg hx]
    by_cases hc : e = c
    · rw [if_pos hc, zqB_t (by omega)]
    · rw [if_neg hc]
      by_cases hm : e = -1
      · rw [hm, zc_isOpen', zq_bnd, if_pos rfl, zqB_f (by omega)]
      · rw [zc_isOpen z w (by omega) (by omega), zq_bnd, zq_if0]
        unfold zqB
        by_cases ho : g.opn e
        · rw [if_pos ho, if_pos ⟨hx, Or.inr ⟨hm, ho⟩⟩]
        · rw [if_neg ho, if_neg (fun q => by rcases q.2 with q | q; exact hc q; exact ho q.2)]
/-- a cell behind the step, as the class tells it -/
theorem zq_fre {g : ZG} (w : ZW g) {c d e : Int} (h0 : 0 ≤ c ∧ c < g.n) (hc : g.h c < 4) (h1 : 0 ≤ d ∧ d < g.n) (he : 0 ≤ e ∧ e < g.n) (had : zqAdj g.C d e) (hb : g.bI d = -1 ∨ g.pm = 2 ∨ (g.pm = 3 ∧ g.bey c d = d + (d - c) ∧ 0 ≤ g.bey c d ∧ g.bey c d ≠ c)) : (e ≠ g.asd c d ∧ (e = c ∨ (e ≠ -1 ∧ g.opn e))) ↔ g.fre c d e := by
  unfold ZG.asd ZG.fre ZG.opn
  by_cases h : g.bI d = -1
  · rw [if_pos h]
    simp only [h, ne_eq, not_true_eq_false, false_and, not_false_eq_true, and_true]
    constructor
    · rintro ⟨q1, q2 | ⟨q2, q3, q4⟩⟩
      · exact ⟨had, by rw [q2]; exact hc, Or.inl q2⟩
      · by_cases hec : e = c
        · exact ⟨had, q4, Or.inl hec⟩
        · exact ⟨had, q4, Or.inr ⟨hec, q3⟩⟩
    · rintro ⟨q1, q2, q3 | q3⟩
      · exact ⟨by omega, Or.inl q3⟩
      · exact ⟨by omega, Or.inr ⟨by omega, q3.2, q2⟩⟩
  · rw [if_neg h]
    have hb := hb.resolve_left h
    by_cases h2 : g.pm = 2
    · rw [if_pos h2]
      simp only [h, h2, ne_eq, not_false_eq_true, true_and, not_true_eq_false, and_false, false_or]
      constructor
      · rintro ⟨q1, q2 | ⟨q2, q3, q4⟩⟩
        · exact absurd q2 q1
        · exact ⟨had, q4, q1, q3, by omega⟩
      · rintro ⟨q1, q2, q3, q4, -⟩
        exact ⟨q3, Or.inr ⟨by omega, q4, q2⟩⟩
    · rw [if_neg h2]
      obtain ⟨h3, h4, h5, h6⟩ := hb.resolve_left h2
      simp only [h, h2, h3, h4, ne_eq, not_false_eq_true, true_and, and_false, and_true]
      constructor
      · rintro ⟨q1, q2 | ⟨q2, q3, q4⟩⟩
        · exact ⟨had, by rw [q2]; exact hc, Or.inl ⟨q2, by omega⟩⟩
        · by_cases hec : e = c
          · exact ⟨had, q4, Or.inl ⟨hec, by omega⟩⟩
          · exact ⟨had, q4, Or.inr ⟨hec, q3, by omega⟩⟩
      · rintro ⟨q1, q2, q3 | q3⟩
        · exact ⟨by omega, Or.inl q3.1⟩
        · exact ⟨by omega, Or.inr ⟨by omega, q3.2.1, q2⟩⟩
/-- the step's end is such that the class's word of it stands -/
def ZG.ok (g : ZG) (c d : Int) : Prop := g.bI d = -1 ∨ g.pm = 2 ∨ (g.pm = 3 ∧ g.bey c d = d + (d - c) ∧ 0 ≤ g.bey c d ∧ g.bey c d ≠ c)
theorem zq_ok {g : ZG} (w : ZW g) {c d : Int} (h0 : 0 ≤ c ∧ c < g.n) (h1 : 0 ≤ d ∧ d < g.n) (ha : zqAdj g.C c d) (he : g.ent c d) : g.ok c d := by
  obtain ⟨-, e, e0, e8, hnb⟩ := zq_adj w.R w.C h0 h1 ha
  have a5 := zq_nb w.R w.C (show 0 ≤ c ∧ c < g.R * g.C from h0) ⟨e0, e8⟩
  have a6 := zq_nb w.R w.C (show 0 ≤ d ∧ d < g.R * g.C from h1) ⟨e0, e8⟩
  rw [hnb] at a5
  rcases a5 with q | ⟨-, -, -, q1, q2, q3⟩
  · omega
  rcases he with q | ⟨-, q | ⟨p3, p4, -, -⟩⟩
  · exact Or.inl q
  · exact Or.inr (Or.inl q)
  · refine Or.inr (Or.inr ⟨p3, ?_⟩)
    unfold ZG.bey at *
    omega
theorem zc_canBuild {S : SC} {g : ZG} (z : ZC S g) (w : ZW g) {c d : Int} (h0 : 0 ≤ c ∧ c < g.n) (hc : g.h c < 4) (h1 : 0 ≤ d ∧ d < g.n) (hb : g.ok c d) : fX0_canBuild S (zq g.m) (zq c) (zq d) = some (zq (zqB (∃ e ∈ zqRg g.n, g.fre c d e))) := by
  have a3 := w.n
  have ax : -100 ≤ g.asd c d ∧ g.asd c d < 100 := by unfold ZG.asd; split <;> (try split) <;> omega
  have key : ∀ j, 0 ≤ j → j < 8 → ((zqNb g.R g.C d j ≠ g.asd c d ∧ (zqNb g.R g.C d j = c ∨ (zqNb g.R g.C d j ≠ -1 ∧ g.opn (zqNb g.R g.C d j)))) ↔ (zqNb g.R g.C d j ∈ zqRg g.n ∧ g.fre c d (zqNb g.R g.C d j))) := by
    intro j j0 j8
    rcases zq_nb w.R w.C (show 0 ≤ d ∧ d < g.R * g.C from h1) ⟨j0, j8⟩ with q | q
    · rw [q, zqRg_mem]
      constructor
      · rintro ⟨-, q | q⟩
        · omega
        · exact absurd rfl q.1
      · rintro ⟨q, -⟩; omega
    · have he : 0 ≤ zqNb g.R g.C d j ∧ zqNb g.R g.C d j < g.n := ⟨q.1, q.2.1⟩
      rw [zq_fre w h0 hc h1 he q.2.2.1 hb, zqRg_mem]
      exact ⟨fun h => ⟨he, h⟩, fun h => h.2⟩
  unfold fX0_canBuild
  rw [zc_asideOf z w ⟨h0.1, by omega⟩ ⟨h1.1, by omega⟩, zq_bnd]
  obtain ⟨r, e, q⟩ := zq_forE (b := fX0_canBuild_b12 S (zq c) (zq d) (zq (g.asd c d))) (s := 0) (fun i s => s = zq i ∧ ∀ j : Int, 0 ≤ j → j < i → ¬ (zqNb g.R g.C d j ∈ zqRg g.n ∧ g.fre c d (zqNb g.R g.C d j))) (fun r => r = zq (zqB (∃ e ∈ zqRg g.n, g.fre c d e))) 8 (by omega)
    (by
      rintro i hi s ⟨rfl, hn⟩
      have nb := zq_nb w.R w.C (show 0 ≤ d ∧ d < g.R * g.C from h1) (d := (i : Int)) ⟨by omega, by omega⟩
      have e : fX0_canBuild_b12 S (zq c) (zq d) (zq (g.asd c d)) (zq i) = if (zqNb g.R g.C d i ∈ zqRg g.n ∧ g.fre c d (zqNb g.R g.C d i)) then some (.inr (zq 1)) else some (.inl (zq (i + 1))) := by
        unfold fX0_canBuild_b12
        have hnbr : -1 ≤ zqNb g.R g.C d i ∧ zqNb g.R g.C d i < 25 := by
          have : g.R * g.C = g.n := rfl
          omega
        simp (disch := omega) only [zq_l0, zq_l1, zq_l2, zq_l3, zq_l4, zq_l5, zq_l6, zq_l8, zq_l10, zq_l25, zq_l29, zq_l30, zq_l32, zq_l50, zq_l63, zq_l99, zq_l100, zq_l125, zq_l200, zq_l338, zq_l505, zq_l6000, zq_l10000, zq_l20, zq_bnd, zq_nm, zq_ck, zq_ex, zq_neg, zq_add, zq_sub, zq_mul, zq_div, zq_lt, zq_le, zq_eq, zq_tn, zq_setA_1, zq_setS_2, if_pos, if_neg, zq_if0, zq_if1, ite_true, ite_false, zc_nbOf z w h1 (show 0 ≤ (i : Int) ∧ (i : Int) < 8 by omega), zc_isOpenBehind z w (show 0 ≤ c ∧ c < 25 by omega) ax hnbr, key i (by omega) (by omega)]
        by_cases hg : (zqNb g.R g.C d i ∈ zqRg g.n ∧ g.fre c d (zqNb g.R g.C d i))
        · rw [if_pos hg, if_pos hg]
        · rw [if_neg hg, if_neg hg]
      rw [e]
      by_cases hg : (zqNb g.R g.C d i ∈ zqRg g.n ∧ g.fre c d (zqNb g.R g.C d i))
      · rw [if_pos hg]
        refine Or.inr ⟨_, rfl, ?_⟩
        rw [zqB_t ⟨_, hg.1, hg.2⟩]
      · rw [if_neg hg]
        refine Or.inl ⟨_, rfl, by simp, ?_⟩
        intro j j0 j1
        by_cases hj : j = i
        · rw [hj]; exact hg
        · exact hn j j0 (by omega))
    (by
      rintro s ⟨rfl, hn⟩
      refine ⟨zq 0, ?_, ?_⟩
      · unfold fX0_canBuild_b12
        simp (disch := omega) only [zq_l0, zq_l1, zq_l2, zq_l3, zq_l4, zq_l5, zq_l6, zq_l8, zq_l10, zq_l25, zq_l29, zq_l30, zq_l32, zq_l50, zq_l63, zq_l99, zq_l100, zq_l125, zq_l200, zq_l338, zq_l505, zq_l6000, zq_l10000, zq_l20, zq_bnd, zq_nm, zq_ck, zq_ex, zq_neg, zq_add, zq_sub, zq_mul, zq_div, zq_lt, zq_le, zq_eq, zq_tn, zq_setA_1, zq_setS_2, if_pos, if_neg, zq_if0, zq_if1, ite_true, ite_false]
      · rw [zqB_f]
        rintro ⟨e, he, hf⟩
        obtain ⟨-, j, j0, j8, hj⟩ := zq_adj w.R w.C h1 (zqRg_mem.mp he) hf.1
        exact hn j j0 (by omega) (by rw [hj]; exact ⟨he, hf⟩))
    ⟨rfl, by intro j j0 j1; omega⟩
  rw [e, q]
/-- the class's word of one step -/
def ZG.bit (g : ZG) (c d : Int) : Int64 := if d = -1 then 0 else if g.stp c d ∧ g.ent c d then (if g.win c d then zqM (d + 32) else zqM d) else 0
theorem zc_stepOf {S : SC} {g : ZG} (z : ZC S g) (w : ZW g) {c e : Int} (h0 : 0 ≤ c ∧ c < g.n) (he : 0 ≤ e ∧ e < 8) : fX0_stepOf S (zq g.m) (zq c) (zq e) = some (g.bit c (zqNb g.R g.C c e)) := by
  have a3 := w.n
  have a2 := zq_pm w
  have nb := zq_nb w.R w.C (show 0 ≤ c ∧ c < g.R * g.C from h0) he
  have hc := w.h c h0.1 (by omega)
  unfold fX0_stepOf
  rw [zc_nbOf z w h0 he, zq_bnd]
  rcases nb with q | q
  · rw [q, zc_storeysOf']
    simp (disch := omega) only [zq_l0, zq_l1, zq_l2, zq_l3, zq_l4, zq_l5, zq_l6, zq_l8, zq_l10, zq_l25, zq_l29, zq_l30, zq_l32, zq_l50, zq_l63, zq_l99, zq_l100, zq_l125, zq_l200, zq_l338, zq_l505, zq_l6000, zq_l10000, zq_l20, zq_bnd, zq_nm, zq_ck, zq_ex, zq_neg, zq_add, zq_sub, zq_mul, zq_div, zq_lt, zq_le, zq_eq, zq_tn, zq_setA_1, zq_setS_2, if_pos, if_neg, zq_if0, zq_if1, ite_true, ite_false, zc_storeysOf z h0.1 (show c < 25 by omega), z.b]
    unfold fX0_stepOf_j34 ZG.bit
    simp (disch := omega) only [zq_l0, zq_l1, zq_l2, zq_l3, zq_l4, zq_l5, zq_l6, zq_l8, zq_l10, zq_l25, zq_l29, zq_l30, zq_l32, zq_l50, zq_l63, zq_l99, zq_l100, zq_l125, zq_l200, zq_l338, zq_l505, zq_l6000, zq_l10000, zq_l20, zq_bnd, zq_nm, zq_ck, zq_ex, zq_neg, zq_add, zq_sub, zq_mul, zq_div, zq_lt, zq_le, zq_eq, zq_tn, zq_setA_1, zq_setS_2, if_pos, if_neg, zq_if0, zq_if1, ite_true, ite_false, zq_m1, ite_self]
  · have h1 : 0 ≤ zqNb g.R g.C c e ∧ zqNb g.R g.C c e < g.n := ⟨q.1, q.2.1⟩
    have ce := zc_canEnter z w h0 h1 he rfl
    have had := q.2.2.1
    generalize zqNb g.R g.C c e = d at *
    have hd := w.h d h1.1 (by omega)
    have hb := w.b
    have key : ∀ k : Int, (k = if g.b = 0 then 1 else 0) → fX0_stepOf_j34 S (zq g.m) (zq e) (zq d) (zq (g.h d - g.h c)) (zq k) = some (g.bit c d) := by
      intro k hk
      have hk2 : 0 ≤ k ∧ k ≤ 1 := by rw [hk]; split <;> omega
      unfold fX0_stepOf_j34 fX0_stepOf_j77 ZG.bit
      rw [if_neg (show ¬ d = -1 by omega)]
      simp (disch := omega) only [zq_l0, zq_l1, zq_l2, zq_l3, zq_l4, zq_l5, zq_l6, zq_l8, zq_l10, zq_l25, zq_l29, zq_l30, zq_l32, zq_l50, zq_l63, zq_l99, zq_l100, zq_l125, zq_l200, zq_l338, zq_l505, zq_l6000, zq_l10000, zq_l20, zq_bnd, zq_nm, zq_ck, zq_ex, zq_neg, zq_add, zq_sub, zq_mul, zq_div, zq_lt, zq_le, zq_eq, zq_tn, zq_setA_1, zq_setS_2, if_pos, if_neg, zq_if0, zq_if1, ite_true, ite_false, zq_m1, zq_m2, ce, zc_powerOf z w, zc_storeysOf z h1.1 (show d < 25 by omega)]
      unfold fX0_stepOf_j97 fX0_stepOf_j93 fX0_stepOf_j98
      simp (disch := omega) only [zq_l0, zq_l1, zq_l2, zq_l3, zq_l4, zq_l5, zq_l6, zq_l8, zq_l10, zq_l25, zq_l29, zq_l30, zq_l32, zq_l50, zq_l63, zq_l99, zq_l100, zq_l125, zq_l200, zq_l338, zq_l505, zq_l6000, zq_l10000, zq_l20, zq_bnd, zq_nm, zq_ck, zq_ex, zq_neg, zq_add, zq_sub, zq_mul, zq_div, zq_lt, zq_le, zq_eq, zq_tn, zq_setA_1, zq_setS_2, if_pos, if_neg, zq_if0, zq_if1, ite_true, ite_false]
      have es : g.stp c d ↔ (g.h d < 4 ∧ g.h d - g.h c ≤ k) := by
        unfold ZG.stp; rw [hk]
        exact ⟨fun h => h.2, fun h => ⟨had, h⟩⟩
      by_cases h1 : k < g.h d - g.h c
      · have hn : ¬ (g.stp c d ∧ g.ent c d) := fun h => by have := (es.mp h.1).2; omega
        rw [if_pos h1, if_neg hn]
      · rw [if_neg h1]
        by_cases h2 : g.ent c d ∧ g.h d < 4
        · have hp : g.stp c d ∧ g.ent c d := ⟨es.mpr ⟨h2.2, by omega⟩, h2.1⟩
          rw [if_pos h2, if_pos hp]
          by_cases h3 : g.h d - g.h c ≤ 0
          · rw [if_pos h3]
            by_cases h4 : -2 < g.h d - g.h c
            · have hw : ¬ g.win c d := by unfold ZG.win; omega
              rw [if_pos h4, if_neg hw]; rfl
            · rw [if_neg h4]
              by_cases h5 : g.pm = 5
              · have hw : g.win c d := by unfold ZG.win; omega
                rw [if_pos h5, if_pos hw]; rfl
              · have hw : ¬ g.win c d := by unfold ZG.win; omega
                rw [if_neg h5, if_neg hw]; rfl
          · rw [if_neg h3]
            by_cases h6 : g.h d = 3
            · have hw : g.win c d := by unfold ZG.win; omega
              rw [if_pos h6, if_pos hw]; rfl
            · have hw : ¬ g.win c d := by unfold ZG.win; omega
              rw [if_neg h6, if_neg hw]; rfl
        · have hn : ¬ (g.stp c d ∧ g.ent c d) := fun h => h2 ⟨h.2, h.1.2.1⟩
          rw [if_neg h2, if_neg hn]
    simp (disch := omega) only [zq_l0, zq_l1, zq_l2, zq_l3, zq_l4, zq_l5, zq_l6, zq_l8, zq_l10, zq_l25, zq_l29, zq_l30, zq_l32, zq_l50, zq_l63, zq_l99, zq_l100, zq_l125, zq_l200, zq_l338, zq_l505, zq_l6000, zq_l10000, zq_l20, zq_bnd, zq_nm, zq_ck, zq_ex, zq_neg, zq_add, zq_sub, zq_mul, zq_div, zq_lt, zq_le, zq_eq, zq_tn, zq_setA_1, zq_setS_2, if_pos, if_neg, zq_if0, zq_if1, ite_true, ite_false, zc_storeysOf z h0.1 (show c < 25 by omega), zc_storeysOf z h1.1 (show d < 25 by omega), z.b]
    by_cases hb0 : g.b = 0
    · rw [if_pos hb0, key 1 (by rw [if_pos hb0])]
    · rw [if_neg hb0, key 0 (by rw [if_neg hb0])]
