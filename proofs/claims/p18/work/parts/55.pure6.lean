set_option maxRecDepth 100000
/-! what a position is worth -/
def zqMx (l : List Int) (f : Int → Int) : Int := l.foldl (fun m x => if m < f x then f x else m) (-1)
theorem zqMx_nil (f : Int → Int) : zqMx [] f = -1 := rfl
theorem zqMx_snoc (l : List Int) (x : Int) (f : Int → Int) : zqMx (l ++ [x]) f = if zqMx l f < f x then f x else zqMx l f := by
  unfold zqMx; rw [List.foldl_append]; rfl
theorem zqMx_take {l : List Int} {f : Int → Int} {i : Nat} (h : i < l.length) : zqMx (l.take (i + 1)) f = if zqMx (l.take i) f < f l[i] then f l[i] else zqMx (l.take i) f := by
  rw [← List.take_append_getElem h, zqMx_snoc]
theorem zqMx_step (f : Int → Int) : ∀ (l : List Int) (m : Int), m ≤ l.foldl (fun m x => if m < f x then f x else m) m ∧ (∀ x ∈ l, f x ≤ l.foldl (fun m x => if m < f x then f x else m) m) ∧ (l.foldl (fun m x => if m < f x then f x else m) m = m ∨ ∃ x ∈ l, f x = l.foldl (fun m x => if m < f x then f x else m) m)
  | [], m => ⟨Int.le_refl _, fun x h => absurd h List.not_mem_nil, Or.inl rfl⟩
  | a :: l, m => by
    obtain ⟨h1, h2, h3⟩ := zqMx_step f l (if m < f a then f a else m)
    rw [List.foldl_cons]
    generalize l.foldl (fun m x => if m < f x then f x else m) (if m < f a then f a else m) = r at *
    refine ⟨?_, ?_, ?_⟩
    · revert h1; split <;> intro h1 <;> omega
    · intro x hx
      rcases List.mem_cons.mp hx with e | hx
      · rw [e]; revert h1; split <;> intro h1 <;> omega
      · exact h2 x hx
    · rcases h3 with h3 | ⟨x, hx, h3⟩
      · by_cases hm : m < f a
        · rw [if_pos hm] at h3; exact Or.inr ⟨a, List.mem_cons_self, h3.symm⟩
        · rw [if_neg hm] at h3; exact Or.inl h3
      · exact Or.inr ⟨x, List.mem_cons_of_mem _ hx, h3⟩
theorem zqMx_ge (l : List Int) (f : Int → Int) : -1 ≤ zqMx l f := (zqMx_step f l (-1)).1
theorem zqMx_le {l : List Int} {f : Int → Int} {x : Int} (h : x ∈ l) : f x ≤ zqMx l f := (zqMx_step f l (-1)).2.1 x h
theorem zqMx_or (l : List Int) (f : Int → Int) : zqMx l f = -1 ∨ ∃ x ∈ l, f x = zqMx l f := (zqMx_step f l (-1)).2.2
theorem zqMx_ub {l : List Int} {f : Int → Int} {u : Int} (h : ∀ x ∈ l, f x ≤ u) (hu : -1 ≤ u) : zqMx l f ≤ u := by
  rcases zqMx_or l f with e | ⟨x, hx, e⟩
  · omega
  · have := h x hx; omega
theorem zqMx_stop {l : List Int} {f : Int → Int} {u : Int} {i : Nat} (h : ∀ x ∈ l, f x ≤ u) (hu : -1 ≤ u) (hs : u ≤ zqMx (l.take i) f) : zqMx (l.take i) f = zqMx l f := by
  have h1 := zqMx_ub h hu
  rcases zqMx_or (l.take i) f with e | ⟨x, hx, e⟩
  · have := zqMx_ge l f; omega
  · have := zqMx_le (f := f) (List.mem_of_mem_take hx); omega
def ZG.V : Nat → ZG → Int
  | 0 => fun g => if g.trs = [] then -1 else 0
  | k + 1 => fun g => zqMx g.trs (fun n => if n % 100 = 99 then 1 else - ZG.V k (g.act n))
/-- the worth behind a turn, k turns to go behind it -/
def ZG.val (k : Nat) (g : ZG) (n : Int) : Int := if n % 100 = 99 then 1 else - ZG.V k (g.act n)
theorem zq_V1 (k : Nat) (g : ZG) : ZG.V (k + 1) g = zqMx g.trs (ZG.val k g) := rfl
theorem zq_V : ∀ (k : Nat) (g : ZG), -1 ≤ ZG.V k g ∧ ZG.V k g ≤ 1 ∧ (g.trs = [] → ZG.V k g = -1)
  | 0, g => by
    show -1 ≤ (if g.trs = [] then (-1 : Int) else 0) ∧ (if g.trs = [] then (-1 : Int) else 0) ≤ 1 ∧ (g.trs = [] → (if g.trs = [] then (-1 : Int) else 0) = -1)
    refine ⟨by split <;> omega, by split <;> omega, fun h => by rw [if_pos h]⟩
  | k + 1, g => by
    rw [zq_V1]
    refine ⟨zqMx_ge _ _, zqMx_ub (fun x hx => ?_) (by omega), fun h => by rw [h]; rfl⟩
    unfold ZG.val
    have := zq_V k (g.act x)
    split <;> omega
theorem zq_val (k : Nat) (g : ZG) (n : Int) : -1 ≤ ZG.val k g n ∧ ZG.val k g n ≤ 1 := by
  unfold ZG.val
  have := zq_V k (g.act n)
  split <;> omega
theorem zq_val1 (k : Nat) (g : ZG) (n : Int) (h : n % 100 = 99 ∨ (g.act n).trs = []) : ZG.val k g n = 1 := by
  unfold ZG.val
  by_cases h9 : n % 100 = 99
  · rw [if_pos h9]
  · rw [if_neg h9, (zq_V k (g.act n)).2.2 (h.resolve_left h9)]; rfl
theorem zq_val0 (g : ZG) (n : Int) : ZG.val 0 g n = if n % 100 = 99 ∨ (g.act n).trs = [] then 1 else 0 := by
  by_cases h : n % 100 = 99 ∨ (g.act n).trs = []
  · rw [if_pos h, zq_val1 0 g n h]
  · rw [if_neg h]
    unfold ZG.val
    rw [if_neg (fun q => h (Or.inl q))]
    show - (if (g.act n).trs = [] then (-1 : Int) else 0) = 0
    rw [if_neg (fun q => h (Or.inr q))]; rfl
theorem zq_V1nn {g : ZG} (h : g.trs ≠ []) : 0 ≤ ZG.V 1 g := by
  rw [zq_V1]
  obtain ⟨x, hx⟩ := List.exists_mem_of_ne_nil _ h
  have := zqMx_le (f := ZG.val 0 g) hx
  rw [zq_val0] at this
  revert this
  split <;> intro this <;> omega
/-- what the class's look answers -/
def zqLk (k : Nat) (g : ZG) : Int := if k = 0 then 0 else ZG.V k g
theorem zq_Lk {k : Nat} {g : ZG} (h : g.trs ≠ []) : zqLk k g = ZG.V k g := by
  unfold zqLk
  by_cases hk : k = 0
  · rw [if_pos hk, hk]
    show 0 = if g.trs = [] then (-1 : Int) else 0
    rw [if_neg h]
  · rw [if_neg hk]
/-! the class looks ahead -/
def zcC (S : SC) (g : ZG) (T : Int) : Prop := ZC S g ∧ ZW g ∧ ZP g ∧ S.1 5 = zq T ∧ S.1 6 = zq (-1) ∧ (0 ≤ T ∧ T ≤ g.hs ∧ T % 2 = g.m) ∧ g.trs ≠ []
def zlE (k : Nat) (T : Int) (S S' : SC) : Prop := S'.1 4 = S.1 4 ∧ (∀ t : Nat, (t = 0 ∨ k < t) → S'.1 (8 + t) = S.1 (8 + t) ∧ S'.2 (5 + t) = S.2 (5 + t)) ∧ ∀ x : Int, 0 ≤ x → x < 5 * T → S'.2 4 x.toNat = S.2 4 x.toNat
theorem zlE.rf {k : Nat} {T : Int} {S : SC} : zlE k T S S := ⟨rfl, fun _ _ => ⟨rfl, rfl⟩, fun _ _ _ => rfl⟩
theorem zlE.tr {k : Nat} {T : Int} {S S' S'' : SC} (a : zlE k T S S') (b : zlE k T S' S'') : zlE k T S S'' :=
  ⟨b.1.trans a.1, fun t h => ⟨(b.2.1 t h).1.trans (a.2.1 t h).1, (b.2.1 t h).2.trans (a.2.1 t h).2⟩, fun x h0 h => (b.2.2 x h0 h).trans (a.2.2 x h0 h)⟩
theorem zlE.up {k j : Nat} {T : Int} {S S' : SC} (a : zlE k T S S') (h : k ≤ j) : zlE j T S S' := ⟨a.1, fun t ht => a.2.1 t (by omega), a.2.2⟩
theorem zlE.l {k t : Nat} {T : Int} {S S' : SC} {l : List Int} (a : zlE k T S S') (h : t = 0 ∨ k < t) (L : Lst S t l) : Lst S' t l := by
  obtain ⟨h1, h2⟩ := a.2.1 t h
  exact ⟨by rw [h1]; exact L.1, by rw [h2]; exact L.2⟩
theorem zqE.e {t : Nat} {T : Int} {S S' : SC} (a : zqE t S S') (h : 1 ≤ t) : zlE t T S S' := ⟨a.1 4 (by omega), fun u hu => ⟨a.1 (8 + u) (by omega), a.2 (5 + u) (by omega)⟩, fun x _ _ => by rw [a.2 4 (by omega)]⟩
theorem zqE.cc {t : Nat} {T : Int} {S S' : SC} {g : ZG} (a : zqE t S S') (C : zcC S g T) : zcC S' g T := by
  obtain ⟨z, w, hp, hT, hv, h, hne⟩ := C
  exact ⟨a.c z, w, hp, by rw [a.1 5 (by omega)]; exact hT, by rw [a.1 6 (by omega)]; exact hv, h, hne⟩
theorem zc_worthOf {lk : SC → Int32 → Option (Int32 × SC)} {k : Nat} (hk : k < 10) (hlk : ∀ (S : SC) (g : ZG) (T : Int), zcC S g T → ∃ S', lk S (zq k) = some (zq (zqLk k g), S') ∧ zcC S' g T ∧ zlE k T S S') {S : SC} {g : ZG} {T : Int} (C : zcC S g T) {n : Int} (hn : n ∈ g.trs) : ∃ S', fX1_worthOf lk S (zq n) (zq (k + 1)) = some (zq (ZG.val k g n), S') ∧ zcC S' g T ∧ zlE k T S S' := by
  obtain ⟨z, w, hp, hT, hv, ⟨T0, T1, T2⟩, hne⟩ := C
  have hs := zq_hs w
  have t := zt_of w hp hn
  have w' := zw_act w t
  have hp' := zp_act w hp t
  obtain ⟨S9, e9, z9, i9, k9, r9, p9⟩ := zc_perform z w hp t hT ⟨T0, by omega⟩ T2
  have R9 : ∀ S5 : SC, (∀ x : Int, 0 ≤ x → x < 5 * (T + 1) → S5.2 4 x.toNat = S9.2 4 x.toNat) → ZR S5 g n T := by
    intro S5 h
    refine ⟨?_, ?_, ?_, ?_, ?_⟩
    · rw [h _ (by omega) (by omega), p9 _ (by omega), if_pos rfl]
    · rw [h _ (by omega) (by omega), p9 _ (by omega), if_neg (by omega), if_pos rfl]
    · rw [h _ (by omega) (by omega), p9 _ (by omega), if_neg (by omega), if_neg (by omega), if_pos rfl]
    · rw [h _ (by omega) (by omega), p9 _ (by omega), if_neg (by omega), if_neg (by omega), if_neg (by omega), if_pos rfl]
    · rw [h _ (by omega) (by omega), p9 _ (by omega), if_neg (by omega), if_neg (by omega), if_neg (by omega), if_neg (by omega), if_pos rfl]
  -- from a board behind the turn back to the one ahead of it
  have back : ∀ (S5 : SC) (v : Int), ZC S5 (g.act n) → S5.1 5 = zq (T + 1) → zlE k (T + 1) S9 S5 → ∃ S', fX1_worthOf_j26 lk (zq v) S5 = some (zq v, S') ∧ zcC S' g T ∧ zlE k T S S' := by
    intro S5 v z5 i5 E5
    obtain ⟨S', e', z', a5, a6, k', r'⟩ := zc_undo w t z5 i5 ⟨T0, by omega⟩ (R9 S5 E5.2.2)
    refine ⟨S', ?_, ⟨z', w, hp, a5, a6, ⟨T0, T1, T2⟩, hne⟩, ?_, ?_, ?_⟩
    · unfold fX1_worthOf_j26
      rw [e', zq_bnd]
    · rw [k' 4 (by omega) (by omega) (by omega), E5.1, k9 4 (by omega) (by omega)]
    · intro u hu
      rw [k' (8 + u) (by omega) (by omega) (by omega), r' (5 + u) (by omega), (E5.2.1 u hu).1, (E5.2.1 u hu).2, k9 (8 + u) (by omega) (by omega), r9 (5 + u) (by omega)]
      exact ⟨rfl, rfl⟩
    · intro x x0 x1
      rw [r' 4 (by omega), E5.2.2 x x0 (by omega), p9 x x0, if_neg (by omega), if_neg (by omega), if_neg (by omega), if_neg (by omega), if_neg (by omega)]
  have hm : 0 ≤ g.m ∧ g.m ≤ 1 := by rcases w.m with h | h <;> omega
  unfold fX1_worthOf
  rw [e9, zq_bnd]
  by_cases h : n % 100 = 99 ∨ (g.act n).trs = []
  · rw [if_pos h, zq_setS_same]
    have n1 : ¬ zq g.m = -1 := by rw [zq_m1, zq_eq (by omega)]; omega
    rw [if_neg n1, zq_l1, zq_val1 k g n h]
    exact back _ 1 (z9.v _) (by rw [zq_setS_other _ _ _ _ (by omega)]; exact i9) ⟨by rw [zq_setS_other _ _ _ _ (by omega)], fun u hu => ⟨by rw [zq_setS_other _ _ _ _ (by omega)], rfl⟩, fun _ _ _ => rfl⟩
  · rw [if_neg h, k9 6 (by omega) (by omega), hv, if_pos (show zq (-1) = -1 from rfl), zq_l1, zq_sub, show (k : Int) + 1 - 1 = k by omega]
    have h9 : n % 100 ≠ 99 := fun q => h (Or.inl q)
    have ht : (g.act n).trs ≠ [] := fun q => h (Or.inr q)
    have hs' := zt_hs w t h9
    have em : (g.act n).m = 1 - g.m := rfl
    obtain ⟨S5, e5, C5, E5⟩ := hlk S9 (g.act n) (T + 1) ⟨z9, w', hp', i9, by rw [k9 6 (by omega) (by omega)]; exact hv, ⟨by omega, by omega, by rw [em]; omega⟩, ht⟩
    rw [e5, zq_bnd]
    dsimp only
    rw [zq_neg]
    have ev : ZG.val k g n = - zqLk k (g.act n) := by
      rw [zq_Lk ht]; unfold ZG.val; rw [if_neg h9]
    rw [ev]
    exact back S5 _ C5.1 C5.2.2.2.1 E5
/-- the loop behind the first one -/
theorem zc_look100 {lk : SC → Int32 → Option (Int32 × SC)} {k : Nat} (hk : k < 3) (hlk : ∀ (S : SC) (g : ZG) (T : Int), zcC S g T → ∃ S', lk S (zq k) = some (zq (zqLk k g), S') ∧ zcC S' g T ∧ zlE k T S S') {S : SC} {g : ZG} {T : Int} (C : zcC S g T) (Ls : Lst S (k + 1) g.trs) {u : Int} (hu : 0 ≤ u ∧ u ≤ 1) (hub : ∀ x ∈ g.trs, ZG.val k g x ≤ u) :
    ∃ S', fX1_look_j92 lk (zq (k + 1)) (k + 1) (zq u) S = some (zq (ZG.V (k + 1) g), S') ∧ zcC S' g T ∧ zlE (k + 1) T S S' := by
  have cap := zq_cap C.2.1 C.2.2.1
  unfold fX1_look_j92
  obtain ⟨r, e, S', q1, q2, q3⟩ := zq_forE (b := fX1_look_b100 lk (zq (k + 1)) (k + 1) (zq u)) (s := (-1, 0, S)) (fun i s => s.1 = zq (zqMx (g.trs.take i) (ZG.val k g)) ∧ s.2.1 = zq i ∧ zcC s.2.2 g T ∧ zlE k T S s.2.2) (fun r => ∃ S', r = (zq (ZG.V (k + 1) g), S') ∧ zcC S' g T ∧ zlE (k + 1) T S S') g.trs.length (by omega)
    (by
      rintro i hi ⟨s1, s2, s⟩ ⟨e1, e2, hC, hE⟩
      have e1 : s1 = zq (zqMx (g.trs.take i) (ZG.val k g)) := e1
      have e2 : s2 = zq i := e2
      subst e1 e2
      have hC : zcC s g T := hC
      have hE : zlE k T S s := hE
      have Li := hE.l (Or.inr (by omega)) Ls
      have r1 := zqMx_ge (g.trs.take i) (ZG.val k g)
      have r2 := zqMx_ub (l := g.trs.take i) (f := ZG.val k g) (u := 1) (fun x _ => (zq_val k g x).2) (by omega)
      have r3 := zq_val k g (g.trs[i])
      unfold fX1_look_b100
      dsimp only
      rw [Li.1]
      have q1 : (zq (g.trs.length : Nat) ≤ zq (i : Nat)) = (((g.trs.length : Nat) : Int) ≤ ((i : Nat) : Int)) := zq_le (by omega)
      have q2 : (zq u ≤ zq (zqMx (g.trs.take i) (ZG.val k g))) = (u ≤ zqMx (g.trs.take i) (ZG.val k g)) := zq_le (by omega)
      simp only [q1, q2]
      rw [if_neg (by omega)]
      by_cases hs : u ≤ zqMx (g.trs.take i) (ZG.val k g)
      · rw [if_pos hs]
        exact Or.inr ⟨_, rfl, s, by rw [zqMx_stop hub (by omega) hs]; rfl, hC, hE.up (by omega)⟩
      · rw [if_neg hs, zl_at Li cap hi, zq_bnd]
        obtain ⟨s', e', C', E'⟩ := zc_worthOf (by omega) hlk hC (n := g.trs[i]) (List.getElem_mem hi)
        rw [e', zq_bnd]
        refine Or.inl ⟨(zq (zqMx (g.trs.take (i + 1)) (ZG.val k g)), zq ((i : Int) + 1), s'), ?_, rfl, rfl, C', hE.tr E'⟩
        have q3 : (zq (zqMx (g.trs.take i) (ZG.val k g)) < zq (ZG.val k g g.trs[i])) = (zqMx (g.trs.take i) (ZG.val k g) < ZG.val k g g.trs[i]) := zq_lt (by omega)
        rw [zqMx_take hi]
        dsimp only
        simp only [q3]
        rw [zq_nm, zq_ite, zq_l1, zq_add, zq_nm])
    (by
      rintro ⟨s1, s2, s⟩ ⟨e1, e2, hC, hE⟩
      have e1 : s1 = zq (zqMx (g.trs.take g.trs.length) (ZG.val k g)) := e1
      have e2 : s2 = zq (g.trs.length : Nat) := e2
      subst e1 e2
      have hE : zlE k T S s := hE
      have Li := hE.l (Or.inr (by omega)) Ls
      refine ⟨(zq (ZG.V (k + 1) g), s), ?_, s, rfl, hC, hE.up (by omega)⟩
      unfold fX1_look_b100
      dsimp only
      rw [Li.1, List.take_length]
      rw [if_pos (Int32.le_refl _)]; rfl)
    ⟨rfl, rfl, C, zlE.rf⟩
  exact ⟨S', by rw [e, q1], q2, q3⟩
/-- behind the first loop -/
theorem zc_look68 {lk : SC → Int32 → Option (Int32 × SC)} {k : Nat} (hk : k < 3) (hlk : ∀ (S : SC) (g : ZG) (T : Int), zcC S g T → ∃ S', lk S (zq k) = some (zq (zqLk k g), S') ∧ zcC S' g T ∧ zlE k T S S') {S : SC} {g : ZG} {T : Int} (C : zcC S g T) (Ls : Lst S (k + 1) g.trs) :
    ∃ S', fX1_look_j68 lk (zq (k + 1)) (k + 1) (zq (zqMx g.trs (ZG.val 0 g))) S = some (zq (ZG.V (k + 1) g), S') ∧ zcC S' g T ∧ zlE (k + 1) T S S' := by
  have r1 := zqMx_ge g.trs (ZG.val 0 g)
  have r2 := zqMx_ub (l := g.trs) (f := ZG.val 0 g) (u := 1) (fun x _ => (zq_val 0 g x).2) (by omega)
  unfold fX1_look_j68
  simp (disch := omega) only [zq_l0, zq_l1, zq_l2, zq_l3, zq_l4, zq_l5, zq_l6, zq_l8, zq_l10, zq_l25, zq_l29, zq_l30, zq_l32, zq_l50, zq_l63, zq_l99, zq_l100, zq_l125, zq_l200, zq_l338, zq_l505, zq_l6000, zq_l10000, zq_l20, zq_bnd, zq_nm, zq_ck, zq_ex, zq_neg, zq_add, zq_sub, zq_mul, zq_div, zq_lt, zq_le, zq_eq, zq_tn, zq_setA_1, zq_setS_2, if_pos, if_neg, zq_if0, zq_if1, ite_true, ite_false]
  by_cases h1 : (k : Int) + 1 = 1
  · rw [if_pos h1]
    obtain rfl : k = 0 := by omega
    exact ⟨S, rfl, C, zlE.rf⟩
  · rw [if_neg h1]
    by_cases hm : zqMx g.trs (ZG.val 0 g) = 1
    · rw [if_pos hm]
      refine ⟨S, ?_, C, zlE.rf⟩
      rcases zqMx_or g.trs (ZG.val 0 g) with e | ⟨x, hx, e⟩
      · omega
      · rw [hm, zq_val0] at e
        have hw : x % 100 = 99 ∨ (g.act x).trs = [] := Classical.byContradiction fun hn => by rw [if_neg hn] at e; omega
        have h2 := zqMx_le (f := ZG.val k g) hx
        rw [zq_val1 k g x hw, ← zq_V1] at h2
        have h3 := (zq_V (k + 1) g).2.1
        have : ZG.V (k + 1) g = 1 := by omega
        rw [this, hm]
    · rw [if_neg hm]
      have nw : ∀ x ∈ g.trs, ¬ (x % 100 = 99 ∨ (g.act x).trs = []) := by
        intro x hx hw
        have h2 := zqMx_le (f := ZG.val 0 g) hx
        rw [zq_val0, if_pos hw] at h2
        omega
      by_cases h2 : (k : Int) + 1 = 2
      · rw [if_pos h2]
        obtain rfl : k = 1 := by omega
        refine zc_look100 (by omega) hlk C Ls (u := 0) (by omega) ?_
        intro x hx
        have h := nw x hx
        unfold ZG.val
        rw [if_neg (fun q => h (Or.inl q))]
        have := zq_V1nn (g := g.act x) (fun q => h (Or.inr q))
        omega
      · rw [if_neg h2]
        exact zc_look100 (by omega) hlk C Ls (u := 1) (by omega) (fun x _ => (zq_val k g x).2)
theorem zc_look1 {lk : SC → Int32 → Option (Int32 × SC)} {k : Nat} (hk : k < 3) (hl0 : ∀ (S : SC) (g : ZG) (T : Int), zcC S g T → ∃ S', lk S (zq (0 : Nat)) = some (zq (zqLk 0 g), S') ∧ zcC S' g T ∧ zlE 0 T S S') (hlk : ∀ (S : SC) (g : ZG) (T : Int), zcC S g T → ∃ S', lk S (zq k) = some (zq (zqLk k g), S') ∧ zcC S' g T ∧ zlE k T S S') {S : SC} {g : ZG} {T : Int} (C : zcC S g T) :
    ∃ S', fX1_look lk S (zq (k + 1)) = some (zq (ZG.V (k + 1) g), S') ∧ zcC S' g T ∧ zlE (k + 1) T S S' := by
  have cap := zq_cap C.2.1 C.2.2.1
  have hs := zq_hs C.2.1
  obtain ⟨z, w, hp, hT, hv, ⟨T0, T1, T2⟩, hne⟩ := id C
  have hmm : S.1 5 - S.1 5 / 2 * 2 = zq g.m := by
    rw [hT]
    simp (disch := omega) only [zq_l0, zq_l1, zq_l2, zq_l3, zq_l4, zq_l5, zq_l6, zq_l8, zq_l10, zq_l25, zq_l29, zq_l30, zq_l32, zq_l50, zq_l63, zq_l99, zq_l100, zq_l125, zq_l200, zq_l338, zq_l505, zq_l6000, zq_l10000, zq_l20, zq_bnd, zq_nm, zq_ck, zq_ex, zq_neg, zq_add, zq_sub, zq_mul, zq_div, zq_lt, zq_le, zq_eq, zq_tn, zq_setA_1, zq_setS_2, if_pos, if_neg, zq_if0, zq_if1, ite_true, ite_false, show T - T / 2 * 2 = g.m by omega]
  obtain ⟨S0, e0, L0, E0⟩ := zl_listTurns (t := k + 1) z w hp hmm hv cap
  have C0 := E0.cc C
  have lf : fX1_listFor S (zq (k + 1)) = some (k + 1) := by
    unfold fX1_listFor
    simp (disch := omega) only [zq_l0, zq_l1, zq_l2, zq_l3, zq_l4, zq_l5, zq_l6, zq_l8, zq_l10, zq_l25, zq_l29, zq_l30, zq_l32, zq_l50, zq_l63, zq_l99, zq_l100, zq_l125, zq_l200, zq_l338, zq_l505, zq_l6000, zq_l10000, zq_l20, zq_bnd, zq_nm, zq_ck, zq_ex, zq_neg, zq_add, zq_sub, zq_mul, zq_div, zq_lt, zq_le, zq_eq, zq_tn, zq_setA_1, zq_setS_2, if_pos, if_neg, zq_if0, zq_if1, ite_true, ite_false]
    rcases (show k = 0 ∨ k = 1 ∨ k = 2 by omega) with rfl | rfl | rfl <;> rfl
  unfold fX1_look
  rw [lf]
  simp (disch := omega) only [zq_l0, zq_l1, zq_l2, zq_l3, zq_l4, zq_l5, zq_l6, zq_l8, zq_l10, zq_l25, zq_l29, zq_l30, zq_l32, zq_l50, zq_l63, zq_l99, zq_l100, zq_l125, zq_l200, zq_l338, zq_l505, zq_l6000, zq_l10000, zq_l20, zq_bnd, zq_nm, zq_ck, zq_ex, zq_neg, zq_add, zq_sub, zq_mul, zq_div, zq_lt, zq_le, zq_eq, zq_tn, zq_setA_1, zq_setS_2, if_pos, if_neg, zq_if0, zq_if1, ite_true, ite_false, e0]
  rw [zq_cp _ (show k + 1 < 4 by omega)]
  obtain ⟨r, e, S', q1, q2, q3⟩ := zq_forE (b := fX1_look_b28 lk (zq (k + 1)) (k + 1)) (s := (-1, 0, S0)) (fun i s => s.1 = zq (zqMx (g.trs.take i) (ZG.val 0 g)) ∧ s.2.1 = zq i ∧ zcC s.2.2 g T ∧ zlE 0 T S0 s.2.2) (fun r => ∃ S', r = (zq (ZG.V (k + 1) g), S') ∧ zcC S' g T ∧ zlE (k + 1) T S S') g.trs.length (by omega)
    (by
      rintro i hi ⟨s1, s2, s⟩ ⟨e1, e2, hC, hE⟩
      have e1 : s1 = zq (zqMx (g.trs.take i) (ZG.val 0 g)) := e1
      have e2 : s2 = zq i := e2
      subst e1 e2
      have hC : zcC s g T := hC
      have hE : zlE 0 T S0 s := hE
      have Li := hE.l (Or.inr (by omega)) L0
      have r1 := zqMx_ge (g.trs.take i) (ZG.val 0 g)
      have r2 := zqMx_ub (l := g.trs.take i) (f := ZG.val 0 g) (u := 1) (fun x _ => (zq_val 0 g x).2) (by omega)
      have r3 := zq_val 0 g (g.trs[i])
      unfold fX1_look_b28
      dsimp only
      rw [Li.1]
      have q1 : (zq (g.trs.length : Nat) ≤ zq (i : Nat)) = (((g.trs.length : Nat) : Int) ≤ ((i : Nat) : Int)) := zq_le (by omega)
      have q2 : ((1 : Int32) ≤ zq (zqMx (g.trs.take i) (ZG.val 0 g))) = (1 ≤ zqMx (g.trs.take i) (ZG.val 0 g)) := by rw [zq_l1]; exact zq_le (by omega)
      simp only [q1, q2]
      rw [if_neg (by omega)]
      by_cases hst : 1 ≤ zqMx (g.trs.take i) (ZG.val 0 g)
      · rw [if_pos hst, zqMx_stop (fun x _ => (zq_val 0 g x).2) (by omega) hst]
        obtain ⟨S', e', C', E'⟩ := zc_look68 hk hlk hC Li
        exact Or.inr ⟨_, by rw [e']; rfl, S', rfl, C', ((E0.e (by omega)).tr (hE.up (by omega))).tr E'⟩
      · rw [if_neg hst, zl_at Li cap hi, zq_bnd]
        obtain ⟨s', e', C', E'⟩ := zc_worthOf (k := 0) (by omega) hl0 hC (n := g.trs[i]) (List.getElem_mem hi)
        rw [show zq (((0 : Nat) : Int) + 1) = 1 from rfl] at e'
        rw [e', zq_bnd]
        refine Or.inl ⟨(zq (zqMx (g.trs.take (i + 1)) (ZG.val 0 g)), zq ((i : Int) + 1), s'), ?_, rfl, rfl, C', hE.tr E'⟩
        have q3 : (zq (zqMx (g.trs.take i) (ZG.val 0 g)) < zq (ZG.val 0 g g.trs[i])) = (zqMx (g.trs.take i) (ZG.val 0 g) < ZG.val 0 g g.trs[i]) := zq_lt (by omega)
        rw [zqMx_take hi]
        dsimp only
        simp only [q3]
        rw [zq_nm, zq_ite, zq_l1, zq_add, zq_nm])
    (by
      rintro ⟨s1, s2, s⟩ ⟨e1, e2, hC, hE⟩
      have e1 : s1 = zq (zqMx (g.trs.take g.trs.length) (ZG.val 0 g)) := e1
      have e2 : s2 = zq (g.trs.length : Nat) := e2
      subst e1 e2
      have hC : zcC s g T := hC
      have hE : zlE 0 T S0 s := hE
      have Li := hE.l (Or.inr (by omega)) L0
      obtain ⟨S', e', C', E'⟩ := zc_look68 hk hlk hC Li
      refine ⟨(zq (ZG.V (k + 1) g), S'), ?_, S', rfl, C', ((E0.e (by omega)).tr (hE.up (by omega))).tr E'⟩
      unfold fX1_look_b28
      dsimp only
      rw [Li.1, List.take_length]
      rw [if_pos (Int32.le_refl _), e']; rfl)
    ⟨rfl, rfl, C0, zlE.rf⟩
  rw [zq_m1, zq_l0] at e
  exact ⟨S', by rw [e, q1], q2, q3⟩
theorem zc_look0 (lk : SC → Int32 → Option (Int32 × SC)) {S : SC} {g : ZG} {T : Int} (C : zcC S g T) : ∃ S', fX1_look lk S (zq (0 : Nat)) = some (zq (zqLk 0 g), S') ∧ zcC S' g T ∧ zlE 0 T S S' := by
  refine ⟨S, ?_, C, zlE.rf⟩
  unfold fX1_look
  rw [if_pos (show zq ((0 : Nat) : Int) ≤ 0 from Int32.le_refl _)]; rfl
theorem zc_lookN : ∀ (k m : Nat), k ≤ 3 → k ≤ m → ∀ (S : SC) (g : ZG) (T : Int), zcC S g T → ∃ S', fX1_lookN (m + 1) S (zq k) = some (zq (zqLk k g), S') ∧ zcC S' g T ∧ zlE k T S S'
  | 0, m, _, _, S, g, T, C => zc_look0 (fX1_lookN m) C
  | k + 1, m, h3, hm, S, g, T, C => by
    obtain ⟨m, rfl⟩ : ∃ j, m = j + 1 := ⟨m - 1, by omega⟩
    have h := zc_look1 (lk := fX1_lookN (m + 1)) (k := k) (by omega) (fun S g T C => zc_look0 (fX1_lookN m) C) (fun S g T C => zc_lookN k m (by omega) (by omega) S g T C) C
    exact h
/-! the reference looks ahead -/
def zqGo {σ ρ : Type} (b : σ → Option (σ ⊕ ρ)) (s s' : σ) (c : Nat) : Prop := ∀ n, loop b (n + c) s = loop b n s'
theorem zqGo.rf {σ ρ : Type} {b : σ → Option (σ ⊕ ρ)} {s : σ} : zqGo b s s 0 := fun n => rfl
theorem zqGo.one {σ ρ : Type} {b : σ → Option (σ ⊕ ρ)} {s s' : σ} (h : b s = some (.inl s')) : zqGo b s s' 1 := fun n => zq_loop1 h
theorem zqGo.tr {σ ρ : Type} {b : σ → Option (σ ⊕ ρ)} {s s' s'' : σ} {c c' : Nat} (h : zqGo b s s' c) (h' : zqGo b s' s'' c') : zqGo b s s'' (c + c') := fun n => by
  rw [show n + (c + c') = (n + c') + c by omega, h, h']
/-- nothing of the levels up to L is changed, but the numbers and bests of L -/
def zmL (L : Int) (M M' : SC) : Prop := (∀ k, k ≠ 7 → M'.1 k = M.1 k) ∧ M'.2 0 = M.2 0 ∧ M'.2 5 = M.2 5 ∧ (∀ x : Int, 0 ≤ x → x < 25 * L + 25 → M'.2 1 x.toNat = M.2 1 x.toNat) ∧ (∀ x : Int, 0 ≤ x → x < 4 * L + 4 → M'.2 2 x.toNat = M.2 2 x.toNat) ∧
  (∀ x : Int, 0 ≤ x → x ≤ L → M'.2 3 x.toNat = M.2 3 x.toNat) ∧ (∀ x : Int, 0 ≤ x → x ≤ L → M'.2 4 x.toNat = M.2 4 x.toNat) ∧ (∀ x : Int, 0 ≤ x → x < L → M'.2 6 x.toNat = M.2 6 x.toNat) ∧ (∀ x : Int, 0 ≤ x → x < L → M'.2 7 x.toNat = M.2 7 x.toNat)
theorem zmL.rf {L : Int} {M : SC} : zmL L M M := ⟨fun _ _ => rfl, rfl, rfl, fun _ _ _ => rfl, fun _ _ _ => rfl, fun _ _ _ => rfl, fun _ _ _ => rfl, fun _ _ _ => rfl, fun _ _ _ => rfl⟩
theorem zmL.tr {L : Int} {M M' M'' : SC} (a : zmL L M M') (b : zmL L M' M'') : zmL L M M'' := by
  obtain ⟨a0, a1, a2, a3, a4, a5, a6, a7, a8⟩ := a
  obtain ⟨b0, b1, b2, b3, b4, b5, b6, b7, b8⟩ := b
  exact ⟨fun k h => (b0 k h).trans (a0 k h), b1.trans a1, b2.trans a2, fun x h0 h => (b3 x h0 h).trans (a3 x h0 h), fun x h0 h => (b4 x h0 h).trans (a4 x h0 h), fun x h0 h => (b5 x h0 h).trans (a5 x h0 h), fun x h0 h => (b6 x h0 h).trans (a6 x h0 h), fun x h0 h => (b7 x h0 h).trans (a7 x h0 h), fun x h0 h => (b8 x h0 h).trans (a8 x h0 h)⟩
theorem zmL.dn {L K : Int} {M M' : SC} (h : L ≤ K) (a : zmL K M M') : zmL L M M' := by
  obtain ⟨a0, a1, a2, a3, a4, a5, a6, a7, a8⟩ := a
  exact ⟨a0, a1, a2, fun x h0 h => a3 x h0 (by omega), fun x h0 h => a4 x h0 (by omega), fun x h0 h => a5 x h0 (by omega), fun x h0 h => a6 x h0 (by omega), fun x h0 h => a7 x h0 (by omega), fun x h0 h => a8 x h0 (by omega)⟩
theorem zmL.z {L K : Int} {M M' : SC} {g : ZG} (a : zmL L M M') (hK : 0 ≤ K ∧ K ≤ L) (z : ZM M K g) : ZM M' K g := by
  obtain ⟨a0, a1, a2, a3, a4, a5, a6, a7, a8⟩ := a
  exact ⟨by rw [a0 1 (by omega)]; exact z.R, by rw [a0 2 (by omega)]; exact z.C, by rw [a0 3 (by omega)]; exact z.B, by rw [a1]; exact z.p0, by rw [a1]; exact z.p1, fun c c0 c1 => by rw [a3 _ (by omega) (by omega)]; exact z.h c c0 c1, fun c c0 c1 => by rw [a4 _ (by omega) (by omega)]; exact z.a c c0 c1, by rw [a5 _ hK.1 hK.2]; exact z.m, by rw [a6 _ hK.1 hK.2]; exact z.b⟩
theorem zmE.l {L K : Int} {M M' : SC} (h : L < K) (a : zmE K M M') : zmL L M M' := by
  obtain ⟨a0, a1, a2, a3, a4, a5⟩ := a
  exact ⟨fun k _ => a0 k, a1 0 (by omega) (by omega) (by omega) (by omega), a1 5 (by omega) (by omega) (by omega) (by omega), fun x h0 h => a2 x h0 (by omega), fun x h0 h => a3 x h0 (by omega), fun x h0 h => a4 x h0 (by omega), fun x h0 h => a5 x h0 (by omega), fun x _ _ => by rw [a1 6 (by omega) (by omega) (by omega) (by omega)], fun x _ _ => by rw [a1 7 (by omega) (by omega) (by omega) (by omega)]⟩
theorem zmL_6 {L K : Int} (hK : 0 ≤ K ∧ K < 5) (h : L ≤ K) (S : SC) (v : Int32) : zmL L S (setA S 6 (zq K) v) :=
  ⟨fun _ _ => rfl, zq_setA_other _ _ _ _ _ (by omega), zq_setA_other _ _ _ _ _ (by omega), fun x _ _ => by rw [zq_setA_other _ _ _ _ _ (by omega)], fun x _ _ => by rw [zq_setA_other _ _ _ _ _ (by omega)], fun x _ _ => by rw [zq_setA_other _ _ _ _ _ (by omega)], fun x _ _ => by rw [zq_setA_other _ _ _ _ _ (by omega)], fun x x0 x1 => by rw [zq_wr _ _ _ _ (by omega) x0, if_neg (by omega)], fun x _ _ => by rw [zq_setA_other _ _ _ _ _ (by omega)]⟩
theorem zmL_7 {L K : Int} (hK : 0 ≤ K ∧ K < 5) (h : L ≤ K) (S : SC) (v : Int32) : zmL L S (setA S 7 (zq K) v) :=
  ⟨fun _ _ => rfl, zq_setA_other _ _ _ _ _ (by omega), zq_setA_other _ _ _ _ _ (by omega), fun x _ _ => by rw [zq_setA_other _ _ _ _ _ (by omega)], fun x _ _ => by rw [zq_setA_other _ _ _ _ _ (by omega)], fun x _ _ => by rw [zq_setA_other _ _ _ _ _ (by omega)], fun x _ _ => by rw [zq_setA_other _ _ _ _ _ (by omega)], fun x _ _ => by rw [zq_setA_other _ _ _ _ _ (by omega)], fun x x0 x1 => by rw [zq_wr _ _ _ _ (by omega) x0, if_neg (by omega)]⟩
theorem zmL_s {L : Int} (S : SC) (v : Int32) : zmL L S (setS S 7 v) := ⟨fun k h => zq_setS_other _ _ _ _ h, rfl, rfl, fun _ _ _ => rfl, fun _ _ _ => rfl, fun _ _ _ => rfl, fun _ _ _ => rfl, fun _ _ _ => rfl, fun _ _ _ => rfl⟩
/-- the best so far, i turns seen -/
def zqBs (g : ZG) (d i : Nat) : Int := if i = 0 then -2 else zqMx (g.trs.take i) (ZG.val d g)
/-- the turn that got it -/
def zqFd (g : ZG) (d i : Nat) (F : Int32) : Prop := i = 0 ∨ ∃ j, j < i ∧ F = zq (g.tr j) ∧ ZG.val d g (g.tr j) = zqMx (g.trs.take i) (ZG.val d g) ∧ ∀ k, k < j → ZG.val d g (g.tr k) < zqMx (g.trs.take i) (ZG.val d g)
def zmSt (g : ZG) (L : Int) (d : Nat) (M0 M : SC) (i : Nat) : Prop := zmL L M0 M ∧ M.2 6 L.toNat = zq (if i = 0 then -1 else g.tr (i - 1)) ∧ M.2 7 L.toNat = zq (zqBs g d i) ∧ (L ≠ 0 → M.1 7 = M0.1 7) ∧ (L = 0 → zqFd g d i (M.1 7))
theorem zqBs_r (g : ZG) (d i : Nat) : -2 ≤ zqBs g d i ∧ zqBs g d i ≤ 1 := by
  unfold zqBs
  have h1 := zqMx_ge (g.trs.take i) (ZG.val d g)
  have h2 := zqMx_ub (l := g.trs.take i) (f := ZG.val d g) (u := 1) (fun x _ => (zq_val d g x).2) (by omega)
  split <;> omega
theorem zqBs_s {g : ZG} {d i : Nat} (hi : i < g.trs.length) : zqBs g d (i + 1) = if zqBs g d i < ZG.val d g (g.tr i) then ZG.val d g (g.tr i) else zqBs g d i := by
  have hv := zq_val d g (g.tr i)
  have e := zqMx_take (f := ZG.val d g) hi
  rw [← zq_tr hi] at e
  unfold zqBs
  rw [if_neg (by omega), e]
  by_cases h0 : i = 0
  · subst h0
    rw [if_pos rfl, List.take_zero, zqMx_nil]
    split <;> split <;> omega
  · rw [if_neg h0]


def zqCb : Nat → Nat
  | 0 => 0
  | d + 1 => 338 * (zqCb d + 2)
theorem zq_ifL {β : Type} {P : Prop} (a b : β) : (if zq (zqB P) = (0 : Int32) then a else b) = @ite β P (Classical.propDecidable P) b a := by
  rw [zq_l0, zq_if0]
/-! what binds the two -/
def zqH (S M : SC) : List (ZG × Int) → ZG → Prop
  | [] => fun _ => True
  | x :: H => fun g => g = x.1.act x.2 ∧ x.2 ∈ x.1.trs ∧ ZW x.1 ∧ ZP x.1 ∧ (H.length : Int) ≤ x.1.hs ∧ (H.length : Int) % 2 = x.1.m ∧ ZR S x.1 x.2 H.length ∧ zmK M x.1 H.length ∧ zqH S M H x.1
theorem zqH_fr {S S' M M' : SC} : ∀ (H : List (ZG × Int)) (g : ZG), (∀ x : Int, 0 ≤ x → x < 5 * H.length → S'.2 4 x.toNat = S.2 4 x.toNat) → (∀ x : Int, 0 ≤ x → x < 30 * H.length → M'.2 5 x.toNat = M.2 5 x.toNat) → zqH S M H g → zqH S' M' H g
  | [], _, _, _, _ => trivial
  | x :: H, g, h1, h2, ⟨a1, a2, a3, a4, a5, a6, a7, a8, a9⟩ => by
    have el : (((x :: H).length : Nat) : Int) = (H.length : Int) + 1 := by rw [List.length_cons]; omega
    rw [el] at h1 h2
    refine ⟨a1, a2, a3, a4, a5, a6, ?_, ?_, zqH_fr H x.1 (fun y y0 y1 => h1 y y0 (by omega)) (fun y y0 y1 => h2 y y0 (by omega)) a9⟩
    · obtain ⟨r0, r1, r2, r3, r4⟩ := a7
      exact ⟨by rw [h1 _ (by omega) (by omega)]; exact r0, by rw [h1 _ (by omega) (by omega)]; exact r1, by rw [h1 _ (by omega) (by omega)]; exact r2, by rw [h1 _ (by omega) (by omega)]; exact r3, by rw [h1 _ (by omega) (by omega)]; exact r4⟩
    · obtain ⟨r0, r1, r2⟩ := a8
      exact ⟨fun c c0 c1 => by rw [h2 _ (by omega) (by omega)]; exact r0 c c0 c1, fun c c0 c1 => by rw [h2 _ (by omega) (by omega)]; exact r1 c c0 c1, by rw [h2 _ (by omega) (by omega)]; exact r2⟩
theorem zqH_len {S M : SC} : ∀ (H : List (ZG × Int)) (g : ZG), zqH S M H g → H.length ≤ 101
  | [], _, _ => by simp
  | x :: H, g, ⟨a1, a2, a3, a4, a5, a6, a7, a8, a9⟩ => by
    have := zq_hs a3
    rw [List.length_cons]; omega
/-- what binds the two, told of the position g, q builders placed, v the winner, H what was played -/
def zqJ (S M : SC) (g : ZG) (q v : Int) (H : List (ZG × Int)) : Prop :=
  ZC S g ∧ ZW g ∧ ZM M 0 g ∧ S.1 4 = zq q ∧ M.1 4 = zq q ∧ (0 ≤ q ∧ q ≤ 2 * g.B) ∧ ZQ g q ∧ S.1 5 = zq H.length ∧ M.1 6 = zq H.length ∧ S.1 6 = zq v ∧ M.1 5 = zq v ∧ (-1 ≤ v ∧ v ≤ 1) ∧ zqH S M H g ∧
  (q < 2 * g.B → H = [] ∧ v = -1 ∧ g.m = 0) ∧ (q = 2 * g.B → (H.length : Int) % 2 = g.m ∧ (v = -1 → g.trs ≠ [] ∧ (H.length : Int) ≤ g.hs))
def zqK (S M : SC) : Prop := ∃ (g : ZG) (q v : Int) (H : List (ZG × Int)), zqJ S M g q v H
theorem zqJ.s0 {S M : SC} {g : ZG} {q v : Int} {H : List (ZG × Int)} (J : zqJ S M g q v H) (x : Int32) : zqJ S (setS M 0 x) g q v H := by
  obtain ⟨z, w, zm, a1, a2, a3, a4, a5, a6, a7, a8, a9, a10, a11, a12⟩ := J
  exact ⟨z, w, zm.s 0 x (by omega) (by omega) (by omega), a1, by rw [zq_setS_other _ _ _ _ (by omega)]; exact a2, a3, a4, a5, by rw [zq_setS_other _ _ _ _ (by omega)]; exact a6, a7, by rw [zq_setS_other _ _ _ _ (by omega)]; exact a8, a9, zqH_fr (S := S) (M := M) H g (fun _ _ _ => rfl) (fun _ _ _ => rfl) a10, a11, a12⟩
theorem zqJ.e {S S' M : SC} {g : ZG} {q v : Int} {H : List (ZG × Int)} {t : Nat} (J : zqJ S M g q v H) (E : zqE t S S') : zqJ S' M g q v H := by
  obtain ⟨z, w, zm, a1, a2, a3, a4, a5, a6, a7, a8, a9, a10, a11, a12⟩ := J
  exact ⟨E.c z, w, zm, by rw [E.1 4 (by omega)]; exact a1, a2, a3, a4, by rw [E.1 5 (by omega)]; exact a5, a6, by rw [E.1 6 (by omega)]; exact a7, a8, a9, zqH_fr (S := S) (M := M) H g (fun x _ _ => by rw [E.2 4 (by omega)]) (fun _ _ _ => rfl) a10, a11, a12⟩
theorem zqJ.len {S M : SC} {g : ZG} {q v : Int} {H : List (ZG × Int)} (J : zqJ S M g q v H) : H.length ≤ 101 := zqH_len H g J.2.2.2.2.2.2.2.2.2.2.2.2.1
theorem zq_ex1 (a : Int32) : ∃ x : Int, a = zq x ∧ -2147483648 ≤ x ∧ x < 2147483648 := ⟨a.toInt, zq_of a, Int32.le_toInt a, Int32.toInt_lt a⟩
theorem zc_isOut {S : SC} {x a b : Int} (h : -2147483648 ≤ x ∧ x < 2147483648 ∧ -2147483648 ≤ a ∧ a < 2147483648 ∧ -2147483648 ≤ b ∧ b < 2147483648) : fX3_isOutside S (zq x) (zq a) (zq b) = some (zq (zqB (¬ (a ≤ x ∧ x ≤ b)))) := by
  unfold fX3_isOutside
  simp (disch := omega) only [zq_l0, zq_l1, zq_l2, zq_l3, zq_l4, zq_l5, zq_l6, zq_l8, zq_l10, zq_l25, zq_l29, zq_l30, zq_l32, zq_l50, zq_l63, zq_l99, zq_l100, zq_l125, zq_l200, zq_l338, zq_l505, zq_l6000, zq_l10000, zq_l20, zq_bnd, zq_nm, zq_ck, zq_ex, zq_neg, zq_add, zq_sub, zq_mul, zq_div, zq_lt, zq_le, zq_eq, zq_tn, zq_setA_1, zq_setS_2, if_pos, if_neg, zq_if0, zq_if1, ite_true, ite_false]
  by_cases h1 : x < a
  · rw [if_pos h1, zqB_t (by omega)]
  · rw [if_neg h1]
    by_cases h2 : x ≤ b
    · rw [if_pos h2, zqB_f (by omega)]
    · rw [if_neg h2, zqB_t (by omega)]
theorem zc_reqCell {S : SC} {g : ZG} (z : ZC S g) (w : ZW g) {x : Int} (hx : -2147483648 ≤ x ∧ x < 2147483648) : fX3_requireCell S (zq x) = some (if 0 ≤ x ∧ x < g.n then .inl () else .inr 2) := by
  have hn := w.n
  unfold fX3_requireCell
  rw [z.n, zq_l1, zq_sub, zq_l0, zc_isOut (by omega), zq_bnd, zq_if0]
  by_cases h : 0 ≤ x ∧ x < g.n
  · rw [if_pos h, if_neg (by omega)]
  · rw [if_neg h, if_pos (by omega)]
theorem zc_reqAll {S : SC} {g : ZG} (z : ZC S g) (w : ZW g) {q : Int} (hq : S.1 4 = zq q) (q0 : 0 ≤ q ∧ q ≤ 2 * g.B) : fX3_requireAllPlaced S = some (if q = 2 * g.B then .inl () else .inr 1) := by
  unfold fX3_requireAllPlaced
  rw [zc_isSet z w hq q0, zq_bnd, zq_l0, zq_if0]
  by_cases h : q = 2 * g.B
  · rw [if_pos h, if_pos h]
  · rw [if_neg h, if_neg h]
/-! the calls that read -/
/-! reached -/
def zqRs (g : ZG) (x k : Int) : Int := if g.a (2 * x + k) = -1 then 0 else g.h (g.a (2 * x + k))
def zqSm (g : ZG) (x : Int) (i : Nat) : Int := match i with | 0 => 0 | 1 => zqRs g x 0 | _ => zqRs g x 0 + zqRs g x 1
theorem zq_Rs {g : ZG} (w : ZW g) {x k : Int} (hx : 0 ≤ x ∧ x ≤ 1) (hk : 0 ≤ k ∧ k ≤ 1) : 0 ≤ zqRs g x k ∧ zqRs g x k ≤ 4 := by
  have ha := w.a (2 * x + k) (by omega) (by omega)
  have hn := w.n
  unfold zqRs
  by_cases h : g.a (2 * x + k) = -1
  · rw [if_pos h]; omega
  · rw [if_neg h]; exact w.h _ (by omega) (by omega)
theorem zc_under {S : SC} {g : ZG} (z : ZC S g) (w : ZW g) {x : Int} (hx : 0 ≤ x ∧ x ≤ 1) : fX0_storeysUnder S (zq x) = some (zq (zqSm g x g.B.toNat)) := by
  have hB := w.B
  have hn := w.n
  have step : ∀ s k : Int, 0 ≤ k → k < g.B → fX0_storeysUnder_b4 S (zq x) (zq s, zq k) = some (.inl (zq (s + zqRs g x k), zq (k + 1))) := by
    intro s k k0 k1
    have ha := w.a (2 * x + k) (by omega) (by omega)
    have st : fX0_storeysOf S (zq (g.a (2 * x + k))) = some (zq (zqRs g x k)) := by
      unfold zqRs
      by_cases h : g.a (2 * x + k) = -1
      · rw [if_pos h, h, zc_storeysOf']
      · rw [if_neg h, zc_storeysOf z (by omega) (by omega)]
    unfold fX0_storeysUnder_b4
    simp (disch := omega) only [zq_l0, zq_l1, zq_l2, zq_l3, zq_l4, zq_l5, zq_l6, zq_l8, zq_l10, zq_l25, zq_l29, zq_l30, zq_l32, zq_l50, zq_l63, zq_l99, zq_l100, zq_l125, zq_l200, zq_l338, zq_l505, zq_l6000, zq_l10000, zq_l20, zq_bnd, zq_nm, zq_ck, zq_ex, zq_neg, zq_add, zq_sub, zq_mul, zq_div, zq_lt, zq_le, zq_eq, zq_tn, zq_setA_1, zq_setS_2, if_pos, if_neg, zq_if0, zq_if1, ite_true, ite_false, z.B, zc_spotOf z (show 0 ≤ 2 * x + k by omega) (show 2 * x + k < 4 by omega), st]
  have last : ∀ s : Int, fX0_storeysUnder_b4 S (zq x) (zq s, zq g.B) = some (.inr (zq s)) := by
    intro s
    unfold fX0_storeysUnder_b4
    simp (disch := omega) only [zq_l0, zq_l1, zq_l2, zq_l3, zq_l4, zq_l5, zq_l6, zq_l8, zq_l10, zq_l25, zq_l29, zq_l30, zq_l32, zq_l50, zq_l63, zq_l99, zq_l100, zq_l125, zq_l200, zq_l338, zq_l505, zq_l6000, zq_l10000, zq_l20, zq_bnd, zq_nm, zq_ck, zq_ex, zq_neg, zq_add, zq_sub, zq_mul, zq_div, zq_lt, zq_le, zq_eq, zq_tn, zq_setA_1, zq_setS_2, if_pos, if_neg, zq_if0, zq_if1, ite_true, ite_false, z.B]
  have e1 := step 0 0 (by omega) (by omega)
  rw [Int.zero_add, show (0 : Int) + 1 = 1 by omega] at e1
  have eF : FUEL = (999999999999999997 + 1 + 1 + 1 : Nat) := by rw [FUEL_is]
  unfold fX0_storeysUnder
  rw [eF, zq_l0]
  rcases (show g.B = 1 ∨ g.B = 2 by omega) with h | h
  · have l := last (zqRs g x 0)
    rw [h] at l ⊢
    rw [zq_loop1 e1, zq_loop0 l]; rfl
  · have e2 := step (zqRs g x 0) 1 (by omega) (by omega)
    have l := last (zqRs g x 0 + zqRs g x 1)
    rw [h] at l ⊢
    rw [zq_loop1 e1, zq_loop1 e2, show (1 : Int) + 1 = 2 by omega, zq_loop0 l]; rfl
/-! the list of turns, told by both -/
def zqTl (g : ZG) (v : Int) : List Int := if v = -1 then g.trs else []
theorem zqJ.hp {S M : SC} {g : ZG} {q v : Int} {H : List (ZG × Int)} (J : zqJ S M g q v H) (h : q = 2 * g.B) : ZP g := ZQ.p J.2.1 J.2.2.2.2.2.2.1 h
theorem zi_list {S M : SC} {g : ZG} {q v : Int} {H : List (ZG × Int)} (J : zqJ S M g q v H) (h : q = 2 * g.B) : ∃ S', fX0_listTurns S 0 = some S' ∧ Lst S' 0 (zqTl g v) ∧ zqE 0 S S' := by
  have len := J.len
  have hp := J.hp h
  obtain ⟨z, w, zm, a1, a2, a3, a4, a5, a6, a7, a8, a9, a10, a11, a12⟩ := id J
  have hT := (a12 h).1
  unfold zqTl
  by_cases hv : v = -1
  · rw [if_pos hv]
    refine zl_listTurns z w hp ?_ (by rw [a7, hv]) (zq_cap w hp)
    rw [a5]
    simp (disch := omega) only [zq_l0, zq_l1, zq_l2, zq_l3, zq_l4, zq_l5, zq_l6, zq_l8, zq_l10, zq_l25, zq_l29, zq_l30, zq_l32, zq_l50, zq_l63, zq_l99, zq_l100, zq_l125, zq_l200, zq_l338, zq_l505, zq_l6000, zq_l10000, zq_l20, zq_bnd, zq_nm, zq_ck, zq_ex, zq_neg, zq_add, zq_sub, zq_mul, zq_div, zq_lt, zq_le, zq_eq, zq_tn, zq_setA_1, zq_setS_2, if_pos, if_neg, zq_if0, zq_if1, ite_true, ite_false, show (H.length : Int) - (H.length : Int) / 2 * 2 = g.m by omega]
  · rw [if_neg hv]
    refine zl_listNone ?_
    rw [a7, zq_eq (by omega)]; exact hv
/-! worth and best -/
theorem zqJ.cc {S M : SC} {g : ZG} {q v : Int} {H : List (ZG × Int)} (J : zqJ S M g q v H) (h : q = 2 * g.B) (hv : v = -1) : zcC S g H.length := by
  have hp := J.hp h
  obtain ⟨z, w, zm, a1, a2, a3, a4, a5, a6, a7, a8, a9, a10, a11, a12⟩ := J
  obtain ⟨b1, b2⟩ := a12 h
  obtain ⟨b3, b4⟩ := b2 hv
  exact ⟨z, w, hp, a5, by rw [a7, hv], ⟨by omega, b4, b1⟩, b3⟩
theorem zqJ.lk {S S' M M' : SC} {g : ZG} {q v : Int} {H : List (ZG × Int)} {k : Nat} (J : zqJ S M g q v H) (hv : v = -1) (C : zcC S' g H.length) (E : zlE k H.length S S') (zm : ZM M' 0 g) (h1 : ∀ j, j ≠ 7 → M'.1 j = M.1 j) (h2 : M'.2 5 = M.2 5) : zqJ S' M' g q v H := by
  obtain ⟨z, w, _, a1, a2, a3, a4, a5, a6, a7, a8, a9, a10, a11, a12⟩ := J
  exact ⟨C.1, w, zm, by rw [E.1]; exact a1, by rw [h1 4 (by omega)]; exact a2, a3, a4, C.2.2.2.1, by rw [h1 6 (by omega)]; exact a6, by rw [hv]; exact C.2.2.2.2.1, by rw [h1 5 (by omega)]; exact a8, a9, zqH_fr H g E.2.2 (fun x _ _ => by rw [h2]) a10, a11, a12⟩
theorem zc_reqAhead {S M : SC} {g : ZG} {q v : Int} {H : List (ZG × Int)} (J : zqJ S M g q v H) {x a : Int} (hx : -2147483648 ≤ x ∧ x < 2147483648) (ha : 0 ≤ a ∧ a ≤ 1) : fX3_requireAhead S (zq x) (zq a) = some (if a ≤ x ∧ x ≤ 3 then (if q = 2 * g.B ∧ v = -1 ∧ (x < 3 ∨ g.n ≤ 8) then .inl () else .inr 1) else .inr 0) := by
  obtain ⟨z, w, zm, a1, a2, a3, a4, a5, a6, a7, a8, a9, a10, a11, a12⟩ := J
  have hn := w.n
  have q1 : (zq v = -1) = (v = -1) := by rw [zq_m1]; exact zq_eq (by omega)
  have q2 : (zq x = 3) = (x = 3) := by rw [zq_l3]; exact zq_eq (by omega)
  have q3 : (zq g.n ≤ 8) = (g.n ≤ 8) := by rw [zq_l8]; exact zq_le (by omega)
  unfold fX3_requireAhead
  rw [zq_l3, zc_isOut (by omega), zq_bnd, zq_ifL, zc_reqAll z w a1 a3, a7, z.n, ← zq_l3]
  simp only [q1, q2, q3]
  by_cases h : a ≤ x ∧ x ≤ 3
  · rw [if_neg (fun r => r h), if_pos h]
    by_cases hq : q = 2 * g.B
    · rw [if_pos hq]
      show (if v = -1 then _ else _) = _
      by_cases hv : v = -1
      · rw [if_pos hv]
        by_cases h3 : x = 3
        · rw [if_pos h3]
          by_cases h8 : g.n ≤ 8
          · rw [if_pos h8, if_pos ⟨hq, hv, Or.inr h8⟩]
          · rw [if_neg h8, if_neg (fun r => by omega)]
        · rw [if_neg h3, if_pos ⟨hq, hv, Or.inl (by omega)⟩]
      · rw [if_neg hv, if_neg (fun r => hv r.2.1)]
    · rw [if_neg hq]
      exact congrArg some (if_neg (fun r => hq r.1)).symm
  · rw [if_pos h, if_neg h]
theorem zc_best32 {S : SC} {g : ZG} {T : Int} {k : Nat} (hk : k < 3) (C : zcC S g T) (L : Lst S 0 g.trs) (hex : ∃ j, j < g.trs.length ∧ ZG.val k g (g.tr j) = ZG.V (k + 1) g) :
    ∃ S' j, loop (fX3_best_b32 (zq (k + 1)) (zq (ZG.V (k + 1) g))) FUEL (0, S) = some (.inl (zq (g.tr j)), S') ∧ zcC S' g T ∧ zlE k T S S' ∧ j < g.trs.length ∧ ZG.val k g (g.tr j) = ZG.V (k + 1) g ∧ ∀ i, i < j → ZG.val k g (g.tr i) ≠ ZG.V (k + 1) g := by
  have cap := zq_cap C.2.1 C.2.2.1
  have hV := zq_V (k + 1) g
  obtain ⟨r, e, S', j, q1, q2⟩ := zq_forE (b := fX3_best_b32 (zq (k + 1)) (zq (ZG.V (k + 1) g))) (s := (0, S)) (fun i s => s.1 = zq i ∧ zcC s.2 g T ∧ zlE k T S s.2 ∧ ∀ j, j < i → ZG.val k g (g.tr j) ≠ ZG.V (k + 1) g) (fun r => ∃ S' j, r = (.inl (zq (g.tr j)), S') ∧ zcC S' g T ∧ zlE k T S S' ∧ j < g.trs.length ∧ ZG.val k g (g.tr j) = ZG.V (k + 1) g ∧ ∀ i, i < j → ZG.val k g (g.tr i) ≠ ZG.V (k + 1) g) g.trs.length (by omega)
    (by
      rintro i hi ⟨s1, s⟩ ⟨e1, hC, hE, hn⟩
      have e1 : s1 = zq i := e1
      subst e1
      have hC : zcC s g T := hC
      have hE : zlE k T S s := hE
      have Li := hE.l (Or.inl rfl) L
      have L8 : s.1 8 = zq g.trs.length := Li.1
      have hv := zq_val k g (g.tr i)
      have n1 : ¬ zq (g.trs.length : Nat) ≤ zq (i : Nat) := by rw [zq_le (by omega)]; omega
      obtain ⟨s', e', C', E'⟩ := zc_worthOf (lk := fX1_lookN 4) (by omega) (fun S g T C => zc_lookN k 3 (by omega) (by omega) S g T C) hC (n := g.tr i) (zq_trm hi)
      unfold fX3_best_b32
      dsimp only
      rw [L8, if_neg n1, zl_at Li cap hi, zq_bnd, ← zq_tr hi, e', zq_bnd]
      have q3 : (zq (ZG.val k g (g.tr i)) = zq (ZG.V (k + 1) g)) = (ZG.val k g (g.tr i) = ZG.V (k + 1) g) := zq_eq (by omega)
      dsimp only
      simp only [q3]
      by_cases hh : ZG.val k g (g.tr i) = ZG.V (k + 1) g
      · rw [if_pos hh]
        exact Or.inr ⟨_, rfl, s', i, rfl, C', hE.tr E', hi, hh, hn⟩
      · rw [if_neg hh, zq_l1, zq_add, zq_nm]
        refine Or.inl ⟨_, rfl, rfl, C', hE.tr E', fun j hj => ?_⟩
        by_cases hji : j = i
        · rw [hji]; exact hh
        · exact hn j (by omega))
    (by
      rintro ⟨s1, s⟩ ⟨e1, hC, hE, hn⟩
      obtain ⟨j, hj, hv⟩ := hex
      exact absurd hv (hn j hj))
    ⟨rfl, C, zlE.rf, fun j hj => by omega⟩
  exact ⟨S', j, by rw [e, q1], q2⟩
/-! play and takeBack -/
theorem ZP.q {g : ZG} {q : Int} (w : ZW g) (hp : ZP g) (h : q = 2 * g.B) : ZQ g q := by
  have hB := w.B
  have ix := zq_Ix (q := q) hB
  intro i i0 i4 hi
  exact ⟨fun _ => by omega, fun _ => hp i i0 i4 hi⟩
theorem zl_holds {S : SC} {t : Nat} {l : List Int} (L : Lst S t l) (hl : l.length ≤ 338) (hr : ∀ y ∈ l, -2147483648 ≤ y ∧ y < 2147483648) {x : Int} (hx : -2147483648 ≤ x ∧ x < 2147483648) : fX2_holds S t (zq x) = some (zq (zqB (x ∈ l))) := by
  unfold fX2_holds
  obtain ⟨r, e, q⟩ := zq_forE (b := fX2_holds_b2 S t (zq x)) (s := 0) (fun i s => s = zq i ∧ ∀ j (h : j < l.length), j < i → l[j] ≠ x) (fun r => r = zq (zqB (x ∈ l))) l.length (by omega)
    (by
      rintro i hi s ⟨rfl, hn⟩
      have n1 : ¬ zq (l.length : Nat) ≤ zq (i : Nat) := by rw [zq_le (by omega)]; omega
      have hy := hr l[i] (List.getElem_mem hi)
      unfold fX2_holds_b2
      rw [L.1, if_neg n1, zl_at L hl hi, zq_bnd]
      have q3 : (zq l[i] = zq x) = (l[i] = x) := zq_eq (by omega)
      simp only [q3]
      by_cases h : l[i] = x
      · rw [if_pos h]
        refine Or.inr ⟨_, rfl, ?_⟩
        rw [zqB_t (by rw [← h]; exact List.getElem_mem hi)]; rfl
      · rw [if_neg h, zq_l1, zq_add, zq_nm]
        refine Or.inl ⟨_, rfl, rfl, fun j hj hji => ?_⟩
        by_cases he : j = i
        · subst he; exact h
        · exact hn j hj (by omega))
    (by
      rintro s ⟨rfl, hn⟩
      refine ⟨zq 0, ?_, ?_⟩
      · unfold fX2_holds_b2
        rw [L.1, if_pos (Int32.le_refl _)]; rfl
      · rw [zqB_f]
        intro h
        obtain ⟨j, hj, e⟩ := List.getElem_of_mem h
        exact hn j hj hj e)
    ⟨rfl, fun j hj h => by omega⟩
  rw [e, q]
/-! begin, place, raise -/
theorem zq_J0 {S M : SC} {R C B p0 p1 : Int} (hR : 2 ≤ R ∧ R ≤ 5) (hC : 2 ≤ C ∧ C ≤ 5) (hB : 1 ≤ B ∧ B ≤ 2) (h0 : 0 ≤ p0 ∧ p0 ≤ 6) (h1 : 0 ≤ p1 ∧ p1 ≤ 6) (z : ZC S (zqG0 R C B p0 p1)) (zm : ZM M 0 (zqG0 R C B p0 p1)) (s4 : S.1 4 = zq 0) (s5 : S.1 5 = zq 0) (s6 : S.1 6 = zq (-1)) (m4 : M.1 4 = zq 0) (m5 : M.1 5 = zq (-1)) (m6 : M.1 6 = zq 0) : zqJ S M (zqG0 R C B p0 p1) 0 (-1) [] := by
  have eB : (zqG0 R C B p0 p1).B = B := rfl
  have ix := zq_Ix (q := 0) hB
  refine ⟨z, zw_G0 hR hC hB h0 h1, zm, s4, m4, by rw [eB]; omega, ?_, s5, m6, s6, m5, by omega, trivial, fun _ => ⟨rfl, rfl, rfl⟩, fun h => by rw [eB] at h; omega⟩
  intro i i0 i4 hi
  rw [eB]
  constructor
  · intro h; exact absurd rfl h
  · intro h; omega
/-- a height is set -/
def ZG.rs (g : ZG) (c k : Int) : ZG := ZG.mk g.R g.C g.B g.p (fun x => if x = c then k else g.h x) g.a g.m g.b
theorem zr_h (g : ZG) (c k x : Int) : (g.rs c k).h x = if x = c then k else g.h x := rfl
theorem zw_rs {g : ZG} (w : ZW g) {c k : Int} (hc : 0 ≤ c) (hk : 0 ≤ k ∧ k ≤ 4) (hb : g.bI c = -1) : ZW (g.rs c k) := by
  refine ⟨w.R, w.C, w.B, w.p, ?_, w.a, w.inj, ?_, w.m, w.b, w.out⟩
  · intro x x0 x1
    rw [zr_h]
    have := w.h x x0 x1
    split <;> omega
  · intro i i0 i4 hi
    have hi : g.a i ≠ -1 := hi
    show (g.rs c k).h (g.a i) < 4
    rw [zr_h, if_neg (zq_bIno w hc hb i i0 i4)]
    exact w.low i i0 i4 hi
/-! the pure facts -/
