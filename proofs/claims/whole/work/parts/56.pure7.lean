set_option maxRecDepth 100000
/-! what a position is worth -/
def zqMx (l : List Int) (f : Int → Int) : Int := l.foldl (fun m x => if m < f x then f x else m) (-1)
theorem zqMx_nil (f : Int → Int) : zqMx [] f = -1 := rfl
theorem zqMx_snoc (l : List Int) (x : Int) (f : Int → Int) : zqMx (l ++ [x]) f = if zqMx l f < f x then f x else zqMx l f := by
  unfold zqMx; rw [List.foldl_append]; rfl
theorem zqMx_take {l : List Int} {f : Int → Int} {i : Nat} (h : i < l.length) : zqMx (l.take (i + 1)) f = if zqMx (l.take i) f < f l[i] then f l[i] else zqMx (l.take i) f := by
  rw [← List.take_append_getElem h, zqMx_snoc]
theorem zqMx_step (f : Int → Int) : ∀ (l : List Int) (m : Int), m ≤ l.foldl (fun m x => if m < f x then f x else m) m ∧ (∀ x ∈ l, f x ≤ l.foldl (fun m x => if m < f x then f x else m) m) ∧ (l.foldl (fun m x => if m < f x then f x else m) m = m ∨ ∃ x ∈ l, f x = l.foldl (fun m x => if m < f x then f x else m) m)
  | [], m => ⟨Int.le_refl _, fun x h => absurd h List.not_mem_nil, Or.inl rfl⟩
  | a :: l, m => by
    obtain ⟨h1, h2, h3⟩ := zqMx_step f l (if m < f a then f a else m)
    rw [List.foldl_cons]
    generalize l.foldl (fun m x => if m < f x then f x else m) (if m < f a then f a else m) = r at *
    refine ⟨?_, ?_, ?_⟩
    · revert h1; split <;> intro h1 <;> omega
    · intro x hx
      rcases List.mem_cons.mp hx with e | hx
      · rw [e]; revert h1; split <;> intro h1 <;> omega
      · exact h2 x hx
    · rcases h3 with h3 | ⟨x, hx, h3⟩
      · by_cases hm : m < f a
        · rw [if_pos hm] at h3; exact Or.inr ⟨a, List.mem_cons_self, h3.symm⟩
        · rw [if_neg hm] at h3; exact Or.inl h3
      · exact Or.inr ⟨x, List.mem_cons_of_mem _ hx, h3⟩
theorem zqMx_ge (l : List Int) (f : Int → Int) : -1 ≤ zqMx l f := (zqMx_step f l (-1)).1
theorem zqMx_le {l : List Int} {f : Int → Int} {x : Int} (h : x ∈ l) : f x ≤ zqMx l f := (zqMx_step f l (-1)).2.1 x h
theorem zqMx_or (l : List Int) (f : Int → Int) : zqMx l f = -1 ∨ ∃ x ∈ l, f x = zqMx l f := (zqMx_step f l (-1)).2.2
theorem zqMx_ub {l : List Int} {f : Int → Int} {u : Int} (h : ∀ x ∈ l, f x ≤ u) (hu : -1 ≤ u) : zqMx l f ≤ u := by
  rcases zqMx_or l f with e | ⟨x, hx, e⟩
  · omega
  · have := h x hx; omega
theorem zqMx_stop {l : List Int} {f : Int → Int} {u : Int} {i : Nat} (h : ∀ x ∈ l, f x ≤ u) (hu : -1 ≤ u) (hs : u ≤ zqMx (l.take i) f) : zqMx (l.take i) f = zqMx l f := by
  have h1 := zqMx_ub h hu
  rcases zqMx_or (l.take i) f with e | ⟨x, hx, e⟩
  · have := zqMx_ge l f; omega
  · have := zqMx_le (f := f) (List.mem_of_mem_take hx); omega
def ZG.V : Nat → ZG → Int
  | 0 => fun g => if g.trs = [] then -1 else 0
  | k + 1 => fun g => zqMx g.trs (fun n => if n % 100 = 99 then 1 else - ZG.V k (g.act n))
/-- the worth behind a turn, k turns to go behind it -/
def ZG.val (k : Nat) (g : ZG) (n : Int) : Int := if n % 100 = 99 then 1 else - ZG.V k (g.act n)
theorem zq_V1 (k : Nat) (g : ZG) : ZG.V (k + 1) g = zqMx g.trs (ZG.val k g) := rfl
theorem zq_V : ∀ (k : Nat) (g : ZG), -1 ≤ ZG.V k g ∧ ZG.V k g ≤ 1 ∧ (g.trs = [] → ZG.V k g = -1)
  | 0, g => by
    show -1 ≤ (if g.trs = [] then (-1 : Int) else 0) ∧ (if g.trs = [] then (-1 : Int) else 0) ≤ 1 ∧ (g.trs = [] → (if g.trs = [] then (-1 : Int) else 0) = -1)
    refine ⟨by split <;> omega, by split <;> omega, fun h => by rw [if_pos h]⟩
  | k + 1, g => by
    rw [zq_V1]
    refine ⟨zqMx_ge _ _, zqMx_ub (fun x hx => ?_) (by omega), fun h => by rw [h]; rfl⟩
    unfold ZG.val
    have := zq_V k (g.act x)
    split <;> omega
theorem zq_val (k : Nat) (g : ZG) (n : Int) : -1 ≤ ZG.val k g n ∧ ZG.val k g n ≤ 1 := by
  unfold ZG.val
  have := zq_V k (g.act n)
  split <;> omega
theorem zq_val1 (k : Nat) (g : ZG) (n : Int) (h : n % 100 = 99 ∨ (g.act n).trs = []) : ZG.val k g n = 1 := by
  unfold ZG.val
  by_cases h9 : n % 100 = 99
  · rw [if_pos h9]
  · rw [if_neg h9, (zq_V k (g.act n)).2.2 (h.resolve_left h9)]; rfl
theorem zq_val0 (g : ZG) (n : Int) : ZG.val 0 g n = if n % 100 = 99 ∨ (g.act n).trs = [] then 1 else 0 := by
  by_cases h : n % 100 = 99 ∨ (g.act n).trs = []
  · rw [if_pos h, zq_val1 0 g n h]
  · rw [if_neg h]
    unfold ZG.val
    rw [if_neg (fun q => h (Or.inl q))]
    show - (if (g.act n).trs = [] then (-1 : Int) else 0) = 0
    rw [if_neg (fun q => h (Or.inr q))]; rfl
theorem zq_V1nn {g : ZG} (h : g.trs ≠ []) : 0 ≤ ZG.V 1 g := by
  rw [zq_V1]
  obtain ⟨x, hx⟩ := List.exists_mem_of_ne_nil _ h
  have := zqMx_le (f := ZG.val 0 g) hx
  rw [zq_val0] at this
  revert this
  split <;> intro this <;> omega
/-- what the class's look answers -/
def zqLk (k : Nat) (g : ZG) : Int := if k = 0 then 0 else ZG.V k g
theorem zq_Lk {k : Nat} {g : ZG} (h : g.trs ≠ []) : zqLk k g = ZG.V k g := by
  unfold zqLk
  by_cases hk : k = 0
  · rw [if_pos hk, hk]
    show 0 = if g.trs = [] then (-1 : Int) else 0
    rw [if_neg h]
  · rw [if_neg hk]
/-! the class looks ahead -/
def zcC (S : SC) (g : ZG) (T : Int) : Prop := ZC S g ∧ ZW g ∧ ZP g ∧ S.1 5 = zq T ∧ S.1 6 = zq (-1) ∧ (0 ≤ T ∧ T ≤ g.hs ∧ T % 2 = g.m) ∧ g.trs ≠ []
def zlE (k : Nat) (T : Int) (S S' : SC) : Prop := S'.1 4 = S.1 4 ∧ (∀ t : Nat, (t = 0 ∨ k < t) → S'.1 (8 + t) = S.1 (8 + t) ∧ S'.2 (5 + t) = S.2 (5 + t)) ∧ ∀ x : Int, 0 ≤ x → x < 5 * T → S'.2 4 x.toNat = S.2 4 x.toNat
theorem zlE.rf {k : Nat} {T : Int} {S : SC} : zlE k T S S := ⟨rfl, fun _ _ => ⟨rfl, rfl⟩, fun _ _ _ => rfl⟩
theorem zlE.tr {k : Nat} {T : Int} {S S' S'' : SC} (a : zlE k T S S') (b : zlE k T S' S'') : zlE k T S S'' :=
  ⟨b.1.trans a.1, fun t h => ⟨(b.2.1 t h).1.trans (a.2.1 t h).1, (b.2.1 t h).2.trans (a.2.1 t h).2⟩, fun x h0 h => (b.2.2 x h0 h).trans (a.2.2 x h0 h)⟩
theorem zlE.up {k j : Nat} {T : Int} {S S' : SC} (a : zlE k T S S') (h : k ≤ j) : zlE j T S S' := ⟨a.1, fun t ht => a.2.1 t (by omega), a.2.2⟩
theorem zlE.l {k t : Nat} {T : Int} {S S' : SC} {l : List Int} (a : zlE k T S S') (h : t = 0 ∨ k < t) (L : Lst S t l) : Lst S' t l := by
  obtain ⟨h1, h2⟩ := a.2.1 t h
  exact ⟨by rw [h1]; exact L.1, by rw [h2]; exact L.2⟩
theorem zqE.e {t : Nat} {T : Int} {S S' : SC} (a : zqE t S S') (h : 1 ≤ t) : zlE t T S S' := ⟨a.1 4 (by omega), fun u hu => ⟨a.1 (8 + u) (by omega), a.2 (5 + u) (by omega)⟩, fun x _ _ => by rw [a.2 4 (by omega)]⟩
theorem zqE.cc {t : Nat} {T : Int} {S S' : SC} {g : ZG} (a : zqE t S S') (C : zcC S g T) : zcC S' g T := by
  obtain ⟨z, w, hp, hT, hv, h, hne⟩ := C
  exact ⟨a.c z, w, hp, by rw [a.1 5 (by omega)]; exact hT, by rw [a.1 6 (by omega)]; exact hv, h, hne⟩
theorem zc_worthOf {lk : SC → Int32 → Option (Int32 × SC)} {k : Nat} (hk : k < 10) (hlk : ∀ (S : SC) (g : ZG) (T : Int), zcC S g T → ∃ S', lk S (zq k) = some (zq (zqLk k g), S') ∧ zcC S' g T ∧ zlE k T S S') {S : SC} {g : ZG} {T : Int} (C : zcC S g T) {n : Int} (hn : n ∈ g.trs) : ∃ S', fX1_worthOf lk S (zq n) (zq (k + 1)) = some (zq (ZG.val k g n), S') ∧ zcC S' g T ∧ zlE k T S S' := by
  obtain ⟨z, w, hp, hT, hv, ⟨T0, T1, T2⟩, hne⟩ := C
  have hs := zq_hs w
  have t := zt_of w hp hn
  have w' := zw_act w t
  have hp' := zp_act w hp t
  obtain ⟨S9, e9, z9, i9, k9, r9, p9⟩ := zc_perform z w hp t hT ⟨T0, by omega⟩ T2
  have R9 : ∀ S5 : SC, (∀ x : Int, 0 ≤ x → x < 5 * (T + 1) → S5.2 4 x.toNat = S9.2 4 x.toNat) → ZR S5 g n T := by
    intro S5 h
    refine ⟨?_, ?_, ?_, ?_, ?_⟩
    · rw [h _ (by omega) (by omega), p9 _ (by omega), if_pos rfl]
    · rw [h _ (by omega) (by omega), p9 _ (by omega), if_neg (by omega), if_pos rfl]
    · rw [h _ (by omega) (by omega), p9 _ (by omega), if_neg (by omega), if_neg (by omega), if_pos rfl]
    · rw [h _ (by omega) (by omega), p9 _ (by omega), if_neg (by omega), if_neg (by omega), if_neg (by omega), if_pos rfl]
    · rw [h _ (by omega) (by omega), p9 _ (by omega), if_neg (by omega), if_neg (by omega), if_neg (by omega), if_neg (by omega), if_pos rfl]
  -- from a board behind the turn back to the one ahead of it
  have back : ∀ (S5 : SC) (v : Int), ZC S5 (g.act n) → S5.1 5 = zq (T + 1) → zlE k (T + 1) S9 S5 → ∃ S', fX1_worthOf_j26 lk (zq v) S5 = some (zq v, S') ∧ zcC S' g T ∧ zlE k T S S' := by
    intro S5 v z5 i5 E5
    obtain ⟨S', e', z', a5, a6, k', r'⟩ := zc_undo w t z5 i5 ⟨T0, by omega⟩ (R9 S5 E5.2.2)
    refine ⟨S', ?_, ⟨z', w, hp, a5, a6, ⟨T0, T1, T2⟩, hne⟩, ?_, ?_, ?_⟩
    · unfold fX1_worthOf_j26
      rw [e', zq_bnd]
    · rw [k' 4 (by omega) (by omega) (by omega), E5.1, k9 4 (by omega) (by omega)]
    · intro u hu
      rw [k' (8 + u) (by omega) (by omega) (by omega), r' (5 + u) (by omega), (E5.2.1 u hu).1, (E5.2.1 u hu).2, k9 (8 + u) (by omega) (by omega), r9 (5 + u) (by omega)]
      exact ⟨rfl, rfl⟩
    · intro x x0 x1
      rw [r' 4 (by omega), E5.2.2 x x0 (by omega), p9 x x0, if_neg (by omega), if_neg (by omega), if_neg (by omega), if_neg (by omega), if_neg (by omega)]
  have hm : 0 ≤ g.m ∧ g.m ≤ 1 := by rcases w.m with h | h <;> omega
  unfold fX1_worthOf
  rw [e9, zq_bnd]
  by_cases h : n % 100 = 99 ∨ (g.act n).trs = []
  · rw [if_pos h, zq_setS_same]
    have n1 : ¬ zq g.m = -1 := by rw [zq_m1, zq_eq (by omega)]; omega
    rw [if_neg n1, zq_l1, zq_val1 k g n h]
    exact back _ 1 (z9.v _) (by rw [zq_setS_other _ _ _ _ (by omega)]; exact i9) ⟨by rw [zq_setS_other _ _ _ _ (by omega)], fun u hu => ⟨by rw [zq_setS_other _ _ _ _ (by omega)], rfl⟩, fun _ _ _ => rfl⟩
  · rw [if_neg h, k9 6 (by omega) (by omega), hv, if_pos (show zq (-1) = -1 from rfl), zq_l1, zq_sub, show (k : Int) + 1 - 1 = k by omega]
    have h9 : n % 100 ≠ 99 := fun q => h (Or.inl q)
    have ht : (g.act n).trs ≠ [] := fun q => h (Or.inr q)
    have hs' := zt_hs w t h9
    have em : (g.act n).m = 1 - g.m := rfl
    obtain ⟨S5, e5, C5, E5⟩ := hlk S9 (g.act n) (T + 1) ⟨z9, w', hp', i9, by rw [k9 6 (by omega) (by omega)]; exact hv, ⟨by omega, by omega, by rw [em]; omega⟩, ht⟩
    rw [e5, zq_bnd]
    dsimp only
    rw [zq_neg]
    have ev : ZG.val k g n = - zqLk k (g.act n) := by
      rw [zq_Lk ht]; unfold ZG.val; rw [if_neg h9]
    rw [ev]
    exact back S5 _ C5.1 C5.2.2.2.1 E5
/-- the loop behind the first one -/
theorem zc_look100 {lk : SC → Int32 → Option (Int32 × SC)} {k : Nat} (hk : k < 3) (hlk : ∀ (S : SC) (g : ZG) (T : Int), zcC S g T → ∃ S', lk S (zq k) = some (zq (zqLk k g), S') ∧ zcC S' g T ∧ zlE k T S S') {S : SC} {g : ZG} {T : Int} (C : zcC S g T) (Ls : Lst S (k + 1) g.trs) {u : Int} (hu : 0 ≤ u ∧ u ≤ 1) (hub : ∀ x ∈ g.trs, ZG.val k g x ≤ u) :
    ∃ S', fX1_look_j92 lk (zq (k + 1)) (k + 1) (zq u) S = some (zq (ZG.V (k + 1) g), S') ∧ zcC S' g T ∧ zlE (k + 1) T S S' := by
  have cap := zq_cap C.2.1 C.2.2.1
  unfold fX1_look_j92
  obtain ⟨r, e, S', q1, q2, q3⟩ := zq_forE (b := fX1_look_b100 lk (zq (k + 1)) (k + 1) (zq u)) (s := (-1, 0, S)) (fun i s => s.1 = zq (zqMx (g.trs.take i) (ZG.val k g)) ∧ s.2.1 = zq i ∧ zcC s.2.2 g T ∧ zlE k T S s.2.2) (fun r => ∃ S', r = (zq (ZG.V (k + 1) g), S') ∧ zcC S' g T ∧ zlE (k + 1) T S S') g.trs.length (by omega)
    (by
      rintro i hi ⟨s1, s2, s⟩ ⟨e1, e2, hC, hE⟩
      have e1 : s1 = zq (zqMx (g.trs.take i) (ZG.val k g)) := e1
      have e2 : s2 = zq i := e2
      subst e1 e2
      have hC : zcC s g T := hC
      have hE : zlE k T S s := hE
      have Li := hE.l (Or.inr (by omega)) Ls
      have r1 := zqMx_ge (g.trs.take i) (ZG.val k g)
      have r2 := zqMx_ub (l := g.trs.take i) (f := ZG.val k g) (u := 1) (fun x _ => (zq_val k g x).2) (by omega)
      have r3 := zq_val k g (g.trs[i])
      unfold fX1_look_b100
      dsimp only
      rw [Li.1]
      have q1 : (zq (g.trs.length : Nat) ≤ zq (i : Nat)) = (((g.trs.length : Nat) : Int) ≤ ((i : Nat) : Int)) := zq_le (by omega)
      have q2 : (zq u ≤ zq (zqMx (g.trs.take i) (ZG.val k g))) = (u ≤ zqMx (g.trs.take i) (ZG.val k g)) := zq_le (by omega)
      simp only [q1, q2]
      rw [if_neg (by omega)]
      by_cases hs : u ≤ zqMx (g.trs.take i) (ZG.val k g)
      · rw [if_pos hs]
        exact Or.inr ⟨_, rfl, s, by rw [zqMx_stop hub (by omega) hs]; rfl, hC, hE.up (by omega)⟩
      · rw [if_neg hs, zl_at Li cap hi, zq_bnd]
        obtain ⟨s', e', C', E'⟩ := zc_worthOf (by omega) hlk hC (n := g.trs[i]) (List.getElem_mem hi)
        rw [e', zq_bnd]
        refine Or.inl ⟨(zq (zqMx (g.trs.take (i + 1)) (ZG.val k g)), zq ((i : Int) + 1), s'), ?_, rfl, rfl, C', hE.tr E'⟩
        have q3 : (zq (zqMx (g.trs.take i) (ZG.val k g)) < zq (ZG.val k g g.trs[i])) = (zqMx (g.trs.take i) (ZG.val k g) < ZG.val k g g.trs[i]) := zq_lt (by omega)
        rw [zqMx_take hi]
        dsimp only
        simp only [q3]
        rw [zq_nm, zq_ite, zq_l1, zq_add, zq_nm])
    (by
      rintro ⟨s1, s2, s⟩ ⟨e1, e2, hC, hE⟩
      have e1 : s1 = zq (zqMx (g.trs.take g.trs.length) (ZG.val k g)) := e1
      have e2 : s2 = zq (g.trs.length : Nat) := e2
      subst e1 e2
      have hE : zlE k T S s := hE
      have Li := hE.l (Or.inr (by omega)) Ls
      refine ⟨(zq (ZG.V (k + 1) g), s), ?_, s, rfl, hC, hE.up (by omega)⟩
      unfold fX1_look_b100
      dsimp only
      rw [Li.1, List.take_length]
      rw [if_pos (Int32.le_refl _)]; rfl)
    ⟨rfl, rfl, C, zlE.rf⟩
  exact ⟨S', by rw [e, q1], q2, q3⟩
/-- behind the first loop -/
theorem zc_look68 {lk : SC → Int32 → Option (Int32 × SC)} {k : Nat} (hk : k < 3) (hlk : ∀ (S : SC) (g : ZG) (T : Int), zcC S g T → ∃ S', lk S (zq k) = some (zq (zqLk k g), S') ∧ zcC S' g T ∧ zlE k T S S') {S : SC} {g : ZG} {T : Int} (C : zcC S g T) (Ls : Lst S (k + 1) g.trs) :
    ∃ S', fX1_look_j68 lk (zq (k + 1)) (k + 1) (zq (zqMx g.trs (ZG.val 0 g))) S = some (zq (ZG.V (k + 1) g), S') ∧ zcC S' g T ∧ zlE (k + 1) T S S' := by
  have r1 := zqMx_ge g.trs (ZG.val 0 g)
  have r2 := zqMx_ub (l := g.trs) (f := ZG.val 0 g) (u := 1) (fun x _ => (zq_val 0 g x).2) (by omega)
  unfold fX1_look_j68
  simp (disch := omega) only [zq_l0, zq_l1, zq_l2, zq_l3, zq_l4, zq_l5, zq_l6, zq_l8, zq_l10, zq_l25, zq_l29, zq_l30, zq_l32, zq_l50, zq_l63, zq_l99, zq_l100, zq_l125, zq_l200, zq_l338, zq_l505, zq_l6000, zq_l10000, zq_l20, zq_bnd, zq_nm, zq_ck, zq_ex, zq_neg, zq_add, zq_sub, zq_mul, zq_div, zq_lt, zq_le, zq_eq, zq_tn, zq_setA_1, zq_setS_2, if_pos, if_neg, zq_if0, zq_if1, ite_true, ite_false]
  by_cases h1 : (k : Int) + 1 = 1
  · rw [if_pos h1]
    obtain rfl : k = 0 := by omega
    exact ⟨S, rfl, C, zlE.rf⟩
  · rw [if_neg h1]
    by_cases hm : zqMx g.trs (ZG.val 0 g) = 1
    · rw [if_pos hm]
      refine ⟨S, ?_, C, zlE.rf⟩
      rcases zqMx_or g.trs (ZG.val 0 g) with e | ⟨x, hx, e⟩
      · omega
      · rw [hm, zq_val0] at e
        have hw : x % 100 = 99 ∨ (g.act x).trs = [] := Classical.byContradiction fun hn => by rw [if_neg hn] at e; omega
        have h2 := zqMx_le (f := ZG.val k g) hx
        rw [zq_val1 k g x hw, ← zq_V1] at h2
        have h3 := (zq_V (k + 1) g).2.1
        have : ZG.V (k + 1) g = 1 := by omega
        rw [this, hm]
    · rw [if_neg hm]
      have nw : ∀ x ∈ g.trs, ¬ (x % 100 = 99 ∨ (g.act x).trs = []) := by
        intro x hx hw
        have h2 := zqMx_le (f := ZG.val 0 g) hx
        rw [zq_val0, if_pos hw] at h2
        omega
      by_cases h2 : (k : Int) + 1 = 2
      · rw [if_pos h2]
        obtain rfl : k = 1 := by omega
        refine zc_look100 (by omega) hlk C Ls (u := 0) (by omega) ?_
        intro x hx
        have h := nw x hx
        unfold ZG.val
        rw [if_neg (fun q => h (Or.inl q))]
        have := zq_V1nn (g := g.act x) (fun q => h (Or.inr q))
        omega
      · rw [if_neg h2]
        exact zc_look100 (by omega) hlk C Ls (u := 1) (by omega) (fun x _ => (zq_val k g x).2)
theorem zc_look1 {lk : SC → Int32 → Option (Int32 × SC)} {k : Nat} (hk : k < 3) (hl0 : ∀ (S : SC) (g : ZG) (T : Int), zcC S g T → ∃ S', lk S (zq (0 : Nat)) = some (zq (zqLk 0 g), S') ∧ zcC S' g T ∧ zlE 0 T S S') (hlk : ∀ (S : SC) (g : ZG) (T : Int), zcC S g T → ∃ S', lk S (zq k) = some (zq (zqLk k g), S') ∧ zcC S' g T ∧ zlE k T S S') {S : SC} {g : ZG} {T : Int} (C : zcC S g T) :
    ∃ S', fX1_look lk S (zq (k + 1)) = some (zq (ZG.V (k + 1) g), S') ∧ zcC S' g T ∧ zlE (k + 1) T S S' := by
  have cap := zq_cap C.2.1 C.2.2.1
  have hs := zq_hs C.2.1
  obtain ⟨z, w, hp, hT, hv, ⟨T0, T1, T2⟩, hne⟩ := id C
  have hmm : S.1 5 - S.1 5 / 2 * 2 = zq g.m := by
    rw [hT]
    simp (disch := omega) only [zq_l0, zq_l1, zq_l2, zq_l3, zq_l4, zq_l5, zq_l6, zq_l8, zq_l10, zq_l25, zq_l29, zq_l30, zq_l32, zq_l50, zq_l63, zq_l99, zq_l100, zq_l125, zq_l200, zq_l338, zq_l505, zq_l6000, zq_l10000, zq_l20, zq_bnd, zq_nm, zq_ck, zq_ex, zq_neg, zq_add, zq_sub, zq_mul, zq_div, zq_lt, zq_le, zq_eq, zq_tn, zq_setA_1, zq_setS_2, if_pos, if_neg, zq_if0, zq_if1, ite_true, ite_false, show T - T / 2 * 2 = g.m by omega]
  obtain ⟨S0, e0, L0, E0⟩ := zl_listTurns (t := k + 1) z w hp hmm hv cap
  have C0 := E0.cc C
  have lf : fX1_listFor S (zq (k + 1)) = some (k + 1) := by
    unfold fX1_listFor
    simp (disch := omega) only [zq_l0, zq_l1, zq_l2, zq_l3, zq_l4, zq_l5, zq_l6, zq_l8, zq_l10, zq_l25, zq_l29, zq_l30, zq_l32, zq_l50, zq_l63, zq_l99, zq_l100, zq_l125, zq_l200, zq_l338, zq_l505, zq_l6000, zq_l10000, zq_l20, zq_bnd, zq_nm, zq_ck, zq_ex, zq_neg, zq_add, zq_sub, zq_mul, zq_div, zq_lt, zq_le, zq_eq, zq_tn, zq_setA_1, zq_setS_2, if_pos, if_neg, zq_if0, zq_if1, ite_true, ite_false]
    rcases (show k = 0 ∨ k = 1 ∨ k = 2 by omega) with rfl | rfl | rfl <;> rfl
  unfold fX1_look
  rw [lf]
  simp (disch := omega) only [zq_l0, zq_l1, zq_l2, zq_l3, zq_l4, zq_l5, zq_l6, zq_l8, zq_l10, zq_l25, zq_l29, zq_l30, zq_l32, zq_l50, zq_l63, zq_l99, zq_l100, zq_l125, zq_l200, zq_l338, zq_l505, zq_l6000, zq_l10000, zq_l20, zq_bnd, zq_nm, zq_ck, zq_ex, zq_neg, zq_add, zq_sub, zq_mul, zq_div, zq_lt, zq_le, zq_eq, zq_tn, zq_setA_1, zq_setS_2, if_pos, if_neg, zq_if0, zq_if1, ite_true, ite_false, e0]
  rw [zq_cp _ (show k + 1 < 4 by omega)]
  obtain ⟨r, e, S', q1, q2, q3⟩ := zq_forE (b := fX1_look_b28 lk (zq (k + 1)) (k + 1)) (s := (-1, 0, S0)) (fun i s => s.1 = zq (zqMx (g.trs.take i) (ZG.val 0 g)) ∧ s.2.1 = zq i ∧ zcC s.2.2 g T ∧ zlE 0 T S0 s.2.2) (fun r => ∃ S', r = (zq (ZG.V (k + 1) g), S') ∧ zcC S' g T ∧ zlE (k + 1) T S S') g.trs.length (by omega)
    (by
      rintro i hi ⟨s1, s2, s⟩ ⟨e1, e2, hC, hE⟩
      have e1 : s1 = zq (zqMx (g.trs.take i) (ZG.val 0 g)) := e1
      have e2 : s2 = zq i := e2
      subst e1 e2
      have hC : zcC s g T := hC
      have hE : zlE 0 T S0 s := hE
      have Li := hE.l (Or.inr (by omega)) L0
      have r1 := zqMx_ge (g.trs.take i) (ZG.val 0 g)
      have r2 := zqMx_ub (l := g.trs.take i) (f := ZG.val 0 g) (u := 1) (fun x _ => (zq_val 0 g x).2) (by omega)
      have r3 := zq_val 0 g (g.trs[i])
      unfold fX1_look_b28
      dsimp only
      rw [Li.1]
      have q1 : (zq (g.trs.length : Nat) ≤ zq (i : Nat)) = (((g.trs.length : Nat) : Int) ≤ ((i : Nat) : Int)) := zq_le (by omega)
      have q2 : ((1 : Int32) ≤ zq (zqMx (g.trs.take i) (ZG.val 0 g))) = (1 ≤ zqMx (g.trs.take i) (ZG.val 0 g)) := by rw [zq_l1]; exact zq_le (by omega)
      simp only [q1, q2]
      rw [if_neg (by omega)]
      by_cases hst : 1 ≤ zqMx (g.trs.take i) (ZG.val 0 g)
      · rw [if_pos hst, zqMx_stop (fun x _ => (zq_val 0 g x).2) (by omega) hst]
        obtain ⟨S', e', C', E'⟩ := zc_look68 hk hlk hC Li
        exact Or.inr ⟨_, by rw [e']; rfl, S', rfl, C', ((E0.e (by omega)).tr (hE.up (by omega))).tr E'⟩
      · rw [if_neg hst, zl_at Li cap hi, zq_bnd]
        obtain ⟨s', e', C', E'⟩ := zc_worthOf (k := 0) (by omega) hl0 hC (n := g.trs[i]) (List.getElem_mem hi)
        rw [show zq (((0 : Nat) : Int) + 1) = 1 from rfl] at e'
        rw [e', zq_bnd]
        refine Or.inl ⟨(zq (zqMx (g.trs.take (i + 1)) (ZG.val 0 g)), zq ((i : Int) + 1), s'), ?_, rfl, rfl, C', hE.tr E'⟩
        have q3 : (zq (zqMx (g.trs.take i) (ZG.val 0 g)) < zq (ZG.val 0 g g.trs[i])) = (zqMx (g.trs.take i) (ZG.val 0 g) < ZG.val 0 g g.trs[i]) := zq_lt (by omega)
        rw [zqMx_take hi]
        dsimp only
        simp only [q3]
        rw [zq_nm, zq_ite, zq_l1, zq_add, zq_nm])
    (by
      rintro ⟨s1, s2, s⟩ ⟨e1, e2, hC, hE⟩
      have e1 : s1 = zq (zqMx (g.trs.take g.trs.length) (ZG.val 0 g)) := e1
      have e2 : s2 = zq (g.trs.length : Nat) := e2
      subst e1 e2
      have hC : zcC s g T := hC
      have hE : zlE 0 T S0 s := hE
      have Li := hE.l (Or.inr (by omega)) L0
      obtain ⟨S', e', C', E'⟩ := zc_look68 hk hlk hC Li
      refine ⟨(zq (ZG.V (k + 1) g), S'), ?_, S', rfl, C', ((E0.e (by omega)).tr (hE.up (by omega))).tr E'⟩
      unfold fX1_look_b28
      dsimp only
      rw [Li.1, List.take_length]
      rw [if_pos (Int32.le_refl _), e']; rfl)
    ⟨rfl, rfl, C0, zlE.rf⟩
  rw [zq_m1, zq_l0] at e
  exact ⟨S', by rw [e, q1], q2, q3⟩
theorem zc_look0 (lk : SC → Int32 → Option (Int32 × SC)) {S : SC} {g : ZG} {T : Int} (C : zcC S g T) : ∃ S', fX1_look lk S (zq (0 : Nat)) = some (zq (zqLk 0 g), S') ∧ zcC S' g T ∧ zlE 0 T S S' := by
  refine ⟨S, ?_, C, zlE.rf⟩
  unfold fX1_look
  rw [if_pos (show zq ((0 : Nat) : Int) ≤ 0 from Int32.le_refl _)]; rfl
theorem zc_lookN : ∀ (k m : Nat), k ≤ 3 → k ≤ m → ∀ (S : SC) (g : ZG) (T : Int), zcC S g T → ∃ S', fX1_lookN (m + 1) S (zq k) = some (zq (zqLk k g), S') ∧ zcC S' g T ∧ zlE k T S S'
  | 0, m, _, _, S, g, T, C => zc_look0 (fX1_lookN m) C
  | k + 1, m, h3, hm, S, g, T, C => by
    obtain ⟨m, rfl⟩ : ∃ j, m = j + 1 := ⟨m - 1, by omega⟩
    have h := zc_look1 (lk := fX1_lookN (m + 1)) (k := k) (by omega) (fun S g T C => zc_look0 (fX1_lookN m) C) (fun S g T C => zc_lookN k m (by omega) (by omega) S g T C) C
    exact h
/-! the reference looks ahead -/
def zqGo {σ ρ : Type} (b : σ → Option (σ ⊕ ρ)) (s s' : σ) (c : Nat) : Prop := ∀ n, loop b (n + c) s = loop b n s'
theorem zqGo.rf {σ ρ : Type} {b : σ → Option (σ ⊕ ρ)} {s : σ} : zqGo b s s 0 := fun n => rfl
theorem zqGo.one {σ ρ : Type} {b : σ → Option (σ ⊕ ρ)} {s s' : σ} (h : b s = some (.inl s')) : zqGo b s s' 1 := fun n => zq_loop1 h
theorem zqGo.tr {σ ρ : Type} {b : σ → Option (σ ⊕ ρ)} {s s' s'' : σ} {c c' : Nat} (h : zqGo b s s' c) (h' : zqGo b s' s'' c') : zqGo b s s'' (c + c') := fun n => by
  rw [show n + (c + c') = (n + c') + c by omega, h, h']
/-- nothing of the levels up to L is changed, but the numbers and bests of L -/
def zmL (L : Int) (M M' : SC) : Prop := (∀ k, k ≠ 7 → M'.1 k = M.1 k) ∧ M'.2 0 = M.2 0 ∧ M'.2 5 = M.2 5 ∧ (∀ x : Int, 0 ≤ x → x < 25 * L + 25 → M'.2 1 x.toNat = M.2 1 x.toNat) ∧ (∀ x : Int, 0 ≤ x → x < 4 * L + 4 → M'.2 2 x.toNat = M.2 2 x.toNat) ∧
  (∀ x : Int, 0 ≤ x → x ≤ L → M'.2 3 x.toNat = M.2 3 x.toNat) ∧ (∀ x : Int, 0 ≤ x → x ≤ L → M'.2 4 x.toNat = M.2 4 x.toNat) ∧ (∀ x : Int, 0 ≤ x → x < L → M'.2 6 x.toNat = M.2 6 x.toNat) ∧ (∀ x : Int, 0 ≤ x → x < L → M'.2 7 x.toNat = M.2 7 x.toNat)
theorem zmL.rf {L : Int} {M : SC} : zmL L M M := ⟨fun _ _ => rfl, rfl, rfl, fun _ _ _ => rfl, fun _ _ _ => rfl, fun _ _ _ => rfl, fun _ _ _ => rfl, fun _ _ _ => rfl, fun _ _ _ => rfl⟩
theorem zmL.tr {L : Int} {M M' M'' : SC} (a : zmL L M M') (b : zmL L M' M'') : zmL L M M'' := by
  obtain ⟨a0, a1, a2, a3, a4, a5, a6, a7, a8⟩ := a
  obtain ⟨b0, b1, b2, b3, b4, b5, b6, b7, b8⟩ := b
  exact ⟨fun k h => (b0 k h).trans (a0 k h), b1.trans a1, b2.trans a2, fun x h0 h => (b3 x h0 h).trans (a3 x h0 h), fun x h0 h => (b4 x h0 h).trans (a4 x h0 h), fun x h0 h => (b5 x h0 h).trans (a5 x h0 h), fun x h0 h => (b6 x h0 h).trans (a6 x h0 h), fun x h0 h => (b7 x h0 h).trans (a7 x h0 h), fun x h0 h => (b8 x h0 h).trans (a8 x h0 h)⟩
theorem zmL.dn {L K : Int} {M M' : SC} (h : L ≤ K) (a : zmL K M M') : zmL L M M' := by
  obtain ⟨a0, a1, a2, a3, a4, a5, a6, a7, a8⟩ := a
  exact ⟨a0, a1, a2, fun x h0 h => a3 x h0 (by omega), fun x h0 h => a4 x h0 (by omega), fun x h0 h => a5 x h0 (by omega), fun x h0 h => a6 x h0 (by omega), fun x h0 h => a7 x h0 (by omega), fun x h0 h => a8 x h0 (by omega)⟩
theorem zmL.z {L K : Int} {M M' : SC} {g : ZG} (a : zmL L M M') (hK : 0 ≤ K ∧ K ≤ L) (z : ZM M K g) : ZM M' K g := by
  obtain ⟨a0, a1, a2, a3, a4, a5, a6, a7, a8⟩ := a
  exact ⟨by rw [a0 1 (by omega)]; exact z.R, by rw [a0 2 (by omega)]; exact z.C, by rw [a0 3 (by omega)]; exact z.B, by rw [a1]; exact z.p0, by rw [a1]; exact z.p1, fun c c0 c1 => by rw [a3 _ (by omega) (by omega)]; exact z.h c c0 c1, fun c c0 c1 => by rw [a4 _ (by omega) (by omega)]; exact z.a c c0 c1, by rw [a5 _ hK.1 hK.2]; exact z.m, by rw [a6 _ hK.1 hK.2]; exact z.b⟩
theorem zmE.l {L K : Int} {M M' : SC} (h : L < K) (a : zmE K M M') : zmL L M M' := by
  obtain ⟨a0, a1, a2, a3, a4, a5⟩ := a
  exact ⟨fun k _ => a0 k, a1 0 (by omega) (by omega) (by omega) (by omega), a1 5 (by omega) (by omega) (by omega) (by omega), fun x h0 h => a2 x h0 (by omega), fun x h0 h => a3 x h0 (by omega), fun x h0 h => a4 x h0 (by omega), fun x h0 h => a5 x h0 (by omega), fun x _ _ => by rw [a1 6 (by omega) (by omega) (by omega) (by omega)], fun x _ _ => by rw [a1 7 (by omega) (by omega) (by omega) (by omega)]⟩
theorem zmL_6 {L K : Int} (hK : 0 ≤ K ∧ K < 5) (h : L ≤ K) (S : SC) (v : Int32) : zmL L S (setA S 6 (zq K) v) :=
  ⟨fun _ _ => rfl, zq_setA_other _ _ _ _ _ (by omega), zq_setA_other _ _ _ _ _ (by omega), fun x _ _ => by rw [zq_setA_other _ _ _ _ _ (by omega)], fun x _ _ => by rw [zq_setA_other _ _ _ _ _ (by omega)], fun x _ _ => by rw [zq_setA_other _ _ _ _ _ (by omega)], fun x _ _ => by rw [zq_setA_other _ _ _ _ _ (by omega)], fun x x0 x1 => by rw [zq_wr _ _ _ _ (by omega) x0, if_neg (by omega)], fun x _ _ => by rw [zq_setA_other _ _ _ _ _ (by omega)]⟩
theorem zmL_7 {L K : Int} (hK : 0 ≤ K ∧ K < 5) (h : L ≤ K) (S : SC) (v : Int32) : zmL L S (setA S 7 (zq K) v) :=
  ⟨fun _ _ => rfl, zq_setA_other _ _ _ _ _ (by omega), zq_setA_other _ _ _ _ _ (by omega), fun x _ _ => by rw [zq_setA_other _ _ _ _ _ (by omega)], fun x _ _ => by rw [zq_setA_other _ _ _ _ _ (by omega)], fun x _ _ => by rw [zq_setA_other _ _ _ _ _ (by omega)], fun x _ _ => by rw [zq_setA_other _ _ _ _ _ (by omega)], fun x _ _ => by rw [zq_setA_other _ _ _ _ _ (by omega)], fun x x0 x1 => by rw [zq_wr _ _ _ _ (by omega) x0, if_neg (by omega)]⟩
theorem zmL_s {L : Int} (S : SC) (v : Int32) : zmL L S (setS S 7 v) := ⟨fun k h => zq_setS_other _ _ _ _ h, rfl, rfl, fun _ _ _ => rfl, fun _ _ _ => rfl, fun _ _ _ => rfl, fun _ _ _ => rfl, fun _ _ _ => rfl, fun _ _ _ => rfl⟩
theorem zm_open {M : SC} {L : Int} (hL : 0 ≤ L ∧ L < 5) : fX4_open M (zq L) = some (setA (setA M 6 (zq L) (zq (-1))) 7 (zq L) (zq (-2))) := by
  unfold fX4_open
  simp (disch := omega) only [zq_l0, zq_l1, zq_l2, zq_l3, zq_l4, zq_l5, zq_l6, zq_l8, zq_l10, zq_l25, zq_l29, zq_l30, zq_l32, zq_l50, zq_l63, zq_l99, zq_l100, zq_l125, zq_l200, zq_l338, zq_l505, zq_l6000, zq_l10000, zq_l20, zq_bnd, zq_nm, zq_ck, zq_ex, zq_neg, zq_add, zq_sub, zq_mul, zq_div, zq_lt, zq_le, zq_eq, zq_tn, zq_setA_1, zq_setS_2, if_pos, if_neg, zq_if0, zq_if1, ite_true, ite_false, zq_m1, zq_m2]
/-- the best so far, i turns seen -/
def zqBs (g : ZG) (d i : Nat) : Int := if i = 0 then -2 else zqMx (g.trs.take i) (ZG.val d g)
/-- the turn that got it -/
def zqFd (g : ZG) (d i : Nat) (F : Int32) : Prop := i = 0 ∨ ∃ j, j < i ∧ F = zq (g.tr j) ∧ ZG.val d g (g.tr j) = zqMx (g.trs.take i) (ZG.val d g) ∧ ∀ k, k < j → ZG.val d g (g.tr k) < zqMx (g.trs.take i) (ZG.val d g)
def zmSt (g : ZG) (L : Int) (d : Nat) (M0 M : SC) (i : Nat) : Prop := zmL L M0 M ∧ M.2 6 L.toNat = zq (if i = 0 then -1 else g.tr (i - 1)) ∧ M.2 7 L.toNat = zq (zqBs g d i) ∧ (L ≠ 0 → M.1 7 = M0.1 7) ∧ (L = 0 → zqFd g d i (M.1 7))
theorem zqBs_r (g : ZG) (d i : Nat) : -2 ≤ zqBs g d i ∧ zqBs g d i ≤ 1 := by
  unfold zqBs
  have h1 := zqMx_ge (g.trs.take i) (ZG.val d g)
  have h2 := zqMx_ub (l := g.trs.take i) (f := ZG.val d g) (u := 1) (fun x _ => (zq_val d g x).2) (by omega)
  split <;> omega
theorem zqBs_s {g : ZG} {d i : Nat} (hi : i < g.trs.length) : zqBs g d (i + 1) = if zqBs g d i < ZG.val d g (g.tr i) then ZG.val d g (g.tr i) else zqBs g d i := by
  have hv := zq_val d g (g.tr i)
  have e := zqMx_take (f := ZG.val d g) hi
  rw [← zq_tr hi] at e
  unfold zqBs
  rw [if_neg (by omega), e]
  by_cases h0 : i = 0
  · subst h0
    rw [if_pos rfl, List.take_zero, zqMx_nil]
    split <;> split <;> omega
  · rw [if_neg h0]
/-- a value is taken -/
theorem zm_take {M M0 : SC} {g : ZG} {L : Int} {d i : Nat} (hL : 0 ≤ L ∧ L < 5) (hi : i < g.trs.length) (E : zmL L M0 M) (h6 : M.2 6 L.toNat = zq (g.tr i)) (h7 : M.2 7 L.toNat = zq (zqBs g d i)) (h8 : L ≠ 0 → M.1 7 = M0.1 7) (h9 : L = 0 → zqFd g d i (M.1 7)) :
    ∃ M', fX4_take M (zq L) (zq (ZG.val d g (g.tr i))) = some M' ∧ zmSt g L d M0 M' (i + 1) := by
  have hv := zq_val d g (g.tr i)
  have hb := zqBs_r g d i
  have es := zqBs_s (d := d) hi
  unfold fX4_take fX4_take_j35
  simp (disch := omega) only [zq_l0, zq_l1, zq_l2, zq_l3, zq_l4, zq_l5, zq_l6, zq_l8, zq_l10, zq_l25, zq_l29, zq_l30, zq_l32, zq_l50, zq_l63, zq_l99, zq_l100, zq_l125, zq_l200, zq_l338, zq_l505, zq_l6000, zq_l10000, zq_l20, zq_bnd, zq_nm, zq_ck, zq_ex, zq_neg, zq_add, zq_sub, zq_mul, zq_div, zq_lt, zq_le, zq_eq, zq_tn, zq_setA_1, zq_setS_2, if_pos, if_neg, zq_if0, zq_if1, ite_true, ite_false, h7]
  by_cases hle : ZG.val d g (g.tr i) ≤ zqBs g d i
  · rw [if_pos hle]
    rw [if_neg (by omega)] at es
    refine ⟨M, rfl, E, by rw [if_neg (by omega)]; exact h6, by rw [es]; exact h7, h8, fun h => ?_⟩
    rcases h9 h with h0 | ⟨j, hj, q1, q2, q3⟩
    · subst h0
      unfold zqBs at hle
      rw [if_pos rfl] at hle
      omega
    · have ee : zqMx (g.trs.take (i + 1)) (ZG.val d g) = zqMx (g.trs.take i) (ZG.val d g) := by
        unfold zqBs at es
        rw [if_neg (by omega), if_neg (by omega)] at es; exact es
      exact Or.inr ⟨j, by omega, q1, by rw [ee]; exact q2, by rw [ee]; exact q3⟩
  · rw [if_neg hle]
    rw [if_pos (by omega)] at es
    have ee : zqMx (g.trs.take (i + 1)) (ZG.val d g) = ZG.val d g (g.tr i) := by
      unfold zqBs at es
      rw [if_neg (by omega)] at es; exact es
    have mk : ∀ F : Int32, (L ≠ 0 → F = M0.1 7) → (L = 0 → F = zq (g.tr i)) → zmSt g L d M0 (setS (setA M 7 (zq L) (zq (ZG.val d g (g.tr i)))) 7 F) (i + 1) := by
      intro F hF1 hF2
      refine ⟨(E.tr (zmL_7 hL (Int.le_refl L) M _)).tr (zmL_s _ _), ?_, ?_, ?_, ?_⟩
      · rw [zq_setS_2, zq_setA_other _ _ _ _ _ (by omega), if_neg (by omega)]; exact h6
      · rw [zq_setS_2, zq_wr _ _ _ _ (by omega) hL.1, if_pos ⟨rfl, rfl⟩, es]
      · intro h; rw [zq_setS_same]; exact hF1 h
      · intro h
        rw [zq_setS_same]
        refine Or.inr ⟨i, by omega, hF2 h, ee.symm, fun k hk => ?_⟩
        have hk2 : g.tr k ∈ g.trs.take i := by
          rw [zq_tr (by omega), List.mem_take_iff_getElem]
          exact ⟨k, by omega, rfl⟩
        have h1 := zqMx_le (f := ZG.val d g) hk2
        unfold zqBs at hle
        rw [if_neg (by omega)] at hle
        rw [ee]; omega
    by_cases h0 : L = 0
    · rw [if_pos h0]
      refine ⟨_, rfl, mk _ (fun h => absurd h0 h) (fun _ => ?_)⟩
      rw [zq_setA_other _ _ _ _ _ (by omega)]
      rw [h0] at h6
      exact h6
    · rw [if_neg h0]
      exact ⟨_, rfl, mk _ (fun h => h8 h) (fun h => absurd h h0)⟩
theorem zm_lookNext {M0 M : SC} {g : ZG} {L : Int} {d i : Nat} (z0 : ZM M0 L g) (w : ZW g) (hp : ZP g) (hL : 0 ≤ L ∧ L < 5) (St : zmSt g L d M0 M i) (hi : i ≤ g.trs.length) : fX4_nextTurn M (zq L) (M.2 6 L.toNat) = some (zq (g.tr i)) := by
  have z := St.1.z ⟨hL.1, Int.le_refl _⟩ z0
  rw [St.2.1]
  by_cases h0 : i = 0
  · rw [if_pos h0, h0]; exact zm_next0 z w hp hL
  · rw [if_neg h0]
    have := zm_next1 z w hp hL (i := i - 1) (by omega)
    rw [show i - 1 + 1 = i by omega] at this
    exact this
theorem zm_lookEnd {M0 M : SC} {g : ZG} {L tn : Int} {d i : Nat} (z0 : ZM M0 L g) (w : ZW g) (hp : ZP g) (hL : 0 ≤ L ∧ L < 5) (St : zmSt g L d M0 M i) (hi : i ≤ g.trs.length) (h : zqBs g d i = 1 ∨ i = g.trs.length) : fX4_look_b7 (zq tn) (zq L, M) = fX4_look_j130 (zq tn) (zq L) (zq (ZG.V (d + 1) g)) M ∧ (zqBs g d i = -2 ∨ zqBs g d i = ZG.V (d + 1) g) := by
  have hb := zqBs_r g d i
  have nx := zm_lookNext z0 w hp hL St hi
  have b7 := St.2.2.1
  have ev : (if zqBs g d i = -2 then -1 else zqBs g d i) = ZG.V (d + 1) g := by
    rw [zq_V1]
    unfold zqBs at h ⊢
    by_cases h0 : i = 0
    · rw [if_pos h0] at h ⊢
      rw [if_pos rfl]
      have : g.trs = [] := List.length_eq_zero_iff.mp (by omega)
      rw [this]; rfl
    · rw [if_neg h0] at h ⊢
      have := zqMx_ge (g.trs.take i) (ZG.val d g)
      rw [if_neg (by omega)]
      rcases h with h | h
      · exact zqMx_stop (fun x _ => (zq_val d g x).2) (by omega) (by omega)
      · rw [h, List.take_length]
  have j52 : fX4_look_j52 (zq tn) (zq L) (zq (-1)) M = fX4_look_j130 (zq tn) (zq L) (zq (ZG.V (d + 1) g)) M := by
    rw [← ev]
    have q1 : (zq (zqBs g d i) = -2) = (zqBs g d i = -2) := by rw [zq_m2]; exact zq_eq (by omega)
    unfold fX4_look_j52
    rw [zq_m1, if_pos rfl, zq_ck _ (by omega), zq_ck _ (by omega), zq_tn (by omega), b7]
    simp only [q1]
    by_cases h2 : zqBs g d i = -2
    · rw [if_pos h2, if_pos h2]
    · rw [if_neg h2, if_neg h2]
  refine ⟨?_, by revert ev; split <;> intro ev <;> omega⟩
  unfold fX4_look_b7 fX4_look_j32
  dsimp only
  rw [zq_ck _ (by omega), zq_ck _ (by omega), zq_tn (by omega), b7, nx, zq_bnd, zq_m1, if_pos rfl]
  by_cases h1 : zqBs g d i = 1
  · rw [h1, if_pos (show zq 1 = 1 from rfl), j52]
  · have hl := h.resolve_left h1
    have n1 : ¬ zq (zqBs g d i) = 1 := by rw [zq_l1, zq_eq (by omega)]; exact h1
    have et : g.tr i = -1 := zq_trn (by omega)
    rw [if_neg n1, et, if_pos rfl, zq_ck _ (by omega), j52]
/-- one turn is looked at -/
theorem zm_lookStep {M0 M : SC} {g : ZG} {L tn : Int} {d i Cb : Nat} (z0 : ZM M0 L g) (w : ZW g) (hp : ZP g) (hL : 0 ≤ L ∧ L < 4) (htn : L < tn ∧ tn < 5)
    (H : ∀ (M : SC) (g : ZG), ZM M (L + 1) g → ZW g → ZP g → M.2 6 (L + 1).toNat = zq (-1) → M.2 7 (L + 1).toNat = zq (-2) → ∃ c M1 M3, c ≤ Cb ∧ zqGo (fX4_look_b7 (zq tn)) (zq (L + 1), M) (zq (L + 1), M1) c ∧ fX4_look_b7 (zq tn) (zq (L + 1), M1) = fX4_look_j130 (zq tn) (zq (L + 1)) (zq (ZG.V d g)) M3 ∧ zmL (L + 1) M M3 ∧ M3.1 7 = M.1 7)
    (St : zmSt g L d M0 M i) (hi : i < g.trs.length) (h1 : zqBs g d i ≠ 1) :
    ∃ c M', c ≤ Cb + 2 ∧ zqGo (fX4_look_b7 (zq tn)) (zq L, M) (zq L, M') c ∧ zmSt g L d M0 M' (i + 1) := by
  have hb := zqBs_r g d i
  have hB := w.B
  have nx := zm_lookNext z0 w hp (by omega) St (by omega)
  have hn := zq_trm hi
  have hr := zq_hi w hn
  obtain ⟨p1, p2, p3⟩ := zq_parts (n := g.tr i) (by omega)
  obtain ⟨E, q6, b7, q8, q9⟩ := id St
  have z := E.z ⟨hL.1, Int.le_refl _⟩ z0
  -- the number is kept
  have E1 := E.tr (zmL_6 (L := L) (by omega) (Int.le_refl L) M (zq (g.tr i)))
  have a6 : (setA M 6 (zq L) (zq (g.tr i))).2 6 L.toNat = zq (g.tr i) := by rw [zq_wr _ _ _ _ (by omega) hL.1, if_pos ⟨rfl, rfl⟩]
  have a7 : (setA M 6 (zq L) (zq (g.tr i))).2 7 L.toNat = zq (zqBs g d i) := by rw [zq_setA_other _ _ _ _ _ (by omega)]; exact b7
  have step : fX4_look_b7 (zq tn) (zq L, M) = if zq (g.tr i % 100) = zq 99 then bnd (fX4_take (setA M 6 (zq L) (zq (g.tr i))) (zq L) 1) (fun S => some (.inl (zq L, S))) else bnd (fX4_copy (setA M 6 (zq L) (zq (g.tr i))) (zq L) (zq (L + 1))) (fun S6 => bnd (fX4_act S6 (zq (L + 1)) (zq (g.tr i))) (fun S8 => bnd (fX4_open S8 (zq (L + 1))) (fun S11 => some (.inl (zq (L + 1), S11))))) := by
    have n1 : ¬ zq (zqBs g d i) = 1 := by rw [zq_l1, zq_eq (by omega)]; exact h1
    have n2 : ¬ zq (g.tr i) = zq (-1) := by rw [zq_eq (by omega)]; omega
    have n3 : ¬ zq L = zq tn := by rw [zq_eq (by omega)]; omega
    unfold fX4_look_b7 fX4_look_j32 fX4_look_j52 fX4_look_j150
    dsimp only
    rw [zq_ck _ (by omega), zq_ck _ (by omega), zq_tn (by omega), b7, nx, zq_bnd, zq_m1, if_neg n1, if_neg n2, if_neg n3, if_neg n2, zq_ck _ (by omega), zq_nm, p3, zq_l99, zq_l1, zq_add]
    simp only [zq_nm]
    rw [zq_ck _ (by omega)]
  by_cases h9 : g.tr i % 100 = 99
  · rw [h9, if_pos rfl] at step
    have ev : ZG.val d g (g.tr i) = 1 := by unfold ZG.val; rw [if_pos h9]
    obtain ⟨M', e, S'⟩ := zm_take (d := d) (by omega) hi E1 a6 a7 q8 q9
    rw [ev, ← zq_l1] at e
    rw [e, zq_bnd] at step
    exact ⟨1, M', by omega, zqGo.one step, S'⟩
  · have n9 : ¬ zq (g.tr i % 100) = zq 99 := by rw [zq_eq (by omega)]; exact h9
    rw [if_neg n9] at step
    have t := zt_of w hp hn
    have z1 := E1.z ⟨hL.1, Int.le_refl _⟩ z0
    obtain ⟨M6, e6, z6, E6⟩ := zm_copy (L := L) (K := L + 1) z1 w (by omega) (by omega) (by omega)
    obtain ⟨M8, e8, z8, E8⟩ := zm_act (L := L + 1) z6 w hp (by omega) t
    have eo := zm_open (M := M8) (L := L + 1) (by omega)
    rw [e6, zq_bnd, e8, zq_bnd, eo, zq_bnd] at step
    have L68 := ((zmE.l (L := L) (by omega) E6).tr (zmE.l (L := L) (by omega) E8))
    have Lo : ∀ K, K ≤ L + 1 → zmL K M8 (setA (setA M8 6 (zq (L + 1)) (zq (-1))) 7 (zq (L + 1)) (zq (-2))) := fun K hK => (zmL_6 (by omega) hK M8 _).tr (zmL_7 (by omega) hK _ _)
    have o6 : (setA (setA M8 6 (zq (L + 1)) (zq (-1))) 7 (zq (L + 1)) (zq (-2))).2 6 (L + 1).toNat = zq (-1) := by rw [zq_setA_other _ _ _ _ _ (by omega), zq_wr _ _ _ _ (by omega) (by omega), if_pos ⟨rfl, rfl⟩]
    have o7 : (setA (setA M8 6 (zq (L + 1)) (zq (-1))) 7 (zq (L + 1)) (zq (-2))).2 7 (L + 1).toNat = zq (-2) := by rw [zq_wr _ _ _ _ (by omega) (by omega), if_pos ⟨rfl, rfl⟩]
    have o67 : (setA (setA M8 6 (zq (L + 1)) (zq (-1))) 7 (zq (L + 1)) (zq (-2))).1 7 = M.1 7 := by
      show M8.1 7 = _
      rw [E8.1, E6.1]; rfl
    have o6L : (setA (setA M8 6 (zq (L + 1)) (zq (-1))) 7 (zq (L + 1)) (zq (-2))).2 6 L.toNat = zq (g.tr i) := by
      rw [zq_setA_other _ _ _ _ _ (by omega), zq_wr _ _ _ _ (by omega) (by omega), if_neg (by omega), E8.2.1 6 (by omega) (by omega) (by omega) (by omega), E6.2.1 6 (by omega) (by omega) (by omega) (by omega)]; exact a6
    have o7L : (setA (setA M8 6 (zq (L + 1)) (zq (-1))) 7 (zq (L + 1)) (zq (-2))).2 7 L.toNat = zq (zqBs g d i) := by
      rw [zq_wr _ _ _ _ (by omega) (by omega), if_neg (by omega), zq_setA_other _ _ _ _ _ (by omega), E8.2.1 7 (by omega) (by omega) (by omega) (by omega), E6.2.1 7 (by omega) (by omega) (by omega) (by omega)]; exact a7
    have E9 := (E1.tr L68).tr (Lo L (by omega))
    have z9 := (Lo (L + 1) (by omega)).z (K := L + 1) ⟨by omega, Int.le_refl _⟩ z8
    generalize setA (setA M8 6 (zq (L + 1)) (zq (-1))) 7 (zq (L + 1)) (zq (-2)) = M9 at *
    obtain ⟨c, Ma, Mb, hc, hgo, hb7, hE, hf⟩ := H M9 (g.act (g.tr i)) z9 (zw_act w t) (zp_act w hp t) o6 o7
    have hE' := hE.dn (L := L) (by omega)
    have f6 : Mb.2 6 L.toNat = zq (g.tr i) := by
      rw [hE.2.2.2.2.2.2.2.1 L hL.1 (by omega)]; exact o6L
    have f7 : Mb.2 7 L.toNat = zq (zqBs g d i) := by
      rw [hE.2.2.2.2.2.2.2.2 L hL.1 (by omega)]; exact o7L
    have ff : Mb.1 7 = M.1 7 := hf.trans o67
    obtain ⟨M', e, S'⟩ := zm_take (d := d) (by omega) hi (E9.tr hE') f6 f7 (fun h => ff.trans (q8 h)) (fun h => by rw [ff]; exact q9 h)
    have ev : ZG.val d g (g.tr i) = - ZG.V d (g.act (g.tr i)) := by unfold ZG.val; rw [if_neg h9]
    rw [ev] at e
    have vr := zq_V d (g.act (g.tr i))
    have last : fX4_look_b7 (zq tn) (zq (L + 1), Ma) = some (.inl (zq L, M')) := by
      have n0 : ¬ zq (L + 1) = 0 := by rw [zq_l0, zq_eq (by omega)]; omega
      rw [hb7]
      unfold fX4_look_j130 fX4_look_j150
      rw [if_neg n0, zq_m1, zq_add, show L + 1 + -1 = L by omega, zq_nm, zq_neg, e]
      rfl
    exact ⟨1 + (c + 1), M', by omega, (zqGo.one step).tr (hgo.tr (zqGo.one last)), S'⟩
/-- all the turns of a position -/
theorem zm_lookAll {M0 : SC} {g : ZG} {L tn : Int} {d Cb : Nat} (z0 : ZM M0 L g) (w : ZW g) (hp : ZP g) (hL : 0 ≤ L ∧ L < 4) (htn : L < tn ∧ tn < 5)
    (H : ∀ (M : SC) (g : ZG), ZM M (L + 1) g → ZW g → ZP g → M.2 6 (L + 1).toNat = zq (-1) → M.2 7 (L + 1).toNat = zq (-2) → ∃ c M1 M3, c ≤ Cb ∧ zqGo (fX4_look_b7 (zq tn)) (zq (L + 1), M) (zq (L + 1), M1) c ∧ fX4_look_b7 (zq tn) (zq (L + 1), M1) = fX4_look_j130 (zq tn) (zq (L + 1)) (zq (ZG.V d g)) M3 ∧ zmL (L + 1) M M3 ∧ M3.1 7 = M.1 7) :
    ∀ (j i : Nat) (M : SC), i + j = g.trs.length → zmSt g L d M0 M i → ∃ c M1 i', c ≤ j * (Cb + 2) ∧ zqGo (fX4_look_b7 (zq tn)) (zq L, M) (zq L, M1) c ∧ fX4_look_b7 (zq tn) (zq L, M1) = fX4_look_j130 (zq tn) (zq L) (zq (ZG.V (d + 1) g)) M1 ∧ zmSt g L d M0 M1 i' ∧ (zqBs g d i' = -2 ∨ zqBs g d i' = ZG.V (d + 1) g) ∧ i' ≤ g.trs.length ∧ (zqBs g d i' = 1 ∨ i' = g.trs.length) := by
  intro j
  induction j with
  | zero =>
    intro i M hij St
    obtain ⟨e, q⟩ := zm_lookEnd (tn := tn) z0 w hp (by omega) St (by omega) (Or.inr (by omega))
    exact ⟨0, M, i, by omega, zqGo.rf, e, St, q, by omega, Or.inr (by omega)⟩
  | succ j ih =>
    intro i M hij St
    by_cases h1 : zqBs g d i = 1
    · obtain ⟨e, q⟩ := zm_lookEnd (tn := tn) z0 w hp (by omega) St (by omega) (Or.inl h1)
      exact ⟨0, M, i, by omega, zqGo.rf, e, St, q, by omega, Or.inl h1⟩
    · obtain ⟨c, M', hc, hgo, St'⟩ := zm_lookStep z0 w hp hL htn H St (by omega) h1
      obtain ⟨c2, M1, i', hc2, hgo2, e2, St2, q2, q3⟩ := ih (i + 1) M' (by omega) St'
      exact ⟨c + c2, M1, i', by rw [Nat.add_mul]; omega, hgo.tr hgo2, e2, St2, q2, q3⟩
def zqCb : Nat → Nat
  | 0 => 0
  | d + 1 => 338 * (zqCb d + 2)
theorem zm_j52 {M : SC} {L tn b : Int} (hL : 0 ≤ L ∧ L < 5) (h7 : M.2 7 L.toNat = zq b) (hb : -2 ≤ b ∧ b ≤ 1) : fX4_look_j52 (zq tn) (zq L) (zq (-1)) M = fX4_look_j130 (zq tn) (zq L) (zq (if b = -2 then -1 else b)) M := by
  have q1 : (zq b = -2) = (b = -2) := by rw [zq_m2]; exact zq_eq (by omega)
  unfold fX4_look_j52
  rw [zq_m1, if_pos rfl, zq_ck _ (by omega), zq_ck _ (by omega), zq_tn (by omega), h7]
  simp only [q1]
  by_cases h2 : b = -2
  · rw [if_pos h2, if_pos h2]
  · rw [if_neg h2, if_neg h2]
/-- the last level -/
theorem zm_look0 {M : SC} {g : ZG} {L : Int} (z : ZM M L g) (w : ZW g) (hp : ZP g) (hL : 0 ≤ L ∧ L < 5) (h6 : M.2 6 L.toNat = zq (-1)) (h7 : M.2 7 L.toNat = zq (-2)) : ∃ M3, fX4_look_b7 (zq L) (zq L, M) = fX4_look_j130 (zq L) (zq L) (zq (ZG.V 0 g)) M3 ∧ zmL L M M3 ∧ M3.1 7 = M.1 7 := by
  have nx := zm_next0 (L := L) z w hp hL
  have n1 : ¬ zq (-2) = 1 := by decide
  have st : ∀ M3 : SC, fX4_look_j32 (zq L) (zq L) (zq (g.tr 0)) M = fX4_look_j130 (zq L) (zq L) (zq (ZG.V 0 g)) M3 → fX4_look_b7 (zq L) (zq L, M) = fX4_look_j130 (zq L) (zq L) (zq (ZG.V 0 g)) M3 := by
    intro M3 h
    unfold fX4_look_b7
    dsimp only
    rw [zq_ck _ (by omega), zq_ck _ (by omega), zq_tn (by omega), h6, h7, if_neg n1, nx, zq_bnd]
    exact h
  have eV : ZG.V 0 g = if g.trs = [] then -1 else 0 := rfl
  by_cases ht : g.trs = []
  · have e : g.tr 0 = -1 := zq_trn (by rw [ht]; simp)
    refine ⟨M, st M ?_, zmL.rf, rfl⟩
    rw [eV, if_pos ht, e]
    unfold fX4_look_j32
    rw [zq_m1, if_pos rfl, zm_j52 hL h7 (by omega), if_pos rfl]
  · have hl : 0 < g.trs.length := List.length_pos_iff.mpr ht
    have hh := zq_hi w (zq_trm hl)
    have hB := w.B
    have w7 : (setA M 7 (zq L) (zq 0)).2 7 L.toNat = zq 0 := by rw [zq_wr _ _ _ _ (by omega) (by omega), if_pos ⟨rfl, rfl⟩]
    have n2 : ¬ zq (g.tr 0) = zq (-1) := by rw [zq_eq (by omega)]; omega
    refine ⟨setA M 7 (zq L) (zq 0), st _ ?_, zmL_7 hL (Int.le_refl _) M _, rfl⟩
    rw [eV, if_neg ht]
    unfold fX4_look_j32
    rw [zq_m1, if_neg n2, if_pos rfl, zq_ck _ (by omega), zq_nm, zq_l0, zm_j52 hL w7 (by omega), if_neg (by omega)]
/-- a position at a level above 0 -/
theorem zm_lookUp : ∀ (d : Nat) (L tn : Int), 1 ≤ L → L + d = tn → tn < 5 → ∀ (M : SC) (g : ZG), ZM M L g → ZW g → ZP g → M.2 6 L.toNat = zq (-1) → M.2 7 L.toNat = zq (-2) → ∃ c M1 M3, c ≤ zqCb d ∧ zqGo (fX4_look_b7 (zq tn)) (zq L, M) (zq L, M1) c ∧ fX4_look_b7 (zq tn) (zq L, M1) = fX4_look_j130 (zq tn) (zq L) (zq (ZG.V d g)) M3 ∧ zmL L M M3 ∧ M3.1 7 = M.1 7 := by
  intro d
  induction d with
  | zero =>
    intro L tn h1 h2 h3 M g z w hp h6 h7
    have etn : tn = L := by omega
    rw [etn]
    obtain ⟨M3, e, E, e7⟩ := zm_look0 z w hp (by omega) h6 h7
    exact ⟨0, M, M3, Nat.le_refl _, zqGo.rf, e, E, e7⟩
  | succ d ih =>
    intro L tn h1 h2 h3 M g z w hp h6 h7
    have cap := zq_cap w hp
    have St : zmSt g L d M M 0 := ⟨zmL.rf, h6, h7, fun _ => rfl, fun h => by omega⟩
    obtain ⟨c, M1, i', hc, hgo, e, S1, q, q2, q3⟩ := zm_lookAll (Cb := zqCb d) z w hp (by omega) (by omega) (ih (L + 1) tn (by omega) (by omega) h3) g.trs.length 0 M (by omega) St
    refine ⟨c, M1, M1, ?_, hgo, e, S1.1, S1.2.2.2.1 (by omega)⟩
    refine Nat.le_trans hc ?_
    show _ ≤ 338 * (zqCb d + 2)
    exact Nat.mul_le_mul_right _ cap
/-- the game itself -/
theorem zm_look {M : SC} {g : ZG} (z : ZM M 0 g) (w : ZW g) (hp : ZP g) (ht : g.trs ≠ []) (k : Nat) (hk : k ≤ 3) : ∃ M', fX4_look M (zq k) = some (zq (ZG.V k g), M') ∧ ZM M' 0 g ∧ (∀ j, j ≠ 7 → M'.1 j = M.1 j) ∧ M'.2 5 = M.2 5 ∧ (1 ≤ k → ∃ j, j < g.trs.length ∧ M'.1 7 = zq (g.tr j) ∧ ZG.val (k - 1) g (g.tr j) = ZG.V k g ∧ ∀ i, i < j → ZG.val (k - 1) g (g.tr i) < ZG.V k g) := by
  have op := zm_open (M := M) (L := 0) (by omega)
  have E0 : zmL 0 M (setA (setA M 6 (zq 0) (zq (-1))) 7 (zq 0) (zq (-2))) := (zmL_6 (by omega) (Int.le_refl 0) M _).tr (zmL_7 (by omega) (Int.le_refl 0) _ _)
  have o6 : (setA (setA M 6 (zq 0) (zq (-1))) 7 (zq 0) (zq (-2))).2 6 (Int.toNat 0) = zq (-1) := by rw [zq_setA_other _ _ _ _ _ (by omega), zq_wr _ _ _ _ (by omega) (by omega), if_pos ⟨rfl, rfl⟩]
  have o7 : (setA (setA M 6 (zq 0) (zq (-1))) 7 (zq 0) (zq (-2))).2 7 (Int.toNat 0) = zq (-2) := by rw [zq_wr _ _ _ _ (by omega) (by omega), if_pos ⟨rfl, rfl⟩]
  unfold fX4_look
  rw [zq_l0, op, zq_bnd]
  generalize setA (setA M 6 (zq 0) (zq (-1))) 7 (zq 0) (zq (-2)) = M0 at *
  have z0 := E0.z (K := 0) ⟨Int.le_refl _, Int.le_refl _⟩ z
  have cap := zq_cap w hp
  have fin : ∀ (v : Int) (M3 : SC), fX4_look_j130 (zq k) (zq 0) (zq v) M3 = some (.inr (zq v, M3)) := fun v M3 => by
    unfold fX4_look_j130
    rw [if_pos (show zq 0 = 0 from rfl)]; rfl
  match k, hk with
  | 0, _ =>
    obtain ⟨M3, e, E, e7⟩ := zm_look0 (L := 0) z0 w hp (by omega) o6 o7
    have E1 := E0.tr E
    have st : fX4_look_b7 (zq (0 : Nat)) (zq 0, M0) = some (.inr (zq (ZG.V 0 g), M3)) := e.trans (fin _ _)
    refine ⟨M3, ?_, E1.z ⟨Int.le_refl _, Int.le_refl _⟩ z, E1.1, E1.2.2.1, fun h => absurd h (by omega)⟩
    have eF : FUEL = 999999999999999999 + 1 := by rw [FUEL_is]
    rw [eF, zq_loop0 st]
  | d + 1, hk =>
    have St : zmSt g 0 d M0 M0 0 := ⟨zmL.rf, o6, o7, fun h => absurd rfl h, fun _ => Or.inl rfl⟩
    obtain ⟨c, M1, i', hc, hgo, e, S1, q, q2, q3⟩ := zm_lookAll (L := 0) (tn := ((d + 1 : Nat) : Int)) (Cb := zqCb d) z0 w hp (by omega) (by omega) (fun M g => zm_lookUp d (0 + 1) ((d + 1 : Nat) : Int) (by omega) (by omega) (by omega) M g) g.trs.length 0 M0 (by omega) St
    have E1 := E0.tr S1.1
    refine ⟨M1, ?_, E1.z ⟨Int.le_refl _, Int.le_refl _⟩ z, E1.1, E1.2.2.1, fun _ => ?_⟩
    · rw [fin] at e
      have hb : zqCb d ≤ 300000 := by
        rcases (show d = 0 ∨ d = 1 ∨ d = 2 by omega) with rfl | rfl | rfl <;> decide
      have hc2 : c ≤ 338 * 300002 := Nat.le_trans hc (Nat.mul_le_mul cap (by omega))
      have eF : FUEL = (FUEL - c - 1 + 1) + c := by rw [FUEL_is]; omega
      rw [eF, hgo, zq_loop0 e]
    · have hl : 0 < g.trs.length := List.length_pos_iff.mpr ht
      have hne : i' ≠ 0 := by
        intro h0
        rcases q3 with q3 | q3
        · subst h0
          unfold zqBs at q3
          rw [if_pos rfl] at q3
          omega
        · omega
      rcases S1.2.2.2.2 rfl with h0 | ⟨j, hj, a1, a2, a3⟩
      · exact absurd h0 hne
      · have eb : zqMx (g.trs.take i') (ZG.val d g) = ZG.V (d + 1) g := by
          unfold zqBs at q
          rw [if_neg hne] at q
          have := zqMx_ge (g.trs.take i') (ZG.val d g)
          omega
        rw [eb] at a2 a3
        exact ⟨j, by omega, a1, a2, a3⟩
