set_option maxRecDepth 100000
/-! areTurnsSo -/
theorem za_222 {T : SC} {a : ZA} {n wv : Int} (J' : zyJ T (a.g.act n) a.q wv ((a.g, n) :: a.H)) (hv : a.v = -1) (hq : a.q = 2 * a.g.B) : ∃ S', fL_areTurnsSo_j222 (zq (zyMn a)) (zq a.g.m) (zq a.H.length) 1 T = some (1, S') ∧ zyI S' a := by
  obtain ⟨S1, e1, J1, -⟩ := zy_takeBack1 J'
  have J1 : zyI S1 a := by
    show zyJ S1 a.g a.q a.v a.H
    rw [hv]; exact J1
  obtain ⟨S2, e2, J2⟩ := zt_turnCount a S1 J1
  have o := zy_onTurn J1
  have ot : zqOT a.g.B a.q a.g.m a.v = a.g.m := by
    unfold zqOT
    rw [if_pos hv, if_pos hq]
  rw [ot] at o
  refine ⟨S2, ?_, J2⟩
  unfold fL_areTurnsSo_j222
  rw [if_neg (show ¬ (1 : Int32) = 0 by decide), e1, zq_bndnS, if_pos rfl, o, zq_bnd, if_pos rfl, e2, zq_bnd]
  dsimp only
  rw [if_pos rfl, zy_winner J2, zq_bnd, hv, if_pos (show zq (-1) = -1 from rfl)]
theorem za_201 {T : SC} {a : ZA} {n : Int} (J' : zyJ T (a.g.act n) a.q (zyWv a.g n) ((a.g, n) :: a.H)) (hv : a.v = -1) (hq : a.q = 2 * a.g.B) (w : ZW a.g) : ∃ S', fL_areTurnsSo_j201 (zq (zyMn a)) (zq a.g.m) (zq a.H.length) (zq (zyWv a.g n)) T = some (1, S') ∧ zyI S' a := by
  obtain ⟨S', e, J1⟩ := za_222 J' hv hq
  refine ⟨S', ?_, J1⟩
  have hm := w.m
  have hw : zyWv a.g n = a.g.m ∨ zyWv a.g n = -1 := by
    unfold zyWv; split
    · exact Or.inl rfl
    · exact Or.inr rfl
  unfold fL_areTurnsSo_j201 fL_areTurnsSo_j217
  have q0 : (0 ≤ zq (zyWv a.g n)) = (0 ≤ zyWv a.g n) := by rw [zq_l0]; exact zq_le (by omega)
  simp only [q0]
  by_cases h : 0 ≤ zyWv a.g n
  · rw [if_pos h]; exact e
  · have h1 : zyWv a.g n = -1 := by omega
    have o := zy_onTurn J'
    have ot : zqOT (a.g.act n).B a.q (a.g.act n).m (zyWv a.g n) = 1 - a.g.m := by
      unfold zqOT
      rw [if_pos h1, if_pos (show a.q = 2 * (a.g.act n).B from hq)]; rfl
    rw [ot] at o
    rw [if_neg h, o, zq_bnd, if_pos (show zq (1 - a.g.m) = (1 : Int32) - zq a.g.m by rw [zq_l1, zq_sub])]
    exact e
theorem za_67 {T : SC} {a : ZA} (J : zyI T a) (x2 : Int32) (hM : 1 ≤ zyMn a) (z : Int32) : ∃ S', fL_areTurnsSo_j67 x2 (zq (zyMn a)) z z T = some (1, S') ∧ zyI S' a := by
  have w := zyJ.w J
  have hM2 := zy_Mn J
  have len := zyJ.len J
  have hm := w.m
  have hB := w.B
  have hq : a.q = 2 * a.g.B := Classical.byContradiction fun h => by
    unfold zyMn at hM; rw [if_neg h] at hM; omega
  have hp := zyJ.hp J hq
  have el : zyMn a = (zqTl a.g a.v).length := by unfold zyMn; rw [if_pos hq]
  have hv : a.v = -1 := Classical.byContradiction fun h => by
    unfold zqTl at el; rw [if_neg h] at el; simp at el; omega
  have et : zqTl a.g a.v = a.g.trs := by unfold zqTl; rw [if_pos hv]
  have lo := zq_low x2 (n := zyMn a) (by omega)
  obtain ⟨S1, e1, J1⟩ := zy_turnAt J (x := zqLow x2 (zyMn a)) (by omega)
  rw [if_pos hq, if_pos (by omega)] at e1
  rw [et] at el
  have hj : (zqLow x2 (zyMn a)).toNat < a.g.trs.length := by omega
  have hmem := zq_trm hj
  generalize hn : a.g.tr (zqLow x2 (zyMn a)).toNat = n at *
  have hr := zq_hi w hmem
  obtain ⟨S2, e2, J2, -⟩ := zy_play1 J1 hq (by rw [et]; exact hmem)
  have t := zt_of w hp hmem
  obtain ⟨p1, p2, p3⟩ := zq_parts (n := n) (by omega)
  have b1 := zy_builderAt J2 (x := n / 100 % 100) t.d0
  have bI := zt_bI w t (x := n / 100 % 100) t.d0.1
  rw [if_pos rfl] at bI
  have tk := t.k0
  have hh := zq_holdE bI (by omega)
  have hh2 : (a.g.act n).hold (n / 100 % 100) = 10 * a.g.m + n / 10000 := by rw [hh]; omega
  rw [hh2] at b1
  have o := zy_onTurn J1
  have ot : zqOT a.g.B a.q a.g.m a.v = a.g.m := by
    unfold zqOT
    rw [if_pos hv, if_pos hq]
  rw [ot] at o
  obtain ⟨S3, e3, J3⟩ := za_201 J2 hv hq w
  refine ⟨S3, ?_, J3⟩
  have hw : zyWv a.g n = a.g.m ∨ zyWv a.g n = -1 := by
    unfold zyWv; split
    · exact Or.inl rfl
    · exact Or.inr rfl
  have m1 : ((1 : Int32) ≤ zq (zyMn a)) = (1 ≤ zyMn a) := by rw [zq_l1]; exact zq_le (by omega)
  unfold fL_areTurnsSo_j67
  rw [if_pos rfl]
  simp only [m1]
  rw [if_pos hM, zl_low _ _ (by omega), zq_bnd, e1, zq_bndnS, p2, zq_nm, o, zq_bnd, zy_played J1, zq_bnd, e2, zq_bndnS, b1, zq_bndn, p1]
  rw [if_pos (show zq (10 * a.g.m + n / 10000) = (10 : Int32) * zq a.g.m + zq (n / 10000) by rw [zq_l10, zq_mul, zq_add]), zy_winner J2, zq_bnd, if_pos rfl, zy_played J2, zq_bnd, if_pos (show zq ((((a.g, n) :: a.H).length : Nat) : Int) = zq (a.H.length : Nat) + 1 by rw [zq_l1, zq_add, List.length_cons]; rfl), p3]
  have q1 : (zq (n % 100) = 99) = (n % 100 = 99) := by rw [zq_l99]; exact zq_eq (by omega)
  have q2 : (zq (zyWv a.g n) = zq a.g.m) = (zyWv a.g n = a.g.m) := zq_eq (by omega)
  have q3 : (zq (zyWv a.g n) = -1) = (zyWv a.g n = -1) := by rw [zq_m1]; exact zq_eq (by omega)
  simp only [q1, q2, q3, e3]
  by_cases h9 : n % 100 = 99
  · have : zyWv a.g n = a.g.m := by unfold zyWv; rw [if_pos (Or.inl h9)]
    rw [if_pos h9, if_pos this]
  · rw [if_neg h9]
    rcases hw with h | h
    · by_cases h1 : zyWv a.g n = -1
      · rw [if_pos h1]
      · rw [if_neg h1, if_pos h]
    · rw [if_pos h]
theorem za_turns {S : SC} {a : ZA} (J : zyI S a) (x1 x2 : Int32) : ∃ S', fL_areTurnsSo S x1 x2 = some (1, S') ∧ zyI S' a := by
  obtain ⟨S1, e1, J1⟩ := zt_turnCount a S J
  have w := zyJ.w J
  have hM := zy_Mn J
  have hB := w.B
  have m1 : ((1 : Int32) ≤ zq (zyMn a)) = (1 ≤ zyMn a) := by rw [zq_l1]; exact zq_le (by omega)
  have m0 : (0 ≤ zq (zyMn a)) = (0 ≤ zyMn a) := by rw [zq_l0]; exact zq_le (by omega)
  unfold fL_areTurnsSo
  rw [e1, zq_bnd]
  dsimp only
  obtain ⟨r, e, S', hr, hJ⟩ := zq_forP (b := fL_areTurnsSo_b11 x2 (zq (zyMn a))) (s := (-1, 0, S1)) (fun i s => ∃ T l, s = (zq l, zq (i : Nat), T) ∧ zyI T a ∧ l = (if i = 0 then -1 else a.g.tr (i - 1))) (fun r => ∃ S', r = (1, S') ∧ zyI S' a) (zyMn a).toNat (by omega)
    (by
      rintro i hi s ⟨T, l, rfl, JT, hl⟩
      have hq : a.q = 2 * a.g.B := Classical.byContradiction fun h => by
        unfold zyMn at hi; rw [if_neg h] at hi; simp at hi
      have el : zyMn a = (zqTl a.g a.v).length := by unfold zyMn; rw [if_pos hq]
      have hv : a.v = -1 := Classical.byContradiction fun h => by
        unfold zqTl at el; rw [if_neg h] at el; simp at el; omega
      have et : zqTl a.g a.v = a.g.trs := by unfold zqTl; rw [if_pos hv]
      obtain ⟨T1, e2, J2⟩ := zy_turnAt JT (x := (i : Nat)) (by omega)
      rw [if_pos hq, if_pos (by omega), show ((i : Nat) : Int).toNat = i by omega] at e2
      rw [et] at el
      have hr := zq_hi w (zq_trm (g := a.g) (i := i) (by omega))
      have hlt : l < a.g.tr i := by
        rw [hl]
        by_cases h0 : i = 0
        · rw [if_pos h0]; omega
        · rw [if_neg h0]
          exact zq_trlt w (by omega) (by omega)
      have hl1 : -1 ≤ l := by
        rw [hl]
        split
        · omega
        · exact (zq_trr w _).1
      have n1 : ¬ zq (zyMn a) ≤ zq (i : Nat) := by rw [zq_le (by omega)]; omega
      have n2 : zq l < zq (a.g.tr i) := by rw [zq_lt (by omega)]; exact hlt
      refine ⟨(zq (a.g.tr i), zq ((i + 1 : Nat) : Int), T1), ?_, T1, a.g.tr i, rfl, J2, ?_⟩
      · unfold fL_areTurnsSo_b11
        dsimp only
        rw [if_neg n1, e2, zq_bndnS, if_pos n2, zq_l1, zq_add, zq_nm]; rfl
      · rw [if_neg (by omega)]; rfl)
    (by
      rintro s ⟨T, l, rfl, JT, hl⟩
      have n1 : zq (zyMn a) ≤ zq ((zyMn a).toNat : Nat) := by rw [zq_le (by omega)]; omega
      unfold fL_areTurnsSo_b11
      dsimp only
      rw [if_pos n1]
      simp only [m0]
      by_cases h0 : 0 ≤ zyMn a
      · have hq : a.q = 2 * a.g.B := Classical.byContradiction fun h => by
          unfold zyMn at h0; rw [if_neg h] at h0; omega
        have el : zyMn a = (zqTl a.g a.v).length := by unfold zyMn; rw [if_pos hq]
        obtain ⟨T1, e2, J2⟩ := zt_turnAt a (x := zyMn a) (by omega) T JT
        rw [if_pos hq, if_neg (by omega)] at e2
        have e2 : fL_turnAt T (zq (zyMn a)) = some (zq (-1), T1) := e2
        rw [if_pos h0]
        unfold fL_areTurnsSo_j54
        rw [e2, zq_bnd]
        simp only [m0]
        rw [if_pos h0]
        by_cases h1 : 1 ≤ zyMn a
        · obtain ⟨S', e3, J3⟩ := za_67 J2 x2 h1 (-1)
          exact ⟨(1, S'), by rw [show zq (-1) = -1 from rfl, e3]; rfl, S', rfl, J3⟩
        · refine ⟨(1, T1), ?_, T1, rfl, J2⟩
          unfold fL_areTurnsSo_j67 fL_areTurnsSo_j75
          simp only [m1]
          rw [if_pos (show zq (-1) = -1 from rfl), if_neg h1, if_neg h1]; rfl
      · have hq : ¬ a.q = 2 * a.g.B := fun h => by
          unfold zyMn at h0; rw [if_pos h] at h0; omega
        obtain ⟨T1, e2, J2⟩ := zt_turnAt a (x := 0) (by omega) T JT
        rw [if_neg hq] at e2
        have e2 : fL_turnAt T 0 = some (zq (-2), T1) := e2
        refine ⟨(1, T1), ?_, T1, rfl, J2⟩
        rw [if_neg h0]
        unfold fL_areTurnsSo_j54
        rw [e2, zq_bnd]
        simp only [m0]
        rw [if_neg h0]
        unfold fL_areTurnsSo_j67 fL_areTurnsSo_j75
        simp only [m1]
        rw [if_pos (show zq (-2) = -2 from rfl), if_neg (show ¬ 1 ≤ zyMn a by omega), if_neg (show ¬ 1 ≤ zyMn a by omega)]; rfl)
    ⟨S1, -1, rfl, J1, rfl⟩
  exact ⟨S', by rw [e, hr], hJ⟩
/-! isWorthSo -/
theorem zy_val {g : ZG} (w : ZW g) (n : Int) : (zyWv g n = g.m ∧ ZG.val 0 g n = 1) ∨ (zyWv g n = -1 ∧ ZG.val 0 g n = 0) := by
  rw [zq_val0]
  unfold zyWv
  by_cases h : n % 100 = 99 ∨ (g.act n).trs = []
  · rw [if_pos h, if_pos h]; exact Or.inl ⟨rfl, rfl⟩
  · rw [if_neg h, if_neg h]; exact Or.inr ⟨rfl, rfl⟩
/-- y is the first turn from the place j on that wins at once, or -1 -/
def zyFst (g : ZG) (j : Int) (y : Int) : Prop := (y = -1 ∧ ∀ k : Nat, j ≤ k → k < g.trs.length → zyWv g (g.tr k) = -1) ∨ (∃ k0 : Nat, j ≤ k0 ∧ k0 < g.trs.length ∧ y = g.tr k0 ∧ zyWv g (g.tr k0) = g.m ∧ ∀ k : Nat, j ≤ k → k < k0 → zyWv g (g.tr k) = -1)
theorem zyFst_r {g : ZG} (w : ZW g) {j y : Int} (h : zyFst g j y) : -1 ≤ y ∧ y < 20000 := by
  rcases h with ⟨h, -⟩ | ⟨k0, -, -, h, -⟩
  · omega
  · rw [h]; exact zq_trr w k0
theorem za_worthSo {S : SC} {a : ZA} (J : zyI S a) : ∃ S', fL_isWorthSo S = some (1, S') ∧ zyI S' a := by
  obtain ⟨S1, e1, J1⟩ := zt_turnCount a S J
  have w := zyJ.w J
  have hM := zy_Mn J
  have hB := w.B
  have hm := w.m
  have m1 : ((1 : Int32) ≤ zq (zyMn a)) = (1 ≤ zyMn a) := by rw [zq_l1]; exact zq_le (by omega)
  unfold fL_isWorthSo
  rw [e1, zq_bnd]
  dsimp only
  simp only [m1]
  by_cases h1 : 1 ≤ zyMn a
  · have hq : a.q = 2 * a.g.B := Classical.byContradiction fun h => by
      unfold zyMn at h1; rw [if_neg h] at h1; omega
    have el : zyMn a = (zqTl a.g a.v).length := by unfold zyMn; rw [if_pos hq]
    have hv : a.v = -1 := Classical.byContradiction fun h => by
      unfold zqTl at el; rw [if_neg h] at el; simp at el; omega
    have et : zqTl a.g a.v = a.g.trs := by unfold zqTl; rw [if_pos hv]
    rw [et] at el
    have ht : a.g.trs ≠ [] := fun h => by rw [h] at el; simp at el; omega
    rw [if_pos h1, show zq (zyMn a) - 1 = zq (zyMn a - 1) by rw [zq_l1, zq_sub], zq_nm]
    obtain ⟨r, e, S', hr, hJ⟩ := zq_forP (b := fL_isWorthSo_b42) (s := (-1, zq (zyMn a - 1), S1)) (fun i s => ∃ T y, s = (zq y, zq (zyMn a - 1 - (i : Nat)), T) ∧ zyI T a ∧ zyFst a.g (zyMn a - (i : Nat)) y) (fun r => ∃ S', r = (1, S') ∧ zyI S' a) a.g.trs.length (by omega)
      (by
        rintro i hi s ⟨T, y, rfl, JT, hF⟩
        have hy := zyFst_r w hF
        obtain ⟨j, hj⟩ : ∃ j : Nat, (j : Int) = zyMn a - 1 - (i : Nat) := ⟨(zyMn a - 1 - (i : Nat)).toNat, by omega⟩
        rw [← hj]
        have hjl : j < a.g.trs.length := by omega
        have hmem := zq_trm hjl
        have hr := zq_hi w hmem
        have n1 : ¬ zq (j : Nat) < 0 := by rw [zq_l0, zq_lt (by omega)]; omega
        obtain ⟨T1, e2, J2⟩ := zy_turnAt JT (x := (j : Nat)) (by omega)
        rw [if_pos hq, if_pos (by rw [et]; omega), show ((j : Nat) : Int).toNat = j by omega] at e2
        obtain ⟨T2, e3, J3, -⟩ := zy_play1 J2 hq (by rw [et]; exact hmem)
        obtain ⟨T3, e4, J4, -⟩ := zy_takeBack1 J3
        have J4 : zyI T3 a := by
          show zyJ T3 a.g a.q a.v a.H
          rw [hv]; exact J4
        have q0 : (zq (zyWv a.g (a.g.tr j)) < 0) = (zyWv a.g (a.g.tr j) < 0) := by
          have := zy_val w (a.g.tr j)
          rw [zq_l0]; exact zq_lt (by omega)
        have nx : zq (j : Nat) + (-1) = zq (zyMn a - 1 - ((i + 1 : Nat) : Int)) := by
          rw [zq_m1, zq_add]
          exact congrArg zq (by omega)
        unfold fL_isWorthSo_b42 fL_isWorthSo_j68
        dsimp only
        rw [if_neg n1, e2, zq_bndnS, e3, zq_bndnS, e4]
        simp only [q0, zq_bndnS, zq_nm, nx]
        rcases zy_val w (a.g.tr j) with ⟨v1, -⟩ | ⟨v1, -⟩
        · rw [if_neg (by omega)]
          refine ⟨_, rfl, T3, a.g.tr j, rfl, J4, Or.inr ⟨j, by omega, hjl, rfl, v1, fun k k1 k2 => by omega⟩⟩
        · rw [if_pos (by omega)]
          refine ⟨_, rfl, T3, y, rfl, J4, ?_⟩
          rcases hF with ⟨f1, f2⟩ | ⟨k0, f1, f2, f3, f4, f5⟩
          · refine Or.inl ⟨f1, fun k k1 k2 => ?_⟩
            by_cases hk : k = j
            · rw [hk]; exact v1
            · exact f2 k (by omega) k2
          · refine Or.inr ⟨k0, by omega, f2, f3, f4, fun k k1 k2 => ?_⟩
            by_cases hk : k = j
            · rw [hk]; exact v1
            · exact f5 k (by omega) k2)
      (by
        rintro s ⟨T, y, rfl, JT, hF⟩
        have hy := zyFst_r w hF
        rw [show zyMn a - 1 - ((a.g.trs.length : Nat) : Int) = -1 by omega]
        rw [show zyMn a - ((a.g.trs.length : Nat) : Int) = 0 by omega] at hF
        have n1 : zq (-1) < 0 := by rw [zq_l0, zq_lt (by omega)]; omega
        obtain ⟨T1, e2, J2⟩ := zt_worth a (x := 0) (by omega) T JT
        rw [if_pos (by omega), if_pos ⟨hq, hv, Or.inl (by omega)⟩] at e2
        have e2 : fL_worth T 0 = some (zq 0, T1) := e2
        obtain ⟨T2, e3, J3⟩ := zt_worth a (x := 1) (by omega) T1 J2
        rw [if_pos (by omega), if_pos ⟨hq, hv, Or.inl (by omega)⟩] at e3
        have e3 : fL_worth T1 1 = some (zq (ZG.V 1 a.g), T2) := e3
        obtain ⟨T3, jc, e4, J4, c1, c2, c3⟩ := zy_best1 J3 hq hv
        have hV := zq_V 1 a.g
        have y0 : (zq y < 0) = (y < 0) := by rw [zq_l0]; exact zq_lt (by omega)
        have V0 : (zq (ZG.V 1 a.g) = 0) = (ZG.V 1 a.g = 0) := by rw [zq_l0]; exact zq_eq (by omega)
        have V1 : (zq (ZG.V 1 a.g) = 1) = (ZG.V 1 a.g = 1) := by rw [zq_l1]; exact zq_eq (by omega)
        unfold fL_isWorthSo_b42
        dsimp only
        rw [if_pos n1, e2, zq_bnd]
        dsimp only
        rw [if_pos (show zq 0 = 0 from rfl), e3, zq_bnd]
        dsimp only
        unfold fL_isWorthSo_j103 fL_isWorthSo_j124
        simp only [y0, V0, V1]
        rw [e4, zq_bndnS]
        rcases hF with ⟨f1, f2⟩ | ⟨k0, f1, f2, f3, f4, f5⟩
        · -- no turn wins at once
          have all0 : ∀ x ∈ a.g.trs, ZG.val 0 a.g x ≤ 0 := by
            intro x hx
            obtain ⟨k, hk, ek⟩ := zq_trx hx
            have := f2 k (by omega) hk
            rw [ek] at this
            rcases zy_val w x with ⟨v1, v2⟩ | ⟨v1, v2⟩
            · omega
            · omega
          have hV1 : ZG.V 1 a.g = 0 := by
            have u1 := zqMx_ub all0 (by omega)
            have u2 := zq_V1nn ht
            have u3 : ZG.V 1 a.g = zqMx a.g.trs (ZG.val 0 a.g) := rfl
            omega
          have hl : 0 < a.g.trs.length := by omega
          have jc0 : jc = 0 := Classical.byContradiction fun hn => by
            have u1 := c3 0 (by omega)
            have u2 := f2 0 (by omega) hl
            rcases zy_val w (a.g.tr 0) with ⟨v1, v2⟩ | ⟨v1, v2⟩
            · omega
            · exact u1 (by rw [v2, hV1])
          obtain ⟨T4, e5, J5⟩ := zy_turnAt J4 (x := 0) (by omega)
          rw [if_pos hq, if_pos (by rw [et]; omega)] at e5
          have e5 : fX3_turnAt T3 0 = some (.inl (zq (a.g.tr 0)), T4) := e5
          rw [if_pos (show y < 0 by omega), if_pos hV1, if_pos (show y < 0 by omega), e5, zq_bndnS, jc0, if_pos rfl]
          exact ⟨_, rfl, T4, rfl, J5⟩
        · have hv1 : ZG.val 0 a.g (a.g.tr k0) = 1 := by
            rcases zy_val w (a.g.tr k0) with ⟨v1, v2⟩ | ⟨v1, v2⟩
            · exact v2
            · omega
          have hV1 : ZG.V 1 a.g = 1 := by
            have u1 := zqMx_le (f := ZG.val 0 a.g) (zq_trm f2)
            have u3 : ZG.V 1 a.g = zqMx a.g.trs (ZG.val 0 a.g) := rfl
            omega
          have jk : jc = k0 := by
            rcases Nat.lt_trichotomy jc k0 with hlt | heq | hgt
            · have u1 := f5 jc (by omega) hlt
              rcases zy_val w (a.g.tr jc) with ⟨v1, v2⟩ | ⟨v1, v2⟩
              · omega
              · omega
            · exact heq
            · exact absurd (by rw [hv1, hV1]) (c3 k0 hgt)
          have hr := zq_hi w (zq_trm f2)
          rw [if_neg (show ¬ y < 0 by omega), if_pos hV1, if_neg (show ¬ y < 0 by omega), jk, f3, if_pos rfl]
          exact ⟨_, rfl, T3, rfl, J4⟩)
      ⟨S1, -1, by rw [show zyMn a - 1 - ((0 : Nat) : Int) = zyMn a - 1 by omega]; rfl, J1, Or.inl ⟨rfl, fun k k1 k2 => by omega⟩⟩
    exact ⟨S', by rw [e, hr], hJ⟩
  · have no : ¬ (a.q = 2 * a.g.B ∧ a.v = -1 ∧ ((1 : Int) < 3 ∨ a.g.n ≤ 8)) := by
      rintro ⟨hq, hv, -⟩
      obtain ⟨z, -, a1, a3, a4, a5, a7, a9, a10, a11, a12⟩ := id J
      have ht := ((a12 hq).2 hv).1
      have em : zyMn a = a.g.trs.length := by
        unfold zyMn zqTl; rw [if_pos hq, if_pos hv]
      exact ht (List.eq_nil_of_length_eq_zero (by omega))
    obtain ⟨T1, e2, J2⟩ := zt_worth a (x := 1) (by omega) S1 J1
    rw [if_pos (by omega), if_neg no] at e2
    have e2 : fL_worth S1 1 = some (zq (-99998), T1) := e2
    obtain ⟨T2, e3, J3⟩ := zt_worth a (x := 4) (by omega) T1 J2
    rw [if_neg (by omega)] at e3
    have e3 : fL_worth T1 4 = some (zq (-99999), T2) := e3
    refine ⟨T2, ?_, J3⟩
    rw [if_neg h1, e2, zq_bnd]
    dsimp only
    rw [if_pos zq_m99998.symm, e3, zq_bnd]
    dsimp only
    rw [if_pos zq_m99999.symm]
