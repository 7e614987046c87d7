set_option maxRecDepth 100000
/-! the pure facts -/
def zyL (S P : SC) (c : Int32) : Prop := ∃ a : ZA, zyI S a ∧ zyI P a ∧ c = zq a.g.n
theorem zy_law : LawOK zyL := by
  rintro S P c ⟨a, J, K, rfl⟩
  refine ⟨fun x => ?_, ?_, ?_, fun x => ?_, ?_⟩
  · obtain ⟨t, b, hg, hto⟩ := za_act J x
    obtain ⟨S', e1, J1⟩ := hto S J
    refine ⟨t, S', e1, ?_⟩
    rcases hg with ⟨ht, hb⟩ | ⟨ht, h0, h1⟩
    · rw [hb] at J1
      exact Or.inl ⟨ht, a, J1, K, rfl⟩
    · obtain ⟨P', e2, K1⟩ := hto P K
      refine Or.inr ⟨ht, P', zq (zqLow x 24), e2, fun U => zlow24 U x, b, J1, K1, ?_⟩
      have r := zq_low x (n := 24) (by omega)
      have e0 : (zq (zqLow x 24) = 0) = (zqLow x 24 = 0) := by rw [zq_l0]; exact zq_eq (by omega)
      simp only [e0]
      by_cases h : zqLow x 24 = 0
      · rw [if_pos h, h0 h]
      · rw [if_neg h, h1 h]
  · obtain ⟨S', P', e, J1, K1⟩ := za_alike J K
    exact ⟨S', P', e, a, J1, K1, rfl⟩
  · obtain ⟨S', e, J1⟩ := za_board J
    exact ⟨S', e, a, J1, K, rfl⟩
  · obtain ⟨S', e, J1⟩ := za_turns J (zq a.g.n) x
    exact ⟨S', e, a, J1, K, rfl⟩
  · obtain ⟨S', e, J1⟩ := za_worthSo J
    exact ⟨S', e, a, J1, K, rfl⟩
theorem zy_start : ∃ S0, fX0_start S0C 5 5 2 0 0 = some S0 ∧ LawStart zyL S0 := by
  obtain ⟨S0, e, z, s4, s5, s6⟩ := zc_start (S := S0C) (R := 5) (C := 5) (B := 2) (p0 := 0) (p1 := 0) (by omega) (by omega)
  have ok0 : zyOk 5 5 2 0 0 := ⟨by omega, by omega, by omega, by omega, by omega, by omega⟩
  have J : zyI S0 (ZA.mk (zqG0 5 5 2 0 0) 0 (-1) []) := zy_J0 ok0 z s4 s5 s6
  refine ⟨S0, e, fun x => ?_⟩
  have r1 := zq_low x (n := 3) (by omega)
  have r2 := zq_low (x >>> ((3 : Int32) &&& 31)) (n := 2) (by omega)
  have r3 := zq_low (x >>> ((5 : Int32) &&& 31)) (n := 2) (by omega)
  have r4 := zq_low (x >>> ((7 : Int32) &&& 31)) (n := 7) (by omega)
  have r5 := zq_low (x >>> ((11 : Int32) &&& 31)) (n := 7) (by omega)
  have u1 := fun U : SC => zlow3 U x
  have u2 := fun U : SC => zlow2 U (x >>> ((3 : Int32) &&& 31))
  have u3 := fun U : SC => zlow2 U (x >>> ((5 : Int32) &&& 31))
  have u4 := fun U : SC => zlow7 U (x >>> ((7 : Int32) &&& 31))
  have u5 := fun U : SC => zlow7 U (x >>> ((11 : Int32) &&& 31))
  generalize zqLow x 3 = a1 at *
  generalize zqLow (x >>> ((3 : Int32) &&& 31)) 2 = a2 at *
  generalize zqLow (x >>> ((5 : Int32) &&& 31)) 2 = a3 at *
  generalize zqLow (x >>> ((7 : Int32) &&& 31)) 7 = a4 at *
  generalize zqLow (x >>> ((11 : Int32) &&& 31)) 7 = a5 at *
  have big : 2 * (1 + a3) < (2 + a1) * (3 + a2) := by
    rcases (show a2 = 0 ∨ a2 = 1 by omega) with h | h
    · rw [h]; omega
    · rw [h]; omega
  have ok : zyOk (2 + a1) (3 + a2) (1 + a3) a4 a5 := ⟨by omega, by omega, by omega, big, by omega, by omega⟩
  obtain ⟨S1, e1, J1⟩ := zt_begin1 (ZA.mk (zqG0 5 5 2 0 0) 0 (-1) []) ok S0 J
  obtain ⟨P1, e2, K1⟩ := zy_begin1 (S := S0) ok
  have q1 : (2 : Int32) + zq a1 = zq (2 + a1) := by rw [zq_l2, zq_add]
  have q2 : (3 : Int32) + zq a2 = zq (3 + a2) := by rw [zq_l3, zq_add]
  have q3 : (1 : Int32) + zq a3 = zq (1 + a3) := by rw [zq_l1, zq_add]
  refine ⟨zq a1, zq a2, zq a3, zq a4, zq a5, S1, P1, u1, u2, u3, u4, u5, ?_, ?_, ?_⟩
  · rw [q1, q2, q3, zq_mul]; exact e1
  · rw [q1, q2, q3, zq_mul]; exact e2
  · rw [q1, q2, zq_mul]
    exact ⟨ZA.mk (zqG0 (2 + a1) (3 + a2) (1 + a3) a4 a5) 0 (-1) [], J1, K1, rfl⟩
