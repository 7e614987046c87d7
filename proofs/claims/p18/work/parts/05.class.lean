/-! the class's world, in the order in which its cells are made, the last ahead: the object 0, the board 1 with its rows 2 to 6, the lists of turns 7 to 14 (a list and its row, four times), the outlook 15 -/
/-- ints 0 to 7: cells, builders, firstPower, secondPower, placed, turnsPlayed, victor, climbingBarred; 8 to 11: the lists' sizes. Rows 0 to 4: neighbours, storeys, holders, spots, past; 5 to 8: the lists' numbers -/
def wC (cy : Nat → ClassId) (ad : Nat → Nat) (Xr : va_W) (S : SC) : va_W :=
  (ad 14, .inl (cy 0, 338, .inl (S.2 8))) :: (ad 13, .inr (2, [.ref (ad 14), .int (S.1 11)])) ::
  (ad 12, .inl (cy 0, 338, .inl (S.2 7))) :: (ad 11, .inr (2, [.ref (ad 12), .int (S.1 10)])) ::
  (ad 10, .inl (cy 0, 338, .inl (S.2 6))) :: (ad 9, .inr (2, [.ref (ad 10), .int (S.1 9)])) ::
  (ad 15, .inr (1, [.ref (ad 9), .ref (ad 11), .ref (ad 13)])) ::
  (ad 8, .inl (cy 0, 338, .inl (S.2 5))) :: (ad 7, .inr (2, [.ref (ad 8), .int (S.1 8)])) ::
  (ad 6, .inl (cy 0, 505, .inl (S.2 4))) :: (ad 5, .inl (cy 0, 4, .inl (S.2 3))) :: (ad 4, .inl (cy 0, 25, .inl (S.2 2))) :: (ad 3, .inl (cy 0, 25, .inl (S.2 1))) :: (ad 2, .inl (cy 0, 200, .inl (S.2 0))) ::
  (ad 1, .inr (0, [.ref (ad 2), .ref (ad 3), .ref (ad 4), .ref (ad 5), .ref (ad 6), .int (S.1 0), .int (S.1 1), .int (S.1 2), .int (S.1 3), .int (S.1 4), .int (S.1 5), .int (S.1 6), .int (S.1 7)])) ::
  (ad 0, .inr (3, [.ref (ad 1), .ref (ad 7), .ref (ad 15)])) :: Xr
def pL (t : Nat) : Nat := match t with | 0 => 8 | 1 => 5 | 2 => 3 | _ => 1
def pN (t : Nat) : Nat := match t with | 0 => 7 | 1 => 4 | 2 => 2 | _ => 0
theorem lt4 {t : Nat} (h : t < 4) : t = 0 ∨ t = 1 ∨ t = 2 ∨ t = 3 := by omega
theorem wC_L (cy : Nat → ClassId) (ad : Nat → Nat) (Xr : va_W) (S : SC) {t : Nat} (h : t < 4) : (wC cy ad Xr S)[pL t]? = some (ad (7 + 2 * t), .inr (2, [.ref (ad (8 + 2 * t)), .int (S.1 (8 + t))])) := by
  rcases lt4 h with rfl | rfl | rfl | rfl <;> rfl
theorem wC_N (cy : Nat → ClassId) (ad : Nat → Nat) (Xr : va_W) (S : SC) {t : Nat} (h : t < 4) : (wC cy ad Xr S)[pN t]? = some (ad (8 + 2 * t), .inl (cy 0, 338, .inl (S.2 (5 + t)))) := by
  rcases lt4 h with rfl | rfl | rfl | rfl <;> rfl
theorem wC_L_set (cy : Nat → ClassId) (ad : Nat → Nat) (Xr : va_W) (S : SC) (v : Int32) {t : Nat} (h : t < 4) : (wC cy ad Xr S).set (pL t) (ad (7 + 2 * t), .inr (2, [.ref (ad (8 + 2 * t)), .int v])) = wC cy ad Xr (setS S (8 + t) v) := by
  rcases lt4 h with rfl | rfl | rfl | rfl <;> rfl
theorem wC_N_set (cy : Nat → ClassId) (ad : Nat → Nat) (Xr : va_W) (S : SC) (i v : Int32) {t : Nat} (h : t < 4) : (wC cy ad Xr S).set (pN t) (ad (8 + 2 * t), .inl (cy 0, 338, .inl (upd (S.2 (5 + t)) i.toNatClampNeg v))) = wC cy ad Xr (setA S (5 + t) i v) := by
  rcases lt4 h with rfl | rfl | rfl | rfl <;> rfl
def lenA (k : Nat) : Nat := match k with | 0 => 200 | 1 => 25 | 2 => 25 | 3 => 4 | _ => 505
theorem lt5 {t : Nat} (h : t < 5) : t = 0 ∨ t = 1 ∨ t = 2 ∨ t = 3 ∨ t = 4 := by omega
theorem wC_A (cy : Nat → ClassId) (ad : Nat → Nat) (Xr : va_W) (S : SC) {k : Nat} (h : k < 5) : (wC cy ad Xr S)[13 - k]? = some (ad (2 + k), .inl (cy 0, lenA k, .inl (S.2 k))) := by
  rcases lt5 h with rfl | rfl | rfl | rfl | rfl <;> rfl
theorem wC_A_set (cy : Nat → ClassId) (ad : Nat → Nat) (Xr : va_W) (S : SC) (i v : Int32) {k : Nat} (h : k < 5) : (wC cy ad Xr S).set (13 - k) (ad (2 + k), .inl (cy 0, lenA k, .inl (upd (S.2 k) i.toNatClampNeg v))) = wC cy ad Xr (setA S k i v) := by
  rcases lt5 h with rfl | rfl | rfl | rfl | rfl <;> rfl
theorem ifp {β : Type} {c : Prop} [Decidable c] {a b : Option β} {r : β} (hc : c) (h : (if c then a else b) = some r) : a = some r := by rw [if_pos hc] at h; exact h
theorem ifn {β : Type} {c : Prop} [Decidable c] {a b : Option β} {r : β} (hc : ¬ c) (h : (if c then a else b) = some r) : b = some r := by rw [if_neg hc] at h; exact h
theorem nz_n {v : Int32} (h : v = 0 ∨ v = 1) : narrow .boolean (.int v) = .int v := by rcases h with h | h <;> (rw [h]; rfl)
theorem nz_f {v : Int32} (h : v = 0 ∨ v = 1) : fits .boolean (.int v) = true := by rcases h with h | h <;> (rw [h]; rfl)
theorem nm_use {α β : Type} {x y : α} {k : α → Option β} {r : β} (h : nm x k = some r) (e : y = x) : k y = some r := by rw [e]; exact h
