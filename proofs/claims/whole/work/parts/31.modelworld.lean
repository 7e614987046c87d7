/-! the reference's world, in the order in which its cells are made, the last ahead: the object 0, its rows 1 to 8 -/
/-- ints 0 to 7: thrown, rows, columns, builders, placed, winner, played, found; rows 0 to 7: powers, heights, at, movers, hasClimbed, kept, numbers, bests -/
def wM (cy : Nat → ClassId) (ad : Nat → Nat) (Xr : va_W) (S : SC) : va_W :=
  (ad 8, .inl (cy 0, 5, .inl (S.2 7))) :: (ad 7, .inl (cy 0, 5, .inl (S.2 6))) :: (ad 6, .inl (cy 0, 6000, .inl (S.2 5))) :: (ad 5, .inl (cy 1, 5, .inl (S.2 4))) :: (ad 4, .inl (cy 0, 5, .inl (S.2 3))) :: (ad 3, .inl (cy 0, 20, .inl (S.2 2))) :: (ad 2, .inl (cy 0, 125, .inl (S.2 1))) :: (ad 1, .inl (cy 0, 2, .inl (S.2 0))) ::
  (ad 0, .inr (4, [.int (S.1 0), .int (S.1 1), .int (S.1 2), .int (S.1 3), .ref (ad 1), .ref (ad 2), .ref (ad 3), .ref (ad 4), .ref (ad 5), .int (S.1 4), .int (S.1 5), .ref (ad 6), .int (S.1 6), .ref (ad 7), .ref (ad 8), .int (S.1 7)])) :: Xr
