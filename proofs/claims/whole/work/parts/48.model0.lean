/-! ===== the reference: its 33 cells; row 0 its whole numbers by the fields' order, row r the array in cell r ===== -/
def MF (m : Nat) (s : Nat → Int) : List Value := [.int (z (s 0)), .int (z (s 1)), .ref (m + 1), .ref (m + 2), .ref (m + 3), .ref (m + 4), .ref (m + 5), .int (z (s 7)), .int (z (s 8)), .ref (m + 6), .ref (m + 7), .ref (m + 8), .ref (m + 9), .ref (m + 10), .int (z (s 14)), .ref (m + 11), .int (z (s 16)), .ref (m + 12), .ref (m + 13), .ref (m + 14), .ref (m + 15), .ref (m + 16), .ref (m + 17), .ref (m + 18), .ref (m + 19), .ref (m + 20), .ref (m + 21), .ref (m + 22), .ref (m + 23), .ref (m + 24), .ref (m + 25), .ref (m + 26), .ref (m + 27), .ref (m + 28), .ref (m + 29), .ref (m + 30), .ref (m + 31), .ref (m + 32), .int (z (s 38)), .int (z (s 39)), .int (z (s 40))]
def MB (m : Nat) (M : GS) : Nat → va_E
  | 0 => .inr (12, MF m (M 0))
  | 1 => .inl (0, 4, .inl fun j => z (M 1 j))
  | 2 => .inl (0, 4, .inl fun j => z (M 2 j))
  | 3 => .inl (0, 4, .inl fun j => z (M 3 j))
  | 4 => .inl (1, 4, .inl fun j => z (M 4 j))
  | 5 => .inl (0, 4, .inl fun j => z (M 5 j))
  | 6 => .inl (0, 400, .inl fun j => z (M 6 j))
  | 7 => .inl (0, 400, .inl fun j => z (M 7 j))
  | 8 => .inl (0, 400, .inl fun j => z (M 8 j))
  | 9 => .inl (0, 400, .inl fun j => z (M 9 j))
  | 10 => .inl (0, 400, .inl fun j => z (M 10 j))
  | 11 => .inl (0, 5, .inl fun j => z (M 11 j))
  | 12 => .inl (0, 6, .inl fun j => z (M 12 j))
  | 13 => .inl (0, 168, .inl fun j => z (M 13 j))
  | 14 => .inl (0, 24, .inl fun j => z (M 14 j))
  | 15 => .inl (0, 6, .inl fun j => z (M 15 j))
  | 16 => .inl (0, 6, .inl fun j => z (M 16 j))
  | 17 => .inl (0, 6, .inl fun j => z (M 17 j))
  | 18 => .inl (0, 6, .inl fun j => z (M 18 j))
  | 19 => .inl (0, 360, .inl fun j => z (M 19 j))
  | 20 => .inl (0, 6, .inl fun j => z (M 20 j))
  | 21 => .inl (0, 6, .inl fun j => z (M 21 j))
  | 22 => .inl (1, 6, .inl fun j => z (M 22 j))
  | 23 => .inl (0, 6, .inl fun j => z (M 23 j))
  | 24 => .inl (0, 6, .inl fun j => z (M 24 j))
  | 25 => .inl (0, 6, .inl fun j => z (M 25 j))
  | 26 => .inl (0, 6, .inl fun j => z (M 26 j))
  | 27 => .inl (0, 6, .inl fun j => z (M 27 j))
  | 28 => .inl (0, 60, .inl fun j => z (M 28 j))
  | 29 => .inl (0, 60, .inl fun j => z (M 29 j))
  | 30 => .inl (0, 60, .inl fun j => z (M 30 j))
  | 31 => .inl (0, 60, .inl fun j => z (M 31 j))
  | _ => .inl (0, 4, .inl fun j => z (M 32 j))
def mh (h : AH) (m : Nat) (M : GS) : AH := blk h m 33 (MB m M)
section MODEL0
variable {h : AH} {m : Nat} {M : GS} {f s : Nat → Int} {v : Int}
theorem mr_0 : mh h m M m = some (.inr (12, MF m (M 0))) := blk_at (k := 0) (by decide)
theorem mr_1 : mh h m M (m + 1) = some (.inl (0, 4, .inl fun j => z (M 1 j))) := blk_at (k := 1) (by decide)
theorem mr_2 : mh h m M (m + 2) = some (.inl (0, 4, .inl fun j => z (M 2 j))) := blk_at (k := 2) (by decide)
theorem mr_3 : mh h m M (m + 3) = some (.inl (0, 4, .inl fun j => z (M 3 j))) := blk_at (k := 3) (by decide)
theorem mr_4 : mh h m M (m + 4) = some (.inl (1, 4, .inl fun j => z (M 4 j))) := blk_at (k := 4) (by decide)
theorem mr_5 : mh h m M (m + 5) = some (.inl (0, 4, .inl fun j => z (M 5 j))) := blk_at (k := 5) (by decide)
theorem mr_6 : mh h m M (m + 6) = some (.inl (0, 400, .inl fun j => z (M 6 j))) := blk_at (k := 6) (by decide)
theorem mr_7 : mh h m M (m + 7) = some (.inl (0, 400, .inl fun j => z (M 7 j))) := blk_at (k := 7) (by decide)
theorem mr_8 : mh h m M (m + 8) = some (.inl (0, 400, .inl fun j => z (M 8 j))) := blk_at (k := 8) (by decide)
theorem mr_9 : mh h m M (m + 9) = some (.inl (0, 400, .inl fun j => z (M 9 j))) := blk_at (k := 9) (by decide)
theorem mr_10 : mh h m M (m + 10) = some (.inl (0, 400, .inl fun j => z (M 10 j))) := blk_at (k := 10) (by decide)
theorem mr_11 : mh h m M (m + 11) = some (.inl (0, 5, .inl fun j => z (M 11 j))) := blk_at (k := 11) (by decide)
theorem mr_12 : mh h m M (m + 12) = some (.inl (0, 6, .inl fun j => z (M 12 j))) := blk_at (k := 12) (by decide)
theorem mr_13 : mh h m M (m + 13) = some (.inl (0, 168, .inl fun j => z (M 13 j))) := blk_at (k := 13) (by decide)
theorem mr_14 : mh h m M (m + 14) = some (.inl (0, 24, .inl fun j => z (M 14 j))) := blk_at (k := 14) (by decide)
theorem mr_15 : mh h m M (m + 15) = some (.inl (0, 6, .inl fun j => z (M 15 j))) := blk_at (k := 15) (by decide)
theorem mr_16 : mh h m M (m + 16) = some (.inl (0, 6, .inl fun j => z (M 16 j))) := blk_at (k := 16) (by decide)
theorem mr_17 : mh h m M (m + 17) = some (.inl (0, 6, .inl fun j => z (M 17 j))) := blk_at (k := 17) (by decide)
theorem mr_18 : mh h m M (m + 18) = some (.inl (0, 6, .inl fun j => z (M 18 j))) := blk_at (k := 18) (by decide)
theorem mr_19 : mh h m M (m + 19) = some (.inl (0, 360, .inl fun j => z (M 19 j))) := blk_at (k := 19) (by decide)
theorem mr_20 : mh h m M (m + 20) = some (.inl (0, 6, .inl fun j => z (M 20 j))) := blk_at (k := 20) (by decide)
theorem mr_21 : mh h m M (m + 21) = some (.inl (0, 6, .inl fun j => z (M 21 j))) := blk_at (k := 21) (by decide)
theorem mr_22 : mh h m M (m + 22) = some (.inl (1, 6, .inl fun j => z (M 22 j))) := blk_at (k := 22) (by decide)
theorem mr_23 : mh h m M (m + 23) = some (.inl (0, 6, .inl fun j => z (M 23 j))) := blk_at (k := 23) (by decide)
theorem mr_24 : mh h m M (m + 24) = some (.inl (0, 6, .inl fun j => z (M 24 j))) := blk_at (k := 24) (by decide)
theorem mr_25 : mh h m M (m + 25) = some (.inl (0, 6, .inl fun j => z (M 25 j))) := blk_at (k := 25) (by decide)
theorem mr_26 : mh h m M (m + 26) = some (.inl (0, 6, .inl fun j => z (M 26 j))) := blk_at (k := 26) (by decide)
theorem mr_27 : mh h m M (m + 27) = some (.inl (0, 6, .inl fun j => z (M 27 j))) := blk_at (k := 27) (by decide)
theorem mr_28 : mh h m M (m + 28) = some (.inl (0, 60, .inl fun j => z (M 28 j))) := blk_at (k := 28) (by decide)
theorem mr_29 : mh h m M (m + 29) = some (.inl (0, 60, .inl fun j => z (M 29 j))) := blk_at (k := 29) (by decide)
theorem mr_30 : mh h m M (m + 30) = some (.inl (0, 60, .inl fun j => z (M 30 j))) := blk_at (k := 30) (by decide)
theorem mr_31 : mh h m M (m + 31) = some (.inl (0, 60, .inl fun j => z (M 31 j))) := blk_at (k := 31) (by decide)
theorem mr_32 : mh h m M (m + 32) = some (.inl (0, 4, .inl fun j => z (M 32 j))) := blk_at (k := 32) (by decide)
theorem mw_g {k : Nat} {c : va_E} {g : Nat → Int} (hk : k < 33) (hc : MB m (sr M k g) k = c) (hn : ∀ j, j < 33 → j ≠ k → MB m (sr M k g) j = MB m M j) : hup (mh h m M) (m + k) c = mh h m (sr M k g) := by
  unfold mh
  rw [blk_hup hk]
  refine blk_cong (fun j hj => ?_)
  by_cases h1 : j = k
  · rw [if_pos h1, h1, hc]
  · rw [if_neg h1, hn j hj h1]
theorem MB_o {k : Nat} {g : Nat → Int} : ∀ j, j < 33 → j ≠ k → MB m (sr M k g) j = MB m M j := by
  intro j hj hn
  match j, hj, hn with
  | 0, _, hn => exact congrArg (fun r : Nat → Int => (.inr (12, MF m r) : va_E)) (if_neg hn)
  | 1, _, hn => exact congrArg (fun r : Nat → Int => (.inl (0, 4, .inl fun j => z (r j)) : va_E)) (if_neg hn)
  | 2, _, hn => exact congrArg (fun r : Nat → Int => (.inl (0, 4, .inl fun j => z (r j)) : va_E)) (if_neg hn)
  | 3, _, hn => exact congrArg (fun r : Nat → Int => (.inl (0, 4, .inl fun j => z (r j)) : va_E)) (if_neg hn)
  | 4, _, hn => exact congrArg (fun r : Nat → Int => (.inl (1, 4, .inl fun j => z (r j)) : va_E)) (if_neg hn)
  | 5, _, hn => exact congrArg (fun r : Nat → Int => (.inl (0, 4, .inl fun j => z (r j)) : va_E)) (if_neg hn)
  | 6, _, hn => exact congrArg (fun r : Nat → Int => (.inl (0, 400, .inl fun j => z (r j)) : va_E)) (if_neg hn)
  | 7, _, hn => exact congrArg (fun r : Nat → Int => (.inl (0, 400, .inl fun j => z (r j)) : va_E)) (if_neg hn)
  | 8, _, hn => exact congrArg (fun r : Nat → Int => (.inl (0, 400, .inl fun j => z (r j)) : va_E)) (if_neg hn)
  | 9, _, hn => exact congrArg (fun r : Nat → Int => (.inl (0, 400, .inl fun j => z (r j)) : va_E)) (if_neg hn)
  | 10, _, hn => exact congrArg (fun r : Nat → Int => (.inl (0, 400, .inl fun j => z (r j)) : va_E)) (if_neg hn)
  | 11, _, hn => exact congrArg (fun r : Nat → Int => (.inl (0, 5, .inl fun j => z (r j)) : va_E)) (if_neg hn)
  | 12, _, hn => exact congrArg (fun r : Nat → Int => (.inl (0, 6, .inl fun j => z (r j)) : va_E)) (if_neg hn)
  | 13, _, hn => exact congrArg (fun r : Nat → Int => (.inl (0, 168, .inl fun j => z (r j)) : va_E)) (if_neg hn)
  | 14, _, hn => exact congrArg (fun r : Nat → Int => (.inl (0, 24, .inl fun j => z (r j)) : va_E)) (if_neg hn)
  | 15, _, hn => exact congrArg (fun r : Nat → Int => (.inl (0, 6, .inl fun j => z (r j)) : va_E)) (if_neg hn)
  | 16, _, hn => exact congrArg (fun r : Nat → Int => (.inl (0, 6, .inl fun j => z (r j)) : va_E)) (if_neg hn)
  | 17, _, hn => exact congrArg (fun r : Nat → Int => (.inl (0, 6, .inl fun j => z (r j)) : va_E)) (if_neg hn)
  | 18, _, hn => exact congrArg (fun r : Nat → Int => (.inl (0, 6, .inl fun j => z (r j)) : va_E)) (if_neg hn)
  | 19, _, hn => exact congrArg (fun r : Nat → Int => (.inl (0, 360, .inl fun j => z (r j)) : va_E)) (if_neg hn)
  | 20, _, hn => exact congrArg (fun r : Nat → Int => (.inl (0, 6, .inl fun j => z (r j)) : va_E)) (if_neg hn)
  | 21, _, hn => exact congrArg (fun r : Nat → Int => (.inl (0, 6, .inl fun j => z (r j)) : va_E)) (if_neg hn)
  | 22, _, hn => exact congrArg (fun r : Nat → Int => (.inl (1, 6, .inl fun j => z (r j)) : va_E)) (if_neg hn)
  | 23, _, hn => exact congrArg (fun r : Nat → Int => (.inl (0, 6, .inl fun j => z (r j)) : va_E)) (if_neg hn)
  | 24, _, hn => exact congrArg (fun r : Nat → Int => (.inl (0, 6, .inl fun j => z (r j)) : va_E)) (if_neg hn)
  | 25, _, hn => exact congrArg (fun r : Nat → Int => (.inl (0, 6, .inl fun j => z (r j)) : va_E)) (if_neg hn)
  | 26, _, hn => exact congrArg (fun r : Nat → Int => (.inl (0, 6, .inl fun j => z (r j)) : va_E)) (if_neg hn)
  | 27, _, hn => exact congrArg (fun r : Nat → Int => (.inl (0, 6, .inl fun j => z (r j)) : va_E)) (if_neg hn)
  | 28, _, hn => exact congrArg (fun r : Nat → Int => (.inl (0, 60, .inl fun j => z (r j)) : va_E)) (if_neg hn)
  | 29, _, hn => exact congrArg (fun r : Nat → Int => (.inl (0, 60, .inl fun j => z (r j)) : va_E)) (if_neg hn)
  | 30, _, hn => exact congrArg (fun r : Nat → Int => (.inl (0, 60, .inl fun j => z (r j)) : va_E)) (if_neg hn)
  | 31, _, hn => exact congrArg (fun r : Nat → Int => (.inl (0, 60, .inl fun j => z (r j)) : va_E)) (if_neg hn)
  | 32, _, hn => exact congrArg (fun r : Nat → Int => (.inl (0, 4, .inl fun j => z (r j)) : va_E)) (if_neg hn)
  | j + 33, hj, _ => exact absurd hj (by omega)
theorem mw_0 : hup (mh h m M) m (.inr (12, MF m s)) = mh h m (sr M 0 s) := mw_g (k := 0) (by decide) rfl MB_o
theorem mw_1 : hup (mh h m M) (m + 1) (.inl (0, 4, .inl fun j => z (f j))) = mh h m (sr M 1 f) := mw_g (k := 1) (by decide) rfl MB_o
theorem mw_2 : hup (mh h m M) (m + 2) (.inl (0, 4, .inl fun j => z (f j))) = mh h m (sr M 2 f) := mw_g (k := 2) (by decide) rfl MB_o
theorem mw_3 : hup (mh h m M) (m + 3) (.inl (0, 4, .inl fun j => z (f j))) = mh h m (sr M 3 f) := mw_g (k := 3) (by decide) rfl MB_o
theorem mw_4 : hup (mh h m M) (m + 4) (.inl (1, 4, .inl fun j => z (f j))) = mh h m (sr M 4 f) := mw_g (k := 4) (by decide) rfl MB_o
theorem mw_5 : hup (mh h m M) (m + 5) (.inl (0, 4, .inl fun j => z (f j))) = mh h m (sr M 5 f) := mw_g (k := 5) (by decide) rfl MB_o
theorem mw_6 : hup (mh h m M) (m + 6) (.inl (0, 400, .inl fun j => z (f j))) = mh h m (sr M 6 f) := mw_g (k := 6) (by decide) rfl MB_o
theorem mw_7 : hup (mh h m M) (m + 7) (.inl (0, 400, .inl fun j => z (f j))) = mh h m (sr M 7 f) := mw_g (k := 7) (by decide) rfl MB_o
theorem mw_8 : hup (mh h m M) (m + 8) (.inl (0, 400, .inl fun j => z (f j))) = mh h m (sr M 8 f) := mw_g (k := 8) (by decide) rfl MB_o
theorem mw_9 : hup (mh h m M) (m + 9) (.inl (0, 400, .inl fun j => z (f j))) = mh h m (sr M 9 f) := mw_g (k := 9) (by decide) rfl MB_o
theorem mw_10 : hup (mh h m M) (m + 10) (.inl (0, 400, .inl fun j => z (f j))) = mh h m (sr M 10 f) := mw_g (k := 10) (by decide) rfl MB_o
theorem mw_11 : hup (mh h m M) (m + 11) (.inl (0, 5, .inl fun j => z (f j))) = mh h m (sr M 11 f) := mw_g (k := 11) (by decide) rfl MB_o
theorem mw_12 : hup (mh h m M) (m + 12) (.inl (0, 6, .inl fun j => z (f j))) = mh h m (sr M 12 f) := mw_g (k := 12) (by decide) rfl MB_o
theorem mw_13 : hup (mh h m M) (m + 13) (.inl (0, 168, .inl fun j => z (f j))) = mh h m (sr M 13 f) := mw_g (k := 13) (by decide) rfl MB_o
theorem mw_14 : hup (mh h m M) (m + 14) (.inl (0, 24, .inl fun j => z (f j))) = mh h m (sr M 14 f) := mw_g (k := 14) (by decide) rfl MB_o
theorem mw_15 : hup (mh h m M) (m + 15) (.inl (0, 6, .inl fun j => z (f j))) = mh h m (sr M 15 f) := mw_g (k := 15) (by decide) rfl MB_o
theorem mw_16 : hup (mh h m M) (m + 16) (.inl (0, 6, .inl fun j => z (f j))) = mh h m (sr M 16 f) := mw_g (k := 16) (by decide) rfl MB_o
theorem mw_17 : hup (mh h m M) (m + 17) (.inl (0, 6, .inl fun j => z (f j))) = mh h m (sr M 17 f) := mw_g (k := 17) (by decide) rfl MB_o
theorem mw_18 : hup (mh h m M) (m + 18) (.inl (0, 6, .inl fun j => z (f j))) = mh h m (sr M 18 f) := mw_g (k := 18) (by decide) rfl MB_o
theorem mw_19 : hup (mh h m M) (m + 19) (.inl (0, 360, .inl fun j => z (f j))) = mh h m (sr M 19 f) := mw_g (k := 19) (by decide) rfl MB_o
theorem mw_20 : hup (mh h m M) (m + 20) (.inl (0, 6, .inl fun j => z (f j))) = mh h m (sr M 20 f) := mw_g (k := 20) (by decide) rfl MB_o
theorem mw_21 : hup (mh h m M) (m + 21) (.inl (0, 6, .inl fun j => z (f j))) = mh h m (sr M 21 f) := mw_g (k := 21) (by decide) rfl MB_o
theorem mw_22 : hup (mh h m M) (m + 22) (.inl (1, 6, .inl fun j => z (f j))) = mh h m (sr M 22 f) := mw_g (k := 22) (by decide) rfl MB_o
theorem mw_23 : hup (mh h m M) (m + 23) (.inl (0, 6, .inl fun j => z (f j))) = mh h m (sr M 23 f) := mw_g (k := 23) (by decide) rfl MB_o
theorem mw_24 : hup (mh h m M) (m + 24) (.inl (0, 6, .inl fun j => z (f j))) = mh h m (sr M 24 f) := mw_g (k := 24) (by decide) rfl MB_o
theorem mw_25 : hup (mh h m M) (m + 25) (.inl (0, 6, .inl fun j => z (f j))) = mh h m (sr M 25 f) := mw_g (k := 25) (by decide) rfl MB_o
theorem mw_26 : hup (mh h m M) (m + 26) (.inl (0, 6, .inl fun j => z (f j))) = mh h m (sr M 26 f) := mw_g (k := 26) (by decide) rfl MB_o
theorem mw_27 : hup (mh h m M) (m + 27) (.inl (0, 6, .inl fun j => z (f j))) = mh h m (sr M 27 f) := mw_g (k := 27) (by decide) rfl MB_o
theorem mw_28 : hup (mh h m M) (m + 28) (.inl (0, 60, .inl fun j => z (f j))) = mh h m (sr M 28 f) := mw_g (k := 28) (by decide) rfl MB_o
theorem mw_29 : hup (mh h m M) (m + 29) (.inl (0, 60, .inl fun j => z (f j))) = mh h m (sr M 29 f) := mw_g (k := 29) (by decide) rfl MB_o
theorem mw_30 : hup (mh h m M) (m + 30) (.inl (0, 60, .inl fun j => z (f j))) = mh h m (sr M 30 f) := mw_g (k := 30) (by decide) rfl MB_o
theorem mw_31 : hup (mh h m M) (m + 31) (.inl (0, 60, .inl fun j => z (f j))) = mh h m (sr M 31 f) := mw_g (k := 31) (by decide) rfl MB_o
theorem mw_32 : hup (mh h m M) (m + 32) (.inl (0, 4, .inl fun j => z (f j))) = mh h m (sr M 32 f) := mw_g (k := 32) (by decide) rfl MB_o
theorem mn_0 : nf (MF m s) 0 = .int (z (s 0)) := rfl
theorem mp_0 : pf (MF m s) 0 (.int (z v)) = MF m (st1 s 0 v) := rfl
theorem ml_0 : lnb (MF m s) 0 = true := rfl
theorem mn_1 : nf (MF m s) 1 = .int (z (s 1)) := rfl
theorem mp_1 : pf (MF m s) 1 (.int (z v)) = MF m (st1 s 1 v) := rfl
theorem ml_1 : lnb (MF m s) 1 = true := rfl
theorem mn_2 : nf (MF m s) 2 = .ref (m + 1) := rfl
theorem mn_3 : nf (MF m s) 3 = .ref (m + 2) := rfl
theorem mn_4 : nf (MF m s) 4 = .ref (m + 3) := rfl
theorem mn_5 : nf (MF m s) 5 = .ref (m + 4) := rfl
theorem mn_6 : nf (MF m s) 6 = .ref (m + 5) := rfl
theorem mn_7 : nf (MF m s) 7 = .int (z (s 7)) := rfl
theorem mp_7 : pf (MF m s) 7 (.int (z v)) = MF m (st1 s 7 v) := rfl
theorem ml_7 : lnb (MF m s) 7 = true := rfl
theorem mn_8 : nf (MF m s) 8 = .int (z (s 8)) := rfl
theorem mp_8 : pf (MF m s) 8 (.int (z v)) = MF m (st1 s 8 v) := rfl
theorem ml_8 : lnb (MF m s) 8 = true := rfl
theorem mn_9 : nf (MF m s) 9 = .ref (m + 6) := rfl
theorem mn_10 : nf (MF m s) 10 = .ref (m + 7) := rfl
theorem mn_11 : nf (MF m s) 11 = .ref (m + 8) := rfl
theorem mn_12 : nf (MF m s) 12 = .ref (m + 9) := rfl
theorem mn_13 : nf (MF m s) 13 = .ref (m + 10) := rfl
theorem mn_14 : nf (MF m s) 14 = .int (z (s 14)) := rfl
theorem mp_14 : pf (MF m s) 14 (.int (z v)) = MF m (st1 s 14 v) := rfl
theorem ml_14 : lnb (MF m s) 14 = true := rfl
theorem mn_15 : nf (MF m s) 15 = .ref (m + 11) := rfl
theorem mn_16 : nf (MF m s) 16 = .int (z (s 16)) := rfl
theorem mp_16 : pf (MF m s) 16 (.int (z v)) = MF m (st1 s 16 v) := rfl
theorem ml_16 : lnb (MF m s) 16 = true := rfl
theorem mn_17 : nf (MF m s) 17 = .ref (m + 12) := rfl
theorem mn_18 : nf (MF m s) 18 = .ref (m + 13) := rfl
theorem mn_19 : nf (MF m s) 19 = .ref (m + 14) := rfl
theorem mn_20 : nf (MF m s) 20 = .ref (m + 15) := rfl
theorem mn_21 : nf (MF m s) 21 = .ref (m + 16) := rfl
theorem mn_22 : nf (MF m s) 22 = .ref (m + 17) := rfl
theorem mn_23 : nf (MF m s) 23 = .ref (m + 18) := rfl
theorem mn_24 : nf (MF m s) 24 = .ref (m + 19) := rfl
theorem mn_25 : nf (MF m s) 25 = .ref (m + 20) := rfl
theorem mn_26 : nf (MF m s) 26 = .ref (m + 21) := rfl
theorem mn_27 : nf (MF m s) 27 = .ref (m + 22) := rfl
theorem mn_28 : nf (MF m s) 28 = .ref (m + 23) := rfl
theorem mn_29 : nf (MF m s) 29 = .ref (m + 24) := rfl
theorem mn_30 : nf (MF m s) 30 = .ref (m + 25) := rfl
theorem mn_31 : nf (MF m s) 31 = .ref (m + 26) := rfl
theorem mn_32 : nf (MF m s) 32 = .ref (m + 27) := rfl
theorem mn_33 : nf (MF m s) 33 = .ref (m + 28) := rfl
theorem mn_34 : nf (MF m s) 34 = .ref (m + 29) := rfl
theorem mn_35 : nf (MF m s) 35 = .ref (m + 30) := rfl
theorem mn_36 : nf (MF m s) 36 = .ref (m + 31) := rfl
theorem mn_37 : nf (MF m s) 37 = .ref (m + 32) := rfl
theorem mn_38 : nf (MF m s) 38 = .int (z (s 38)) := rfl
theorem mp_38 : pf (MF m s) 38 (.int (z v)) = MF m (st1 s 38 v) := rfl
theorem ml_38 : lnb (MF m s) 38 = true := rfl
theorem mn_39 : nf (MF m s) 39 = .int (z (s 39)) := rfl
theorem mp_39 : pf (MF m s) 39 (.int (z v)) = MF m (st1 s 39 v) := rfl
theorem ml_39 : lnb (MF m s) 39 = true := rfl
theorem mn_40 : nf (MF m s) 40 = .int (z (s 40)) := rfl
theorem mp_40 : pf (MF m s) 40 (.int (z v)) = MF m (st1 s 40 v) := rfl
theorem ml_40 : lnb (MF m s) 40 = true := rfl
theorem sr_at (M : GS) (F : Nat) (f : Nat → Int) (F' : Nat) : sr M F f F' = if F' = F then f else M F' := rfl
theorem st1_at (f : Nat → Int) (i : Nat) (v : Int) (j : Nat) : st1 f i v j = if j = i then v else f j := rfl
theorem nar_z {b : Int} (hb : b = 0 ∨ b = 1) : vp_nar .boolean (z b) = z b := by
  rcases hb with rfl | rfl <;> rfl
theorem sr_sr (M : GS) (F : Nat) (f g : Nat → Int) : sr (sr M F f) F g = sr M F g := by
  funext r
  unfold sr
  by_cases h : r = F
  · rw [if_pos h, if_pos h]
  · rw [if_neg h, if_neg h, if_neg h]
theorem mh_mh (h : AH) (m : Nat) (M N : GS) : mh (mh h m M) m N = mh h m N := blk_blk
end MODEL0
