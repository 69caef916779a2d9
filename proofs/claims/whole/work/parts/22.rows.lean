/-! rows read and written within their bounds -/
theorem rows_ok {α : Type} {i N : Nat} {M : Int32} {x : Option α} {y : Option α} (hM : M = nI N) (hi : i < N) (hN : N < 2 ^ 31) : (if nI i < 0 then x else if M ≤ nI i then x else gI (nI i) N y) = y := by
  rw [if_neg (nI_pos (by omega)), hM, if_neg (nI_ge hi hN), gI_nI hi hN]
theorem vX6_set_14 {σ : SS} {i : Nat} {v : Int32} (hi : i < 8) : P_X6_set_14 (nI i) v σ = some (stA σ 3 (nI i) v) := rows_ok (N := 8) (M := 8) rfl hi (by decide)
theorem vX6_set_15 {σ : SS} {i : Nat} {v : Int32} (hi : i < 8) : P_X6_set_15 (nI i) v σ = some (stA σ 4 (nI i) v) := rows_ok (N := 8) (M := 8) rfl hi (by decide)
theorem vX6_set_16 {σ : SS} {i : Nat} {v : Int32} (hi : i < 8) : P_X6_set_16 (nI i) v σ = some (stA σ 5 (nI i) v) := rows_ok (N := 8) (M := 8) rfl hi (by decide)
theorem vX6_set_17 {σ : SS} {i : Nat} {v : Int32} (hi : i < 8) : P_X6_set_17 (nI i) v σ = some (stA σ 6 (nI i) v) := rows_ok (N := 8) (M := 8) rfl hi (by decide)
theorem vX6_set_11 {σ : SS} {i : Nat} {v : Int32} (hi : i < 16) : P_X6_set_11 (nI i) v σ = some (stA σ 0 (nI i) v) := rows_ok (N := 16) (M := 16) rfl hi (by decide)
theorem vX6_set_12 {σ : SS} {i : Nat} {v : Int32} (hi : i < 16) : P_X6_set_12 (nI i) v σ = some (stA σ 1 (nI i) v) := rows_ok (N := 16) (M := 16) rfl hi (by decide)
theorem vX6_set_13 {σ : SS} {i : Nat} {v : Int32} (hi : i < 16) : P_X6_set_13 (nI i) v σ = some (stA σ 2 (nI i) v) := rows_ok (N := 16) (M := 16) rfl hi (by decide)
theorem vX6_at_15 {σ : SS} {i : Nat} (hi : i < 8) : P_X6_at_15 (nI i) σ = some (sA σ 4 i) := by
  refine (rows_ok (α := Int32) (N := 8) (M := 8) (x := some 0) (y := some (ldA σ 4 (nI i))) rfl hi (by decide)).trans ?_
  simp only [ldA, ldL, ix_nI (show i < 2 ^ 31 by omega)]
theorem vX6_at_14 {σ : SS} {i : Nat} (hi : i < 8) : P_X6_at_14 (nI i) σ = some (sA σ 3 i) := by
  refine (rows_ok (α := Int32) (N := 8) (M := 8) (x := some 0) (y := some (ldA σ 3 (nI i))) rfl hi (by decide)).trans ?_
  simp only [ldA, ldL, ix_nI (show i < 2 ^ 31 by omega)]
theorem vX6_at_16 {σ : SS} {i : Nat} (hi : i < 8) : P_X6_at_16 (nI i) σ = some (sA σ 5 i) := by
  refine (rows_ok (α := Int32) (N := 8) (M := 8) (x := some 0) (y := some (ldA σ 5 (nI i))) rfl hi (by decide)).trans ?_
  simp only [ldA, ldL, ix_nI (show i < 2 ^ 31 by omega)]
theorem vX6_at_17 {σ : SS} {i : Nat} (hi : i < 8) : P_X6_at_17 (nI i) σ = some (sA σ 6 i) := by
  refine (rows_ok (α := Int32) (N := 8) (M := 8) (x := some 0) (y := some (ldA σ 6 (nI i))) rfl hi (by decide)).trans ?_
  simp only [ldA, ldL, ix_nI (show i < 2 ^ 31 by omega)]
theorem vX6_at_18 {σ : SS} {i : Nat} (hi : i < 16) : P_X6_at_18 (nI i) σ = some (sA σ 7 i) := by
  refine (rows_ok (α := Int32) (N := 16) (M := 16) (x := some 0) (y := some (ldA σ 7 (nI i))) rfl hi (by decide)).trans ?_
  simp only [ldA, ldL, ix_nI (show i < 2 ^ 31 by omega)]
theorem vX6_set__20 {σ : SS} {i : Nat} {v : Int64} (hi : i < 5200) : P_X6_set__20 (nI i) v σ = some (stL σ 1 (nI i) v) := rows_ok (N := 5200) (M := 5200) rfl hi (by decide)
theorem vX6_at__20 {σ : SS} {i : Nat} (hi : i < 5200) : P_X6_at__20 (nI i) σ = some (sL σ 1 i) := by
  refine (rows_ok (α := Int64) (N := 5200) (M := 5200) (x := some 0) (y := some (ldL σ 1 (nI i))) rfl hi (by decide)).trans ?_
  simp only [ldA, ldL, ix_nI (show i < 2 ^ 31 by omega)]
theorem vX6_set__19 {σ : SS} {i : Nat} {v : Int64} (hi : i < 400) : P_X6_set__19 (nI i) v σ = some (stL σ 0 (nI i) v) := rows_ok (N := 400) (M := 400) rfl hi (by decide)
theorem vX6_at_22 {σ : SS} {i : Nat} (hi : i < 608) : P_X6_at_22 (nI i) σ = some (sA σ 9 i) := by
  refine (rows_ok (α := Int32) (N := 608) (M := 608) (x := some 0) (y := some (ldA σ 9 (nI i))) rfl hi (by decide)).trans ?_
  simp only [ldA, ldL, ix_nI (show i < 2 ^ 31 by omega)]
theorem vX6_at_23 {σ : SS} {i : Nat} (hi : i < 608) : P_X6_at_23 (nI i) σ = some (sA σ 10 i) := by
  refine (rows_ok (α := Int32) (N := 608) (M := 608) (x := some 0) (y := some (ldA σ 10 (nI i))) rfl hi (by decide)).trans ?_
  simp only [ldA, ldL, ix_nI (show i < 2 ^ 31 by omega)]
theorem vX6_at__24 {σ : SS} {i : Nat} (hi : i < 608) : P_X6_at__24 (nI i) σ = some (sL σ 2 i) := by
  refine (rows_ok (α := Int64) (N := 608) (M := 608) (x := some 0) (y := some (ldL σ 2 (nI i))) rfl hi (by decide)).trans ?_
  simp only [ldA, ldL, ix_nI (show i < 2 ^ 31 by omega)]
theorem vX6_at_21 {σ : SS} {i : Nat} (hi : i < 608) : P_X6_at_21 (nI i) σ = some (sA σ 8 i) := by
  refine (rows_ok (α := Int32) (N := 608) (M := 608) (x := some 0) (y := some (ldA σ 8 (nI i))) rfl hi (by decide)).trans ?_
  simp only [ldA, ldL, ix_nI (show i < 2 ^ 31 by omega)]
theorem vX6_at___C {i : Nat} (hi : i < 9) : P_X6_at___C (nI i) = some (chC i) := by
  refine (rows_ok (α := Int32) (N := 9) (M := 9) (x := some 0) (y := some (chC (ix (nI i)))) rfl hi (by decide)).trans ?_
  rw [ix_nI (by omega)]
theorem vX6_at___O {i : Nat} (hi : i < 9) : P_X6_at___O (nI i) = some (chO i) := by
  refine (rows_ok (α := Int32) (N := 9) (M := 9) (x := some 0) (y := some (chO (ix (nI i)))) rfl hi (by decide)).trans ?_
  rw [ix_nI (by omega)]
theorem vX6_at_37 {σ : SS} {i : Nat} (hi : i < 300) : P_X6_at_37 (nI i) σ = some (sA σ 21 i) := by
  refine (rows_ok (α := Int32) (N := 300) (M := 300) (x := some 0) (y := some (ldA σ 21 (nI i))) rfl hi (by decide)).trans ?_
  simp only [ldA, ldL, ix_nI (show i < 2 ^ 31 by omega)]
theorem vX6_at_36 {σ : SS} {i : Nat} (hi : i < 300) : P_X6_at_36 (nI i) σ = some (sA σ 20 i) := by
  refine (rows_ok (α := Int32) (N := 300) (M := 300) (x := some 0) (y := some (ldA σ 20 (nI i))) rfl hi (by decide)).trans ?_
  simp only [ldA, ldL, ix_nI (show i < 2 ^ 31 by omega)]
theorem vX6_set_28 {σ : SS} {i : Nat} {v : Int32} (hi : i < 300) : P_X6_set_28 (nI i) v σ = some (stA σ 14 (nI i) v) := rows_ok (N := 300) (M := 300) rfl hi (by decide)
theorem vX6_at_35 {σ : SS} {i : Nat} (hi : i < 300) : P_X6_at_35 (nI i) σ = some (sA σ 19 i) := by
  refine (rows_ok (α := Int32) (N := 300) (M := 300) (x := some 0) (y := some (ldA σ 19 (nI i))) rfl hi (by decide)).trans ?_
  simp only [ldA, ldL, ix_nI (show i < 2 ^ 31 by omega)]
theorem vX6_set_25 {σ : SS} {i : Nat} {v : Int32} (hi : i < 300) : P_X6_set_25 (nI i) v σ = some (stA σ 11 (nI i) v) := rows_ok (N := 300) (M := 300) rfl hi (by decide)
theorem vX6_set_26 {σ : SS} {i : Nat} {v : Int32} (hi : i < 300) : P_X6_set_26 (nI i) v σ = some (stA σ 12 (nI i) v) := rows_ok (N := 300) (M := 300) rfl hi (by decide)
theorem vX6_set_27 {σ : SS} {i : Nat} {v : Int32} (hi : i < 300) : P_X6_set_27 (nI i) v σ = some (stA σ 13 (nI i) v) := rows_ok (N := 300) (M := 300) rfl hi (by decide)
theorem vX6_set_29 {σ : SS} {i : Nat} {v : Int32} (hi : i < 300) : P_X6_set_29 (nI i) v σ = some (stA σ 15 (nI i) v) := rows_ok (N := 300) (M := 300) rfl hi (by decide)
theorem vX6_set_30 {σ : SS} {i : Nat} {v : Int32} (hi : i < 300) : P_X6_set_30 (nI i) v σ = some (stA σ 16 (nI i) v) := rows_ok (N := 300) (M := 300) rfl hi (by decide)
theorem vX6_at_27 {σ : SS} {i : Nat} (hi : i < 300) : P_X6_at_27 (nI i) σ = some (sA σ 13 i) := by
  refine (rows_ok (α := Int32) (N := 300) (M := 300) (x := some 0) (y := some (ldA σ 13 (nI i))) rfl hi (by decide)).trans ?_
  simp only [ldA, ldL, ix_nI (show i < 2 ^ 31 by omega)]
theorem vX6_at_25 {σ : SS} {i : Nat} (hi : i < 300) : P_X6_at_25 (nI i) σ = some (sA σ 11 i) := by
  refine (rows_ok (α := Int32) (N := 300) (M := 300) (x := some 0) (y := some (ldA σ 11 (nI i))) rfl hi (by decide)).trans ?_
  simp only [ldA, ldL, ix_nI (show i < 2 ^ 31 by omega)]
theorem vX6_at_30 {σ : SS} {i : Nat} (hi : i < 300) : P_X6_at_30 (nI i) σ = some (sA σ 16 i) := by
  refine (rows_ok (α := Int32) (N := 300) (M := 300) (x := some 0) (y := some (ldA σ 16 (nI i))) rfl hi (by decide)).trans ?_
  simp only [ldA, ldL, ix_nI (show i < 2 ^ 31 by omega)]
theorem vX6_at_26 {σ : SS} {i : Nat} (hi : i < 300) : P_X6_at_26 (nI i) σ = some (sA σ 12 i) := by
  refine (rows_ok (α := Int32) (N := 300) (M := 300) (x := some 0) (y := some (ldA σ 12 (nI i))) rfl hi (by decide)).trans ?_
  simp only [ldA, ldL, ix_nI (show i < 2 ^ 31 by omega)]
theorem vX6_at_28 {σ : SS} {i : Nat} (hi : i < 300) : P_X6_at_28 (nI i) σ = some (sA σ 14 i) := by
  refine (rows_ok (α := Int32) (N := 300) (M := 300) (x := some 0) (y := some (ldA σ 14 (nI i))) rfl hi (by decide)).trans ?_
  simp only [ldA, ldL, ix_nI (show i < 2 ^ 31 by omega)]
theorem vX6_at_29 {σ : SS} {i : Nat} (hi : i < 300) : P_X6_at_29 (nI i) σ = some (sA σ 15 i) := by
  refine (rows_ok (α := Int32) (N := 300) (M := 300) (x := some 0) (y := some (ldA σ 15 (nI i))) rfl hi (by decide)).trans ?_
  simp only [ldA, ldL, ix_nI (show i < 2 ^ 31 by omega)]
theorem vX6_set_32 {σ : SS} {i : Nat} {v : Int32} (hi : i < 300) : P_X6_set_32 (nI i) v σ = some (stA σ 17 (nI i) v) := rows_ok (N := 300) (M := 300) rfl hi (by decide)
theorem vX6_at_32 {σ : SS} {i : Nat} (hi : i < 300) : P_X6_at_32 (nI i) σ = some (sA σ 17 i) := by
  refine (rows_ok (α := Int32) (N := 300) (M := 300) (x := some 0) (y := some (ldA σ 17 (nI i))) rfl hi (by decide)).trans ?_
  simp only [ldA, ldL, ix_nI (show i < 2 ^ 31 by omega)]
theorem vX6_at__31 {σ : SS} {i : Nat} (hi : i < 300) : P_X6_at__31 (nI i) σ = some (sL σ 3 i) := by
  refine (rows_ok (α := Int64) (N := 300) (M := 300) (x := some 0) (y := some (ldL σ 3 (nI i))) rfl hi (by decide)).trans ?_
  simp only [ldA, ldL, ix_nI (show i < 2 ^ 31 by omega)]
theorem vX6_set_33 {σ : SS} {i : Nat} {v : Int32} (hi : i < 300) : P_X6_set_33 (nI i) v σ = some (stA σ 18 (nI i) v) := rows_ok (N := 300) (M := 300) rfl hi (by decide)
theorem vX6_set__34 {σ : SS} {i : Nat} {v : Int64} (hi : i < 300) : P_X6_set__34 (nI i) v σ = some (stL σ 4 (nI i) v) := rows_ok (N := 300) (M := 300) rfl hi (by decide)
theorem vX6_set__31 {σ : SS} {i : Nat} {v : Int64} (hi : i < 300) : P_X6_set__31 (nI i) v σ = some (stL σ 3 (nI i) v) := rows_ok (N := 300) (M := 300) rfl hi (by decide)
