theorem ib_6 {n : Nat} (h : 6 < n) : inb 6 n := ⟨by decide, by rw [show (6 : Int32).toInt = 6 by decide]; omega⟩
theorem nn_6 : ¬ (6 : Int32) < 0 := by decide
theorem bp_7 : (Int8.ofInt 7).toInt32 = 7 := by decide
theorem ix_7 : ix 7 = 7 := by decide
theorem ib_7 {n : Nat} (h : 7 < n) : inb 7 n := ⟨by decide, by rw [show (7 : Int32).toInt = 7 by decide]; omega⟩
theorem nn_7 : ¬ (7 : Int32) < 0 := by decide
theorem bp_8 : (Int8.ofInt 8).toInt32 = 8 := by decide
theorem ix_8 : ix 8 = 8 := by decide
theorem ib_8 {n : Nat} (h : 8 < n) : inb 8 n := ⟨by decide, by rw [show (8 : Int32).toInt = 8 by decide]; omega⟩
theorem nn_8 : ¬ (8 : Int32) < 0 := by decide
theorem bp_9 : (Int8.ofInt 9).toInt32 = 9 := by decide
theorem ix_9 : ix 9 = 9 := by decide
theorem ib_9 {n : Nat} (h : 9 < n) : inb 9 n := ⟨by decide, by rw [show (9 : Int32).toInt = 9 by decide]; omega⟩
theorem nn_9 : ¬ (9 : Int32) < 0 := by decide
theorem bp_10 : (Int8.ofInt 10).toInt32 = 10 := by decide
theorem ix_10 : ix 10 = 10 := by decide
theorem ib_10 {n : Nat} (h : 10 < n) : inb 10 n := ⟨by decide, by rw [show (10 : Int32).toInt = 10 by decide]; omega⟩
theorem nn_10 : ¬ (10 : Int32) < 0 := by decide
theorem bp_11 : (Int8.ofInt 11).toInt32 = 11 := by decide
theorem ix_11 : ix 11 = 11 := by decide
theorem ib_11 {n : Nat} (h : 11 < n) : inb 11 n := ⟨by decide, by rw [show (11 : Int32).toInt = 11 by decide]; omega⟩
theorem nn_11 : ¬ (11 : Int32) < 0 := by decide
theorem bp_12 : (Int8.ofInt 12).toInt32 = 12 := by decide
theorem ix_12 : ix 12 = 12 := by decide
theorem ib_12 {n : Nat} (h : 12 < n) : inb 12 n := ⟨by decide, by rw [show (12 : Int32).toInt = 12 by decide]; omega⟩
theorem nn_12 : ¬ (12 : Int32) < 0 := by decide
theorem bp_14 : (Int8.ofInt 14).toInt32 = 14 := by decide
theorem ix_14 : ix 14 = 14 := by decide
theorem ib_14 {n : Nat} (h : 14 < n) : inb 14 n := ⟨by decide, by rw [show (14 : Int32).toInt = 14 by decide]; omega⟩
theorem nn_14 : ¬ (14 : Int32) < 0 := by decide
theorem bp_15 : (Int8.ofInt 15).toInt32 = 15 := by decide
theorem ix_15 : ix 15 = 15 := by decide
theorem ib_15 {n : Nat} (h : 15 < n) : inb 15 n := ⟨by decide, by rw [show (15 : Int32).toInt = 15 by decide]; omega⟩
theorem nn_15 : ¬ (15 : Int32) < 0 := by decide
theorem bp_16 : (Int8.ofInt 16).toInt32 = 16 := by decide
theorem ix_16 : ix 16 = 16 := by decide
theorem ib_16 {n : Nat} (h : 16 < n) : inb 16 n := ⟨by decide, by rw [show (16 : Int32).toInt = 16 by decide]; omega⟩
theorem nn_16 : ¬ (16 : Int32) < 0 := by decide
theorem bp_18 : (Int8.ofInt 18).toInt32 = 18 := by decide
theorem ix_18 : ix 18 = 18 := by decide
theorem ib_18 {n : Nat} (h : 18 < n) : inb 18 n := ⟨by decide, by rw [show (18 : Int32).toInt = 18 by decide]; omega⟩
theorem nn_18 : ¬ (18 : Int32) < 0 := by decide
theorem bp_19 : (Int8.ofInt 19).toInt32 = 19 := by decide
theorem ix_19 : ix 19 = 19 := by decide
theorem ib_19 {n : Nat} (h : 19 < n) : inb 19 n := ⟨by decide, by rw [show (19 : Int32).toInt = 19 by decide]; omega⟩
theorem nn_19 : ¬ (19 : Int32) < 0 := by decide
theorem bp_20 : (Int8.ofInt 20).toInt32 = 20 := by decide
theorem ix_20 : ix 20 = 20 := by decide
theorem ib_20 {n : Nat} (h : 20 < n) : inb 20 n := ⟨by decide, by rw [show (20 : Int32).toInt = 20 by decide]; omega⟩
theorem nn_20 : ¬ (20 : Int32) < 0 := by decide
theorem bp_21 : (Int8.ofInt 21).toInt32 = 21 := by decide
theorem ix_21 : ix 21 = 21 := by decide
theorem ib_21 {n : Nat} (h : 21 < n) : inb 21 n := ⟨by decide, by rw [show (21 : Int32).toInt = 21 by decide]; omega⟩
theorem nn_21 : ¬ (21 : Int32) < 0 := by decide
theorem bp_22 : (Int8.ofInt 22).toInt32 = 22 := by decide
theorem ix_22 : ix 22 = 22 := by decide
theorem ib_22 {n : Nat} (h : 22 < n) : inb 22 n := ⟨by decide, by rw [show (22 : Int32).toInt = 22 by decide]; omega⟩
theorem nn_22 : ¬ (22 : Int32) < 0 := by decide
theorem bp_23 : (Int8.ofInt 23).toInt32 = 23 := by decide
theorem ix_23 : ix 23 = 23 := by decide
theorem ib_23 {n : Nat} (h : 23 < n) : inb 23 n := ⟨by decide, by rw [show (23 : Int32).toInt = 23 by decide]; omega⟩
theorem nn_23 : ¬ (23 : Int32) < 0 := by decide
theorem bp_24 : (Int8.ofInt 24).toInt32 = 24 := by decide
theorem ix_24 : ix 24 = 24 := by decide
theorem ib_24 {n : Nat} (h : 24 < n) : inb 24 n := ⟨by decide, by rw [show (24 : Int32).toInt = 24 by decide]; omega⟩
theorem nn_24 : ¬ (24 : Int32) < 0 := by decide
theorem bp_30 : (Int8.ofInt 30).toInt32 = 30 := by decide
theorem ix_30 : ix 30 = 30 := by decide
theorem ib_30 {n : Nat} (h : 30 < n) : inb 30 n := ⟨by decide, by rw [show (30 : Int32).toInt = 30 by decide]; omega⟩
theorem nn_30 : ¬ (30 : Int32) < 0 := by decide
theorem bp_42 : (Int8.ofInt 42).toInt32 = 42 := by decide
theorem ix_42 : ix 42 = 42 := by decide
theorem ib_42 {n : Nat} (h : 42 < n) : inb 42 n := ⟨by decide, by rw [show (42 : Int32).toInt = 42 by decide]; omega⟩
theorem nn_42 : ¬ (42 : Int32) < 0 := by decide
theorem bp_46 : (Int8.ofInt 46).toInt32 = 46 := by decide
theorem ix_46 : ix 46 = 46 := by decide
theorem ib_46 {n : Nat} (h : 46 < n) : inb 46 n := ⟨by decide, by rw [show (46 : Int32).toInt = 46 by decide]; omega⟩
theorem nn_46 : ¬ (46 : Int32) < 0 := by decide
theorem bp_50 : (Int8.ofInt 50).toInt32 = 50 := by decide
theorem ix_50 : ix 50 = 50 := by decide
theorem ib_50 {n : Nat} (h : 50 < n) : inb 50 n := ⟨by decide, by rw [show (50 : Int32).toInt = 50 by decide]; omega⟩
theorem nn_50 : ¬ (50 : Int32) < 0 := by decide
theorem bp_60 : (Int8.ofInt 60).toInt32 = 60 := by decide
theorem ix_60 : ix 60 = 60 := by decide
theorem ib_60 {n : Nat} (h : 60 < n) : inb 60 n := ⟨by decide, by rw [show (60 : Int32).toInt = 60 by decide]; omega⟩
theorem nn_60 : ¬ (60 : Int32) < 0 := by decide
theorem bp_99 : (Int8.ofInt 99).toInt32 = 99 := by decide
theorem ix_99 : ix 99 = 99 := by decide
theorem ib_99 {n : Nat} (h : 99 < n) : inb 99 n := ⟨by decide, by rw [show (99 : Int32).toInt = 99 by decide]; omega⟩
theorem nn_99 : ¬ (99 : Int32) < 0 := by decide
theorem bp_100 : (Int8.ofInt 100).toInt32 = 100 := by decide
theorem ix_100 : ix 100 = 100 := by decide
theorem ib_100 {n : Nat} (h : 100 < n) : inb 100 n := ⟨by decide, by rw [show (100 : Int32).toInt = 100 by decide]; omega⟩
theorem nn_100 : ¬ (100 : Int32) < 0 := by decide
