section
/-! ===== the words' codes ===== -/
def cod (x : Nat) : Nat := [81387, 370116, 24627848, 1253, 17376357, 17171557, 758955, 591150, 3751652, 20232293, 20099475, 4785907, 24165011, 21015731, 294, 498, 1476, 14836].getD x 0
theorem wt_0 : wcN (0 * 5 + 0) = 98 ∧ wcN (0 * 5 + 1) = 111 ∧ wcN (0 * 5 + 2) = 111 ∧ wcN (0 * 5 + 3) = 107 ∧ wcN (0 * 5 + 4) = 32 := by decide +kernel
theorem wt_1 : wcN (1 * 5 + 0) = 107 ∧ wcN (1 * 5 + 1) = 105 ∧ wcN (1 * 5 + 2) = 110 ∧ wcN (1 * 5 + 3) = 100 ∧ wcN (1 * 5 + 4) = 32 := by decide +kernel
theorem wt_2 : wcN (2 * 5 + 0) = 119 ∧ wcN (2 * 5 + 1) = 111 ∧ wcN (2 * 5 + 2) = 114 ∧ wcN (2 * 5 + 3) = 116 ∧ wcN (2 * 5 + 4) = 104 := by decide +kernel
theorem wt_3 : wcN (3 * 5 + 0) = 97 ∧ wcN (3 * 5 + 1) = 103 ∧ wcN (3 * 5 + 2) = 101 ∧ wcN (3 * 5 + 3) = 32 ∧ wcN (3 * 5 + 4) = 32 := by decide +kernel
theorem wt_4 : wcN (4 * 5 + 0) = 112 ∧ wcN (4 * 5 + 1) = 114 ∧ wcN (4 * 5 + 2) = 105 ∧ wcN (4 * 5 + 3) = 99 ∧ wcN (4 * 5 + 4) = 101 := by decide +kernel
theorem wt_5 : wcN (5 * 5 + 0) = 112 ∧ wcN (5 * 5 + 1) = 108 ∧ wcN (5 * 5 + 2) = 97 ∧ wcN (5 * 5 + 3) = 99 ∧ wcN (5 * 5 + 4) = 101 := by decide +kernel
theorem wt_6 : wcN (6 * 5 + 0) = 119 ∧ wcN (6 * 5 + 1) = 101 ∧ wcN (6 * 5 + 2) = 101 ∧ wcN (6 * 5 + 3) = 107 ∧ wcN (6 * 5 + 4) = 32 := by decide +kernel
theorem wt_7 : wcN (7 * 5 + 0) = 114 ∧ wcN (7 * 5 + 1) = 97 ∧ wcN (7 * 5 + 2) = 105 ∧ wcN (7 * 5 + 3) = 110 ∧ wcN (7 * 5 + 4) = 32 := by decide +kernel
theorem wt_8 : wcN (8 * 5 + 0) = 99 ∧ wcN (8 * 5 + 1) = 114 ∧ wcN (8 * 5 + 2) = 111 ∧ wcN (8 * 5 + 3) = 119 ∧ wcN (8 * 5 + 4) = 100 := by decide +kernel
theorem wt_9 : wcN (9 * 5 + 0) = 115 ∧ wcN (9 * 5 + 1) = 105 ∧ wcN (9 * 5 + 2) = 110 ∧ wcN (9 * 5 + 3) = 99 ∧ wcN (9 * 5 + 4) = 101 := by decide +kernel
theorem wt_10 : wcN (10 * 5 + 0) = 115 ∧ wcN (10 * 5 + 1) = 101 ∧ wcN (10 * 5 + 2) = 108 ∧ wcN (10 * 5 + 3) = 108 ∧ wcN (10 * 5 + 4) = 115 := by decide +kernel
theorem wt_11 : wcN (11 * 5 + 0) = 100 ∧ wcN (11 * 5 + 1) = 114 ∧ wcN (11 * 5 + 2) = 97 ∧ wcN (11 * 5 + 3) = 119 ∧ wcN (11 * 5 + 4) = 115 := by decide +kernel
theorem wt_12 : wcN (12 * 5 + 0) = 119 ∧ wcN (12 * 5 + 1) = 97 ∧ wcN (12 * 5 + 2) = 110 ∧ wcN (12 * 5 + 3) = 116 ∧ wcN (12 * 5 + 4) = 115 := by decide +kernel
theorem wt_13 : wcN (13 * 5 + 0) = 116 ∧ wcN (13 * 5 + 1) = 97 ∧ wcN (13 * 5 + 2) = 107 ∧ wcN (13 * 5 + 3) = 101 ∧ wcN (13 * 5 + 4) = 115 := by decide +kernel
theorem wt_14 : wcN (14 * 5 + 0) = 105 ∧ wcN (14 * 5 + 1) = 102 ∧ wcN (14 * 5 + 2) = 32 ∧ wcN (14 * 5 + 3) = 32 ∧ wcN (14 * 5 + 4) = 32 := by decide +kernel
theorem wt_15 : wcN (15 * 5 + 0) = 111 ∧ wcN (15 * 5 + 1) = 114 ∧ wcN (15 * 5 + 2) = 32 ∧ wcN (15 * 5 + 3) = 32 ∧ wcN (15 * 5 + 4) = 32 := by decide +kernel
theorem wt_16 : wcN (16 * 5 + 0) = 97 ∧ wcN (16 * 5 + 1) = 110 ∧ wcN (16 * 5 + 2) = 100 ∧ wcN (16 * 5 + 3) = 32 ∧ wcN (16 * 5 + 4) = 32 := by decide +kernel
theorem wt_17 : wcN (17 * 5 + 0) = 110 ∧ wcN (17 * 5 + 1) = 111 ∧ wcN (17 * 5 + 2) = 116 ∧ wcN (17 * 5 + 3) = 32 ∧ wcN (17 * 5 + 4) = 32 := by decide +kernel
theorem wm_1 {x0 : Nat} (h0 : 97 ≤ x0 ∧ x0 ≤ 122) (x : Nat) (hx : x < 18) : (x0 = wcN (x * 5 + 0) ∧ 32 = wcN (x * 5 + 1) ∧ 32 = wcN (x * 5 + 2) ∧ 32 = wcN (x * 5 + 3) ∧ 32 = wcN (x * 5 + 4)) ↔ (0 * 32 + (x0 - 96)) = cod x := by
  rcases (show x = 0 ∨ x = 1 ∨ x = 2 ∨ x = 3 ∨ x = 4 ∨ x = 5 ∨ x = 6 ∨ x = 7 ∨ x = 8 ∨ x = 9 ∨ x = 10 ∨ x = 11 ∨ x = 12 ∨ x = 13 ∨ x = 14 ∨ x = 15 ∨ x = 16 ∨ x = 17 by omega) with rfl | rfl | rfl | rfl | rfl | rfl | rfl | rfl | rfl | rfl | rfl | rfl | rfl | rfl | rfl | rfl | rfl | rfl
  · obtain ⟨e0, e1, e2, e3, e4⟩ := wt_0
    rw [e0, e1, e2, e3, e4]
    show (x0 = 98 ∧ 32 = 111 ∧ 32 = 111 ∧ 32 = 107 ∧ 32 = 32) ↔ (0 * 32 + (x0 - 96)) = 81387
    constructor
    · intro q
      omega
    · intro q
      omega
  · obtain ⟨e0, e1, e2, e3, e4⟩ := wt_1
    rw [e0, e1, e2, e3, e4]
    show (x0 = 107 ∧ 32 = 105 ∧ 32 = 110 ∧ 32 = 100 ∧ 32 = 32) ↔ (0 * 32 + (x0 - 96)) = 370116
    constructor
    · intro q
      omega
    · intro q
      omega
  · obtain ⟨e0, e1, e2, e3, e4⟩ := wt_2
    rw [e0, e1, e2, e3, e4]
    show (x0 = 119 ∧ 32 = 111 ∧ 32 = 114 ∧ 32 = 116 ∧ 32 = 104) ↔ (0 * 32 + (x0 - 96)) = 24627848
    constructor
    · intro q
      omega
    · intro q
      omega
  · obtain ⟨e0, e1, e2, e3, e4⟩ := wt_3
    rw [e0, e1, e2, e3, e4]
    show (x0 = 97 ∧ 32 = 103 ∧ 32 = 101 ∧ 32 = 32 ∧ 32 = 32) ↔ (0 * 32 + (x0 - 96)) = 1253
    constructor
    · intro q
      omega
    · intro q
      omega
  · obtain ⟨e0, e1, e2, e3, e4⟩ := wt_4
    rw [e0, e1, e2, e3, e4]
    show (x0 = 112 ∧ 32 = 114 ∧ 32 = 105 ∧ 32 = 99 ∧ 32 = 101) ↔ (0 * 32 + (x0 - 96)) = 17376357
    constructor
    · intro q
      omega
    · intro q
      omega
  · obtain ⟨e0, e1, e2, e3, e4⟩ := wt_5
    rw [e0, e1, e2, e3, e4]
    show (x0 = 112 ∧ 32 = 108 ∧ 32 = 97 ∧ 32 = 99 ∧ 32 = 101) ↔ (0 * 32 + (x0 - 96)) = 17171557
    constructor
    · intro q
      omega
    · intro q
      omega
  · obtain ⟨e0, e1, e2, e3, e4⟩ := wt_6
    rw [e0, e1, e2, e3, e4]
    show (x0 = 119 ∧ 32 = 101 ∧ 32 = 101 ∧ 32 = 107 ∧ 32 = 32) ↔ (0 * 32 + (x0 - 96)) = 758955
    constructor
    · intro q
      omega
    · intro q
      omega
  · obtain ⟨e0, e1, e2, e3, e4⟩ := wt_7
    rw [e0, e1, e2, e3, e4]
    show (x0 = 114 ∧ 32 = 97 ∧ 32 = 105 ∧ 32 = 110 ∧ 32 = 32) ↔ (0 * 32 + (x0 - 96)) = 591150
    constructor
    · intro q
      omega
    · intro q
      omega
  · obtain ⟨e0, e1, e2, e3, e4⟩ := wt_8
    rw [e0, e1, e2, e3, e4]
    show (x0 = 99 ∧ 32 = 114 ∧ 32 = 111 ∧ 32 = 119 ∧ 32 = 100) ↔ (0 * 32 + (x0 - 96)) = 3751652
    constructor
    · intro q
      omega
    · intro q
      omega
  · obtain ⟨e0, e1, e2, e3, e4⟩ := wt_9
    rw [e0, e1, e2, e3, e4]
    show (x0 = 115 ∧ 32 = 105 ∧ 32 = 110 ∧ 32 = 99 ∧ 32 = 101) ↔ (0 * 32 + (x0 - 96)) = 20232293
    constructor
    · intro q
      omega
    · intro q
      omega
  · obtain ⟨e0, e1, e2, e3, e4⟩ := wt_10
    rw [e0, e1, e2, e3, e4]
    show (x0 = 115 ∧ 32 = 101 ∧ 32 = 108 ∧ 32 = 108 ∧ 32 = 115) ↔ (0 * 32 + (x0 - 96)) = 20099475
    constructor
    · intro q
      omega
    · intro q
      omega
  · obtain ⟨e0, e1, e2, e3, e4⟩ := wt_11
    rw [e0, e1, e2, e3, e4]
    show (x0 = 100 ∧ 32 = 114 ∧ 32 = 97 ∧ 32 = 119 ∧ 32 = 115) ↔ (0 * 32 + (x0 - 96)) = 4785907
    constructor
    · intro q
      omega
    · intro q
      omega
  · obtain ⟨e0, e1, e2, e3, e4⟩ := wt_12
    rw [e0, e1, e2, e3, e4]
    show (x0 = 119 ∧ 32 = 97 ∧ 32 = 110 ∧ 32 = 116 ∧ 32 = 115) ↔ (0 * 32 + (x0 - 96)) = 24165011
    constructor
    · intro q
      omega
    · intro q
      omega
  · obtain ⟨e0, e1, e2, e3, e4⟩ := wt_13
    rw [e0, e1, e2, e3, e4]
    show (x0 = 116 ∧ 32 = 97 ∧ 32 = 107 ∧ 32 = 101 ∧ 32 = 115) ↔ (0 * 32 + (x0 - 96)) = 21015731
    constructor
    · intro q
      omega
    · intro q
      omega
  · obtain ⟨e0, e1, e2, e3, e4⟩ := wt_14
    rw [e0, e1, e2, e3, e4]
    show (x0 = 105 ∧ 32 = 102 ∧ 32 = 32 ∧ 32 = 32 ∧ 32 = 32) ↔ (0 * 32 + (x0 - 96)) = 294
    constructor
    · intro q
      omega
    · intro q
      omega
  · obtain ⟨e0, e1, e2, e3, e4⟩ := wt_15
    rw [e0, e1, e2, e3, e4]
    show (x0 = 111 ∧ 32 = 114 ∧ 32 = 32 ∧ 32 = 32 ∧ 32 = 32) ↔ (0 * 32 + (x0 - 96)) = 498
    constructor
    · intro q
      omega
    · intro q
      omega
  · obtain ⟨e0, e1, e2, e3, e4⟩ := wt_16
    rw [e0, e1, e2, e3, e4]
    show (x0 = 97 ∧ 32 = 110 ∧ 32 = 100 ∧ 32 = 32 ∧ 32 = 32) ↔ (0 * 32 + (x0 - 96)) = 1476
    constructor
    · intro q
      omega
    · intro q
      omega
  · obtain ⟨e0, e1, e2, e3, e4⟩ := wt_17
    rw [e0, e1, e2, e3, e4]
    show (x0 = 110 ∧ 32 = 111 ∧ 32 = 116 ∧ 32 = 32 ∧ 32 = 32) ↔ (0 * 32 + (x0 - 96)) = 14836
    constructor
    · intro q
      omega
    · intro q
      omega
theorem wm_2 {x0 x1 : Nat} (h0 : 97 ≤ x0 ∧ x0 ≤ 122) (h1 : 97 ≤ x1 ∧ x1 ≤ 122) (x : Nat) (hx : x < 18) : (x0 = wcN (x * 5 + 0) ∧ x1 = wcN (x * 5 + 1) ∧ 32 = wcN (x * 5 + 2) ∧ 32 = wcN (x * 5 + 3) ∧ 32 = wcN (x * 5 + 4)) ↔ ((0 * 32 + (x0 - 96)) * 32 + (x1 - 96)) = cod x := by
  rcases (show x = 0 ∨ x = 1 ∨ x = 2 ∨ x = 3 ∨ x = 4 ∨ x = 5 ∨ x = 6 ∨ x = 7 ∨ x = 8 ∨ x = 9 ∨ x = 10 ∨ x = 11 ∨ x = 12 ∨ x = 13 ∨ x = 14 ∨ x = 15 ∨ x = 16 ∨ x = 17 by omega) with rfl | rfl | rfl | rfl | rfl | rfl | rfl | rfl | rfl | rfl | rfl | rfl | rfl | rfl | rfl | rfl | rfl | rfl
  · obtain ⟨e0, e1, e2, e3, e4⟩ := wt_0
    rw [e0, e1, e2, e3, e4]
    show (x0 = 98 ∧ x1 = 111 ∧ 32 = 111 ∧ 32 = 107 ∧ 32 = 32) ↔ ((0 * 32 + (x0 - 96)) * 32 + (x1 - 96)) = 81387
    constructor
    · intro q
      omega
    · intro q
      omega
  · obtain ⟨e0, e1, e2, e3, e4⟩ := wt_1
    rw [e0, e1, e2, e3, e4]
    show (x0 = 107 ∧ x1 = 105 ∧ 32 = 110 ∧ 32 = 100 ∧ 32 = 32) ↔ ((0 * 32 + (x0 - 96)) * 32 + (x1 - 96)) = 370116
    constructor
    · intro q
      omega
    · intro q
      omega
  · obtain ⟨e0, e1, e2, e3, e4⟩ := wt_2
    rw [e0, e1, e2, e3, e4]
    show (x0 = 119 ∧ x1 = 111 ∧ 32 = 114 ∧ 32 = 116 ∧ 32 = 104) ↔ ((0 * 32 + (x0 - 96)) * 32 + (x1 - 96)) = 24627848
    constructor
    · intro q
      omega
    · intro q
      omega
  · obtain ⟨e0, e1, e2, e3, e4⟩ := wt_3
    rw [e0, e1, e2, e3, e4]
    show (x0 = 97 ∧ x1 = 103 ∧ 32 = 101 ∧ 32 = 32 ∧ 32 = 32) ↔ ((0 * 32 + (x0 - 96)) * 32 + (x1 - 96)) = 1253
    constructor
    · intro q
      omega
    · intro q
      omega
  · obtain ⟨e0, e1, e2, e3, e4⟩ := wt_4
    rw [e0, e1, e2, e3, e4]
    show (x0 = 112 ∧ x1 = 114 ∧ 32 = 105 ∧ 32 = 99 ∧ 32 = 101) ↔ ((0 * 32 + (x0 - 96)) * 32 + (x1 - 96)) = 17376357
    constructor
    · intro q
      omega
    · intro q
      omega
  · obtain ⟨e0, e1, e2, e3, e4⟩ := wt_5
    rw [e0, e1, e2, e3, e4]
    show (x0 = 112 ∧ x1 = 108 ∧ 32 = 97 ∧ 32 = 99 ∧ 32 = 101) ↔ ((0 * 32 + (x0 - 96)) * 32 + (x1 - 96)) = 17171557
    constructor
    · intro q
      omega
    · intro q
      omega
  · obtain ⟨e0, e1, e2, e3, e4⟩ := wt_6
    rw [e0, e1, e2, e3, e4]
    show (x0 = 119 ∧ x1 = 101 ∧ 32 = 101 ∧ 32 = 107 ∧ 32 = 32) ↔ ((0 * 32 + (x0 - 96)) * 32 + (x1 - 96)) = 758955
    constructor
    · intro q
      omega
    · intro q
      omega
  · obtain ⟨e0, e1, e2, e3, e4⟩ := wt_7
    rw [e0, e1, e2, e3, e4]
    show (x0 = 114 ∧ x1 = 97 ∧ 32 = 105 ∧ 32 = 110 ∧ 32 = 32) ↔ ((0 * 32 + (x0 - 96)) * 32 + (x1 - 96)) = 591150
    constructor
    · intro q
      omega
    · intro q
      omega
  · obtain ⟨e0, e1, e2, e3, e4⟩ := wt_8
    rw [e0, e1, e2, e3, e4]
    show (x0 = 99 ∧ x1 = 114 ∧ 32 = 111 ∧ 32 = 119 ∧ 32 = 100) ↔ ((0 * 32 + (x0 - 96)) * 32 + (x1 - 96)) = 3751652
    constructor
    · intro q
      omega
    · intro q
      omega
  · obtain ⟨e0, e1, e2, e3, e4⟩ := wt_9
    rw [e0, e1, e2, e3, e4]
    show (x0 = 115 ∧ x1 = 105 ∧ 32 = 110 ∧ 32 = 99 ∧ 32 = 101) ↔ ((0 * 32 + (x0 - 96)) * 32 + (x1 - 96)) = 20232293
    constructor
    · intro q
      omega
    · intro q
      omega
  · obtain ⟨e0, e1, e2, e3, e4⟩ := wt_10
    rw [e0, e1, e2, e3, e4]
    show (x0 = 115 ∧ x1 = 101 ∧ 32 = 108 ∧ 32 = 108 ∧ 32 = 115) ↔ ((0 * 32 + (x0 - 96)) * 32 + (x1 - 96)) = 20099475
    constructor
    · intro q
      omega
    · intro q
      omega
  · obtain ⟨e0, e1, e2, e3, e4⟩ := wt_11
    rw [e0, e1, e2, e3, e4]
    show (x0 = 100 ∧ x1 = 114 ∧ 32 = 97 ∧ 32 = 119 ∧ 32 = 115) ↔ ((0 * 32 + (x0 - 96)) * 32 + (x1 - 96)) = 4785907
    constructor
    · intro q
      omega
    · intro q
      omega
  · obtain ⟨e0, e1, e2, e3, e4⟩ := wt_12
    rw [e0, e1, e2, e3, e4]
    show (x0 = 119 ∧ x1 = 97 ∧ 32 = 110 ∧ 32 = 116 ∧ 32 = 115) ↔ ((0 * 32 + (x0 - 96)) * 32 + (x1 - 96)) = 24165011
    constructor
    · intro q
      omega
    · intro q
      omega
  · obtain ⟨e0, e1, e2, e3, e4⟩ := wt_13
    rw [e0, e1, e2, e3, e4]
    show (x0 = 116 ∧ x1 = 97 ∧ 32 = 107 ∧ 32 = 101 ∧ 32 = 115) ↔ ((0 * 32 + (x0 - 96)) * 32 + (x1 - 96)) = 21015731
    constructor
    · intro q
      omega
    · intro q
      omega
  · obtain ⟨e0, e1, e2, e3, e4⟩ := wt_14
    rw [e0, e1, e2, e3, e4]
    show (x0 = 105 ∧ x1 = 102 ∧ 32 = 32 ∧ 32 = 32 ∧ 32 = 32) ↔ ((0 * 32 + (x0 - 96)) * 32 + (x1 - 96)) = 294
    constructor
    · intro q
      omega
    · intro q
      omega
  · obtain ⟨e0, e1, e2, e3, e4⟩ := wt_15
    rw [e0, e1, e2, e3, e4]
    show (x0 = 111 ∧ x1 = 114 ∧ 32 = 32 ∧ 32 = 32 ∧ 32 = 32) ↔ ((0 * 32 + (x0 - 96)) * 32 + (x1 - 96)) = 498
    constructor
    · intro q
      omega
    · intro q
      omega
  · obtain ⟨e0, e1, e2, e3, e4⟩ := wt_16
    rw [e0, e1, e2, e3, e4]
    show (x0 = 97 ∧ x1 = 110 ∧ 32 = 100 ∧ 32 = 32 ∧ 32 = 32) ↔ ((0 * 32 + (x0 - 96)) * 32 + (x1 - 96)) = 1476
    constructor
    · intro q
      omega
    · intro q
      omega
  · obtain ⟨e0, e1, e2, e3, e4⟩ := wt_17
    rw [e0, e1, e2, e3, e4]
    show (x0 = 110 ∧ x1 = 111 ∧ 32 = 116 ∧ 32 = 32 ∧ 32 = 32) ↔ ((0 * 32 + (x0 - 96)) * 32 + (x1 - 96)) = 14836
    constructor
    · intro q
      omega
    · intro q
      omega
theorem wm_3 {x0 x1 x2 : Nat} (h0 : 97 ≤ x0 ∧ x0 ≤ 122) (h1 : 97 ≤ x1 ∧ x1 ≤ 122) (h2 : 97 ≤ x2 ∧ x2 ≤ 122) (x : Nat) (hx : x < 18) : (x0 = wcN (x * 5 + 0) ∧ x1 = wcN (x * 5 + 1) ∧ x2 = wcN (x * 5 + 2) ∧ 32 = wcN (x * 5 + 3) ∧ 32 = wcN (x * 5 + 4)) ↔ (((0 * 32 + (x0 - 96)) * 32 + (x1 - 96)) * 32 + (x2 - 96)) = cod x := by
  rcases (show x = 0 ∨ x = 1 ∨ x = 2 ∨ x = 3 ∨ x = 4 ∨ x = 5 ∨ x = 6 ∨ x = 7 ∨ x = 8 ∨ x = 9 ∨ x = 10 ∨ x = 11 ∨ x = 12 ∨ x = 13 ∨ x = 14 ∨ x = 15 ∨ x = 16 ∨ x = 17 by omega) with rfl | rfl | rfl | rfl | rfl | rfl | rfl | rfl | rfl | rfl | rfl | rfl | rfl | rfl | rfl | rfl | rfl | rfl
  · obtain ⟨e0, e1, e2, e3, e4⟩ := wt_0
    rw [e0, e1, e2, e3, e4]
    show (x0 = 98 ∧ x1 = 111 ∧ x2 = 111 ∧ 32 = 107 ∧ 32 = 32) ↔ (((0 * 32 + (x0 - 96)) * 32 + (x1 - 96)) * 32 + (x2 - 96)) = 81387
    constructor
    · intro q
      omega
    · intro q
      omega
  · obtain ⟨e0, e1, e2, e3, e4⟩ := wt_1
    rw [e0, e1, e2, e3, e4]
    show (x0 = 107 ∧ x1 = 105 ∧ x2 = 110 ∧ 32 = 100 ∧ 32 = 32) ↔ (((0 * 32 + (x0 - 96)) * 32 + (x1 - 96)) * 32 + (x2 - 96)) = 370116
    constructor
    · intro q
      omega
    · intro q
      omega
  · obtain ⟨e0, e1, e2, e3, e4⟩ := wt_2
    rw [e0, e1, e2, e3, e4]
    show (x0 = 119 ∧ x1 = 111 ∧ x2 = 114 ∧ 32 = 116 ∧ 32 = 104) ↔ (((0 * 32 + (x0 - 96)) * 32 + (x1 - 96)) * 32 + (x2 - 96)) = 24627848
    constructor
    · intro q
      omega
    · intro q
      omega
  · obtain ⟨e0, e1, e2, e3, e4⟩ := wt_3
    rw [e0, e1, e2, e3, e4]
    show (x0 = 97 ∧ x1 = 103 ∧ x2 = 101 ∧ 32 = 32 ∧ 32 = 32) ↔ (((0 * 32 + (x0 - 96)) * 32 + (x1 - 96)) * 32 + (x2 - 96)) = 1253
    constructor
    · intro q
      omega
    · intro q
      omega
  · obtain ⟨e0, e1, e2, e3, e4⟩ := wt_4
    rw [e0, e1, e2, e3, e4]
    show (x0 = 112 ∧ x1 = 114 ∧ x2 = 105 ∧ 32 = 99 ∧ 32 = 101) ↔ (((0 * 32 + (x0 - 96)) * 32 + (x1 - 96)) * 32 + (x2 - 96)) = 17376357
    constructor
    · intro q
      omega
    · intro q
      omega
  · obtain ⟨e0, e1, e2, e3, e4⟩ := wt_5
    rw [e0, e1, e2, e3, e4]
    show (x0 = 112 ∧ x1 = 108 ∧ x2 = 97 ∧ 32 = 99 ∧ 32 = 101) ↔ (((0 * 32 + (x0 - 96)) * 32 + (x1 - 96)) * 32 + (x2 - 96)) = 17171557
    constructor
    · intro q
      omega
    · intro q
      omega
  · obtain ⟨e0, e1, e2, e3, e4⟩ := wt_6
    rw [e0, e1, e2, e3, e4]
    show (x0 = 119 ∧ x1 = 101 ∧ x2 = 101 ∧ 32 = 107 ∧ 32 = 32) ↔ (((0 * 32 + (x0 - 96)) * 32 + (x1 - 96)) * 32 + (x2 - 96)) = 758955
    constructor
    · intro q
      omega
    · intro q
      omega
  · obtain ⟨e0, e1, e2, e3, e4⟩ := wt_7
    rw [e0, e1, e2, e3, e4]
    show (x0 = 114 ∧ x1 = 97 ∧ x2 = 105 ∧ 32 = 110 ∧ 32 = 32) ↔ (((0 * 32 + (x0 - 96)) * 32 + (x1 - 96)) * 32 + (x2 - 96)) = 591150
    constructor
    · intro q
      omega
    · intro q
      omega
  · obtain ⟨e0, e1, e2, e3, e4⟩ := wt_8
    rw [e0, e1, e2, e3, e4]
    show (x0 = 99 ∧ x1 = 114 ∧ x2 = 111 ∧ 32 = 119 ∧ 32 = 100) ↔ (((0 * 32 + (x0 - 96)) * 32 + (x1 - 96)) * 32 + (x2 - 96)) = 3751652
    constructor
    · intro q
      omega
    · intro q
      omega
  · obtain ⟨e0, e1, e2, e3, e4⟩ := wt_9
    rw [e0, e1, e2, e3, e4]
    show (x0 = 115 ∧ x1 = 105 ∧ x2 = 110 ∧ 32 = 99 ∧ 32 = 101) ↔ (((0 * 32 + (x0 - 96)) * 32 + (x1 - 96)) * 32 + (x2 - 96)) = 20232293
    constructor
    · intro q
      omega
    · intro q
      omega
  · obtain ⟨e0, e1, e2, e3, e4⟩ := wt_10
    rw [e0, e1, e2, e3, e4]
    show (x0 = 115 ∧ x1 = 101 ∧ x2 = 108 ∧ 32 = 108 ∧ 32 = 115) ↔ (((0 * 32 + (x0 - 96)) * 32 + (x1 - 96)) * 32 + (x2 - 96)) = 20099475
    constructor
    · intro q
      omega
    · intro q
      omega
  · obtain ⟨e0, e1, e2, e3, e4⟩ := wt_11
    rw [e0, e1, e2, e3, e4]
    show (x0 = 100 ∧ x1 = 114 ∧ x2 = 97 ∧ 32 = 119 ∧ 32 = 115) ↔ (((0 * 32 + (x0 - 96)) * 32 + (x1 - 96)) * 32 + (x2 - 96)) = 4785907
    constructor
    · intro q
      omega
    · intro q
      omega
  · obtain ⟨e0, e1, e2, e3, e4⟩ := wt_12
    rw [e0, e1, e2, e3, e4]
    show (x0 = 119 ∧ x1 = 97 ∧ x2 = 110 ∧ 32 = 116 ∧ 32 = 115) ↔ (((0 * 32 + (x0 - 96)) * 32 + (x1 - 96)) * 32 + (x2 - 96)) = 24165011
    constructor
    · intro q
      omega
    · intro q
      omega
  · obtain ⟨e0, e1, e2, e3, e4⟩ := wt_13
    rw [e0, e1, e2, e3, e4]
    show (x0 = 116 ∧ x1 = 97 ∧ x2 = 107 ∧ 32 = 101 ∧ 32 = 115) ↔ (((0 * 32 + (x0 - 96)) * 32 + (x1 - 96)) * 32 + (x2 - 96)) = 21015731
    constructor
    · intro q
      omega
    · intro q
      omega
  · obtain ⟨e0, e1, e2, e3, e4⟩ := wt_14
    rw [e0, e1, e2, e3, e4]
    show (x0 = 105 ∧ x1 = 102 ∧ x2 = 32 ∧ 32 = 32 ∧ 32 = 32) ↔ (((0 * 32 + (x0 - 96)) * 32 + (x1 - 96)) * 32 + (x2 - 96)) = 294
    constructor
    · intro q
      omega
    · intro q
      omega
  · obtain ⟨e0, e1, e2, e3, e4⟩ := wt_15
    rw [e0, e1, e2, e3, e4]
    show (x0 = 111 ∧ x1 = 114 ∧ x2 = 32 ∧ 32 = 32 ∧ 32 = 32) ↔ (((0 * 32 + (x0 - 96)) * 32 + (x1 - 96)) * 32 + (x2 - 96)) = 498
    constructor
    · intro q
      omega
    · intro q
      omega
  · obtain ⟨e0, e1, e2, e3, e4⟩ := wt_16
    rw [e0, e1, e2, e3, e4]
    show (x0 = 97 ∧ x1 = 110 ∧ x2 = 100 ∧ 32 = 32 ∧ 32 = 32) ↔ (((0 * 32 + (x0 - 96)) * 32 + (x1 - 96)) * 32 + (x2 - 96)) = 1476
    constructor
    · intro q
      omega
    · intro q
      omega
  · obtain ⟨e0, e1, e2, e3, e4⟩ := wt_17
    rw [e0, e1, e2, e3, e4]
    show (x0 = 110 ∧ x1 = 111 ∧ x2 = 116 ∧ 32 = 32 ∧ 32 = 32) ↔ (((0 * 32 + (x0 - 96)) * 32 + (x1 - 96)) * 32 + (x2 - 96)) = 14836
    constructor
    · intro q
      omega
    · intro q
      omega
theorem wm_4 {x0 x1 x2 x3 : Nat} (h0 : 97 ≤ x0 ∧ x0 ≤ 122) (h1 : 97 ≤ x1 ∧ x1 ≤ 122) (h2 : 97 ≤ x2 ∧ x2 ≤ 122) (h3 : 97 ≤ x3 ∧ x3 ≤ 122) (x : Nat) (hx : x < 18) : (x0 = wcN (x * 5 + 0) ∧ x1 = wcN (x * 5 + 1) ∧ x2 = wcN (x * 5 + 2) ∧ x3 = wcN (x * 5 + 3) ∧ 32 = wcN (x * 5 + 4)) ↔ ((((0 * 32 + (x0 - 96)) * 32 + (x1 - 96)) * 32 + (x2 - 96)) * 32 + (x3 - 96)) = cod x := by
  rcases (show x = 0 ∨ x = 1 ∨ x = 2 ∨ x = 3 ∨ x = 4 ∨ x = 5 ∨ x = 6 ∨ x = 7 ∨ x = 8 ∨ x = 9 ∨ x = 10 ∨ x = 11 ∨ x = 12 ∨ x = 13 ∨ x = 14 ∨ x = 15 ∨ x = 16 ∨ x = 17 by omega) with rfl | rfl | rfl | rfl | rfl | rfl | rfl | rfl | rfl | rfl | rfl | rfl | rfl | rfl | rfl | rfl | rfl | rfl
  · obtain ⟨e0, e1, e2, e3, e4⟩ := wt_0
    rw [e0, e1, e2, e3, e4]
    show (x0 = 98 ∧ x1 = 111 ∧ x2 = 111 ∧ x3 = 107 ∧ 32 = 32) ↔ ((((0 * 32 + (x0 - 96)) * 32 + (x1 - 96)) * 32 + (x2 - 96)) * 32 + (x3 - 96)) = 81387
    constructor
    · intro q
      omega
    · intro q
      omega
  · obtain ⟨e0, e1, e2, e3, e4⟩ := wt_1
    rw [e0, e1, e2, e3, e4]
    show (x0 = 107 ∧ x1 = 105 ∧ x2 = 110 ∧ x3 = 100 ∧ 32 = 32) ↔ ((((0 * 32 + (x0 - 96)) * 32 + (x1 - 96)) * 32 + (x2 - 96)) * 32 + (x3 - 96)) = 370116
    constructor
    · intro q
      omega
    · intro q
      omega
  · obtain ⟨e0, e1, e2, e3, e4⟩ := wt_2
    rw [e0, e1, e2, e3, e4]
    show (x0 = 119 ∧ x1 = 111 ∧ x2 = 114 ∧ x3 = 116 ∧ 32 = 104) ↔ ((((0 * 32 + (x0 - 96)) * 32 + (x1 - 96)) * 32 + (x2 - 96)) * 32 + (x3 - 96)) = 24627848
    constructor
    · intro q
      omega
    · intro q
      omega
  · obtain ⟨e0, e1, e2, e3, e4⟩ := wt_3
    rw [e0, e1, e2, e3, e4]
    show (x0 = 97 ∧ x1 = 103 ∧ x2 = 101 ∧ x3 = 32 ∧ 32 = 32) ↔ ((((0 * 32 + (x0 - 96)) * 32 + (x1 - 96)) * 32 + (x2 - 96)) * 32 + (x3 - 96)) = 1253
    constructor
    · intro q
      omega
    · intro q
      omega
  · obtain ⟨e0, e1, e2, e3, e4⟩ := wt_4
    rw [e0, e1, e2, e3, e4]
    show (x0 = 112 ∧ x1 = 114 ∧ x2 = 105 ∧ x3 = 99 ∧ 32 = 101) ↔ ((((0 * 32 + (x0 - 96)) * 32 + (x1 - 96)) * 32 + (x2 - 96)) * 32 + (x3 - 96)) = 17376357
    constructor
    · intro q
      omega
    · intro q
      omega
  · obtain ⟨e0, e1, e2, e3, e4⟩ := wt_5
    rw [e0, e1, e2, e3, e4]
    show (x0 = 112 ∧ x1 = 108 ∧ x2 = 97 ∧ x3 = 99 ∧ 32 = 101) ↔ ((((0 * 32 + (x0 - 96)) * 32 + (x1 - 96)) * 32 + (x2 - 96)) * 32 + (x3 - 96)) = 17171557
    constructor
    · intro q
      omega
    · intro q
      omega
  · obtain ⟨e0, e1, e2, e3, e4⟩ := wt_6
    rw [e0, e1, e2, e3, e4]
    show (x0 = 119 ∧ x1 = 101 ∧ x2 = 101 ∧ x3 = 107 ∧ 32 = 32) ↔ ((((0 * 32 + (x0 - 96)) * 32 + (x1 - 96)) * 32 + (x2 - 96)) * 32 + (x3 - 96)) = 758955
    constructor
    · intro q
      omega
    · intro q
      omega
  · obtain ⟨e0, e1, e2, e3, e4⟩ := wt_7
    rw [e0, e1, e2, e3, e4]
    show (x0 = 114 ∧ x1 = 97 ∧ x2 = 105 ∧ x3 = 110 ∧ 32 = 32) ↔ ((((0 * 32 + (x0 - 96)) * 32 + (x1 - 96)) * 32 + (x2 - 96)) * 32 + (x3 - 96)) = 591150
    constructor
    · intro q
      omega
    · intro q
      omega
  · obtain ⟨e0, e1, e2, e3, e4⟩ := wt_8
    rw [e0, e1, e2, e3, e4]
    show (x0 = 99 ∧ x1 = 114 ∧ x2 = 111 ∧ x3 = 119 ∧ 32 = 100) ↔ ((((0 * 32 + (x0 - 96)) * 32 + (x1 - 96)) * 32 + (x2 - 96)) * 32 + (x3 - 96)) = 3751652
    constructor
    · intro q
      omega
    · intro q
      omega
  · obtain ⟨e0, e1, e2, e3, e4⟩ := wt_9
    rw [e0, e1, e2, e3, e4]
    show (x0 = 115 ∧ x1 = 105 ∧ x2 = 110 ∧ x3 = 99 ∧ 32 = 101) ↔ ((((0 * 32 + (x0 - 96)) * 32 + (x1 - 96)) * 32 + (x2 - 96)) * 32 + (x3 - 96)) = 20232293
    constructor
    · intro q
      omega
    · intro q
      omega
  · obtain ⟨e0, e1, e2, e3, e4⟩ := wt_10
    rw [e0, e1, e2, e3, e4]
    show (x0 = 115 ∧ x1 = 101 ∧ x2 = 108 ∧ x3 = 108 ∧ 32 = 115) ↔ ((((0 * 32 + (x0 - 96)) * 32 + (x1 - 96)) * 32 + (x2 - 96)) * 32 + (x3 - 96)) = 20099475
    constructor
    · intro q
      omega
    · intro q
      omega
  · obtain ⟨e0, e1, e2, e3, e4⟩ := wt_11
    rw [e0, e1, e2, e3, e4]
    show (x0 = 100 ∧ x1 = 114 ∧ x2 = 97 ∧ x3 = 119 ∧ 32 = 115) ↔ ((((0 * 32 + (x0 - 96)) * 32 + (x1 - 96)) * 32 + (x2 - 96)) * 32 + (x3 - 96)) = 4785907
    constructor
    · intro q
      omega
    · intro q
      omega
  · obtain ⟨e0, e1, e2, e3, e4⟩ := wt_12
    rw [e0, e1, e2, e3, e4]
    show (x0 = 119 ∧ x1 = 97 ∧ x2 = 110 ∧ x3 = 116 ∧ 32 = 115) ↔ ((((0 * 32 + (x0 - 96)) * 32 + (x1 - 96)) * 32 + (x2 - 96)) * 32 + (x3 - 96)) = 24165011
    constructor
    · intro q
      omega
    · intro q
      omega
  · obtain ⟨e0, e1, e2, e3, e4⟩ := wt_13
    rw [e0, e1, e2, e3, e4]
    show (x0 = 116 ∧ x1 = 97 ∧ x2 = 107 ∧ x3 = 101 ∧ 32 = 115) ↔ ((((0 * 32 + (x0 - 96)) * 32 + (x1 - 96)) * 32 + (x2 - 96)) * 32 + (x3 - 96)) = 21015731
    constructor
    · intro q
      omega
    · intro q
      omega
  · obtain ⟨e0, e1, e2, e3, e4⟩ := wt_14
    rw [e0, e1, e2, e3, e4]
    show (x0 = 105 ∧ x1 = 102 ∧ x2 = 32 ∧ x3 = 32 ∧ 32 = 32) ↔ ((((0 * 32 + (x0 - 96)) * 32 + (x1 - 96)) * 32 + (x2 - 96)) * 32 + (x3 - 96)) = 294
    constructor
    · intro q
      omega
    · intro q
      omega
  · obtain ⟨e0, e1, e2, e3, e4⟩ := wt_15
    rw [e0, e1, e2, e3, e4]
    show (x0 = 111 ∧ x1 = 114 ∧ x2 = 32 ∧ x3 = 32 ∧ 32 = 32) ↔ ((((0 * 32 + (x0 - 96)) * 32 + (x1 - 96)) * 32 + (x2 - 96)) * 32 + (x3 - 96)) = 498
    constructor
    · intro q
      omega
    · intro q
      omega
  · obtain ⟨e0, e1, e2, e3, e4⟩ := wt_16
    rw [e0, e1, e2, e3, e4]
    show (x0 = 97 ∧ x1 = 110 ∧ x2 = 100 ∧ x3 = 32 ∧ 32 = 32) ↔ ((((0 * 32 + (x0 - 96)) * 32 + (x1 - 96)) * 32 + (x2 - 96)) * 32 + (x3 - 96)) = 1476
    constructor
    · intro q
      omega
    · intro q
      omega
  · obtain ⟨e0, e1, e2, e3, e4⟩ := wt_17
    rw [e0, e1, e2, e3, e4]
    show (x0 = 110 ∧ x1 = 111 ∧ x2 = 116 ∧ x3 = 32 ∧ 32 = 32) ↔ ((((0 * 32 + (x0 - 96)) * 32 + (x1 - 96)) * 32 + (x2 - 96)) * 32 + (x3 - 96)) = 14836
    constructor
    · intro q
      omega
    · intro q
      omega
theorem wm_5 {x0 x1 x2 x3 x4 : Nat} (h0 : 97 ≤ x0 ∧ x0 ≤ 122) (h1 : 97 ≤ x1 ∧ x1 ≤ 122) (h2 : 97 ≤ x2 ∧ x2 ≤ 122) (h3 : 97 ≤ x3 ∧ x3 ≤ 122) (h4 : 97 ≤ x4 ∧ x4 ≤ 122) (x : Nat) (hx : x < 18) : (x0 = wcN (x * 5 + 0) ∧ x1 = wcN (x * 5 + 1) ∧ x2 = wcN (x * 5 + 2) ∧ x3 = wcN (x * 5 + 3) ∧ x4 = wcN (x * 5 + 4)) ↔ (((((0 * 32 + (x0 - 96)) * 32 + (x1 - 96)) * 32 + (x2 - 96)) * 32 + (x3 - 96)) * 32 + (x4 - 96)) = cod x := by
  rcases (show x = 0 ∨ x = 1 ∨ x = 2 ∨ x = 3 ∨ x = 4 ∨ x = 5 ∨ x = 6 ∨ x = 7 ∨ x = 8 ∨ x = 9 ∨ x = 10 ∨ x = 11 ∨ x = 12 ∨ x = 13 ∨ x = 14 ∨ x = 15 ∨ x = 16 ∨ x = 17 by omega) with rfl | rfl | rfl | rfl | rfl | rfl | rfl | rfl | rfl | rfl | rfl | rfl | rfl | rfl | rfl | rfl | rfl | rfl
  · obtain ⟨e0, e1, e2, e3, e4⟩ := wt_0
    rw [e0, e1, e2, e3, e4]
    show (x0 = 98 ∧ x1 = 111 ∧ x2 = 111 ∧ x3 = 107 ∧ x4 = 32) ↔ (((((0 * 32 + (x0 - 96)) * 32 + (x1 - 96)) * 32 + (x2 - 96)) * 32 + (x3 - 96)) * 32 + (x4 - 96)) = 81387
    constructor
    · intro q
      omega
    · intro q
      omega
  · obtain ⟨e0, e1, e2, e3, e4⟩ := wt_1
    rw [e0, e1, e2, e3, e4]
    show (x0 = 107 ∧ x1 = 105 ∧ x2 = 110 ∧ x3 = 100 ∧ x4 = 32) ↔ (((((0 * 32 + (x0 - 96)) * 32 + (x1 - 96)) * 32 + (x2 - 96)) * 32 + (x3 - 96)) * 32 + (x4 - 96)) = 370116
    constructor
    · intro q
      omega
    · intro q
      omega
  · obtain ⟨e0, e1, e2, e3, e4⟩ := wt_2
    rw [e0, e1, e2, e3, e4]
    show (x0 = 119 ∧ x1 = 111 ∧ x2 = 114 ∧ x3 = 116 ∧ x4 = 104) ↔ (((((0 * 32 + (x0 - 96)) * 32 + (x1 - 96)) * 32 + (x2 - 96)) * 32 + (x3 - 96)) * 32 + (x4 - 96)) = 24627848
    constructor
    · intro q
      omega
    · intro q
      omega
  · obtain ⟨e0, e1, e2, e3, e4⟩ := wt_3
    rw [e0, e1, e2, e3, e4]
    show (x0 = 97 ∧ x1 = 103 ∧ x2 = 101 ∧ x3 = 32 ∧ x4 = 32) ↔ (((((0 * 32 + (x0 - 96)) * 32 + (x1 - 96)) * 32 + (x2 - 96)) * 32 + (x3 - 96)) * 32 + (x4 - 96)) = 1253
    constructor
    · intro q
      omega
    · intro q
      omega
  · obtain ⟨e0, e1, e2, e3, e4⟩ := wt_4
    rw [e0, e1, e2, e3, e4]
    show (x0 = 112 ∧ x1 = 114 ∧ x2 = 105 ∧ x3 = 99 ∧ x4 = 101) ↔ (((((0 * 32 + (x0 - 96)) * 32 + (x1 - 96)) * 32 + (x2 - 96)) * 32 + (x3 - 96)) * 32 + (x4 - 96)) = 17376357
    constructor
    · intro q
      omega
    · intro q
      omega
  · obtain ⟨e0, e1, e2, e3, e4⟩ := wt_5
    rw [e0, e1, e2, e3, e4]
    show (x0 = 112 ∧ x1 = 108 ∧ x2 = 97 ∧ x3 = 99 ∧ x4 = 101) ↔ (((((0 * 32 + (x0 - 96)) * 32 + (x1 - 96)) * 32 + (x2 - 96)) * 32 + (x3 - 96)) * 32 + (x4 - 96)) = 17171557
    constructor
    · intro q
      omega
    · intro q
      omega
  · obtain ⟨e0, e1, e2, e3, e4⟩ := wt_6
    rw [e0, e1, e2, e3, e4]
    show (x0 = 119 ∧ x1 = 101 ∧ x2 = 101 ∧ x3 = 107 ∧ x4 = 32) ↔ (((((0 * 32 + (x0 - 96)) * 32 + (x1 - 96)) * 32 + (x2 - 96)) * 32 + (x3 - 96)) * 32 + (x4 - 96)) = 758955
    constructor
    · intro q
      omega
    · intro q
      omega
  · obtain ⟨e0, e1, e2, e3, e4⟩ := wt_7
    rw [e0, e1, e2, e3, e4]
    show (x0 = 114 ∧ x1 = 97 ∧ x2 = 105 ∧ x3 = 110 ∧ x4 = 32) ↔ (((((0 * 32 + (x0 - 96)) * 32 + (x1 - 96)) * 32 + (x2 - 96)) * 32 + (x3 - 96)) * 32 + (x4 - 96)) = 591150
    constructor
    · intro q
      omega
    · intro q
      omega
  · obtain ⟨e0, e1, e2, e3, e4⟩ := wt_8
    rw [e0, e1, e2, e3, e4]
    show (x0 = 99 ∧ x1 = 114 ∧ x2 = 111 ∧ x3 = 119 ∧ x4 = 100) ↔ (((((0 * 32 + (x0 - 96)) * 32 + (x1 - 96)) * 32 + (x2 - 96)) * 32 + (x3 - 96)) * 32 + (x4 - 96)) = 3751652
    constructor
    · intro q
      omega
    · intro q
      omega
  · obtain ⟨e0, e1, e2, e3, e4⟩ := wt_9
    rw [e0, e1, e2, e3, e4]
    show (x0 = 115 ∧ x1 = 105 ∧ x2 = 110 ∧ x3 = 99 ∧ x4 = 101) ↔ (((((0 * 32 + (x0 - 96)) * 32 + (x1 - 96)) * 32 + (x2 - 96)) * 32 + (x3 - 96)) * 32 + (x4 - 96)) = 20232293
    constructor
    · intro q
      omega
    · intro q
      omega
  · obtain ⟨e0, e1, e2, e3, e4⟩ := wt_10
    rw [e0, e1, e2, e3, e4]
    show (x0 = 115 ∧ x1 = 101 ∧ x2 = 108 ∧ x3 = 108 ∧ x4 = 115) ↔ (((((0 * 32 + (x0 - 96)) * 32 + (x1 - 96)) * 32 + (x2 - 96)) * 32 + (x3 - 96)) * 32 + (x4 - 96)) = 20099475
    constructor
    · intro q
      omega
    · intro q
      omega
  · obtain ⟨e0, e1, e2, e3, e4⟩ := wt_11
    rw [e0, e1, e2, e3, e4]
    show (x0 = 100 ∧ x1 = 114 ∧ x2 = 97 ∧ x3 = 119 ∧ x4 = 115) ↔ (((((0 * 32 + (x0 - 96)) * 32 + (x1 - 96)) * 32 + (x2 - 96)) * 32 + (x3 - 96)) * 32 + (x4 - 96)) = 4785907
    constructor
    · intro q
      omega
    · intro q
      omega
  · obtain ⟨e0, e1, e2, e3, e4⟩ := wt_12
    rw [e0, e1, e2, e3, e4]
    show (x0 = 119 ∧ x1 = 97 ∧ x2 = 110 ∧ x3 = 116 ∧ x4 = 115) ↔ (((((0 * 32 + (x0 - 96)) * 32 + (x1 - 96)) * 32 + (x2 - 96)) * 32 + (x3 - 96)) * 32 + (x4 - 96)) = 24165011
    constructor
    · intro q
      omega
    · intro q
      omega
  · obtain ⟨e0, e1, e2, e3, e4⟩ := wt_13
    rw [e0, e1, e2, e3, e4]
    show (x0 = 116 ∧ x1 = 97 ∧ x2 = 107 ∧ x3 = 101 ∧ x4 = 115) ↔ (((((0 * 32 + (x0 - 96)) * 32 + (x1 - 96)) * 32 + (x2 - 96)) * 32 + (x3 - 96)) * 32 + (x4 - 96)) = 21015731
    constructor
    · intro q
      omega
    · intro q
      omega
  · obtain ⟨e0, e1, e2, e3, e4⟩ := wt_14
    rw [e0, e1, e2, e3, e4]
    show (x0 = 105 ∧ x1 = 102 ∧ x2 = 32 ∧ x3 = 32 ∧ x4 = 32) ↔ (((((0 * 32 + (x0 - 96)) * 32 + (x1 - 96)) * 32 + (x2 - 96)) * 32 + (x3 - 96)) * 32 + (x4 - 96)) = 294
    constructor
    · intro q
      omega
    · intro q
      omega
  · obtain ⟨e0, e1, e2, e3, e4⟩ := wt_15
    rw [e0, e1, e2, e3, e4]
    show (x0 = 111 ∧ x1 = 114 ∧ x2 = 32 ∧ x3 = 32 ∧ x4 = 32) ↔ (((((0 * 32 + (x0 - 96)) * 32 + (x1 - 96)) * 32 + (x2 - 96)) * 32 + (x3 - 96)) * 32 + (x4 - 96)) = 498
    constructor
    · intro q
      omega
    · intro q
      omega
  · obtain ⟨e0, e1, e2, e3, e4⟩ := wt_16
    rw [e0, e1, e2, e3, e4]
    show (x0 = 97 ∧ x1 = 110 ∧ x2 = 100 ∧ x3 = 32 ∧ x4 = 32) ↔ (((((0 * 32 + (x0 - 96)) * 32 + (x1 - 96)) * 32 + (x2 - 96)) * 32 + (x3 - 96)) * 32 + (x4 - 96)) = 1476
    constructor
    · intro q
      omega
    · intro q
      omega
  · obtain ⟨e0, e1, e2, e3, e4⟩ := wt_17
    rw [e0, e1, e2, e3, e4]
    show (x0 = 110 ∧ x1 = 111 ∧ x2 = 116 ∧ x3 = 32 ∧ x4 = 32) ↔ (((((0 * 32 + (x0 - 96)) * 32 + (x1 - 96)) * 32 + (x2 - 96)) * 32 + (x3 - 96)) * 32 + (x4 - 96)) = 14836
    constructor
    · intro q
      omega
    · intro q
      omega
theorem mt_cod {g : Nat → Nat} {q L : Nat} (hL : 1 ≤ L) (hL5 : L ≤ 5) (hl : ∀ j, q ≤ j → j < q + L → isL (g j) = true) (x : Nat) (hx : x < 18) : ((if 0 < L then g (q + 0) else 32) = wcN (x * 5 + 0) ∧ (if 1 < L then g (q + 1) else 32) = wcN (x * 5 + 1) ∧ (if 2 < L then g (q + 2) else 32) = wcN (x * 5 + 2) ∧ (if 3 < L then g (q + 3) else 32) = wcN (x * 5 + 3) ∧ (if 4 < L then g (q + 4) else 32) = wcN (x * 5 + 4)) ↔ hvN g q L = cod x := by
  have hb : ∀ k, k < L → 97 ≤ g (q + k) ∧ g (q + k) ≤ 122 := fun k hk => of_decide_eq_true (hl (q + k) (by omega) (by omega))
  rcases (show L = 1 ∨ L = 2 ∨ L = 3 ∨ L = 4 ∨ L = 5 by omega) with rfl | rfl | rfl | rfl | rfl
  · rw [if_pos (show 0 < 1 by decide), if_neg (show ¬ 1 < 1 by decide), if_neg (show ¬ 2 < 1 by decide), if_neg (show ¬ 3 < 1 by decide), if_neg (show ¬ 4 < 1 by decide)]
    exact wm_1 (hb 0 (by decide)) x hx
  · rw [if_pos (show 0 < 2 by decide), if_pos (show 1 < 2 by decide), if_neg (show ¬ 2 < 2 by decide), if_neg (show ¬ 3 < 2 by decide), if_neg (show ¬ 4 < 2 by decide)]
    exact wm_2 (hb 0 (by decide)) (hb 1 (by decide)) x hx
  · rw [if_pos (show 0 < 3 by decide), if_pos (show 1 < 3 by decide), if_pos (show 2 < 3 by decide), if_neg (show ¬ 3 < 3 by decide), if_neg (show ¬ 4 < 3 by decide)]
    exact wm_3 (hb 0 (by decide)) (hb 1 (by decide)) (hb 2 (by decide)) x hx
  · rw [if_pos (show 0 < 4 by decide), if_pos (show 1 < 4 by decide), if_pos (show 2 < 4 by decide), if_pos (show 3 < 4 by decide), if_neg (show ¬ 4 < 4 by decide)]
    exact wm_4 (hb 0 (by decide)) (hb 1 (by decide)) (hb 2 (by decide)) (hb 3 (by decide)) x hx
  · rw [if_pos (show 0 < 5 by decide), if_pos (show 1 < 5 by decide), if_pos (show 2 < 5 by decide), if_pos (show 3 < 5 by decide), if_pos (show 4 < 5 by decide)]
    exact wm_5 (hb 0 (by decide)) (hb 1 (by decide)) (hb 2 (by decide)) (hb 3 (by decide)) (hb 4 (by decide)) x hx
theorem cod_lt : ∀ x, x < 18 → 0 < cod x ∧ cod x < 33554432 := by decide +kernel
theorem cod_inj : ∀ x, x < 18 → ∀ y, y < 18 → cod x = cod y → x = y := by decide +kernel
theorem hv_lt {g : Nat → Nat} {q : Nat} (m : Nat) (hl : ∀ j, q ≤ j → j < q + m → isL (g j) = true) : hvN g q m < 32 ^ m := by
  induction m with
  | zero => exact Nat.one_pos
  | succ m ih =>
    have h1 := ih (fun j h1 h2 => hl j h1 (by omega))
    have h2 : 97 ≤ g (q + m) ∧ g (q + m) ≤ 122 := of_decide_eq_true (hl (q + m) (by omega) (by omega))
    rw [hvN, Nat.pow_succ]
    omega
theorem hv_ge {g : Nat → Nat} {q : Nat} (m : Nat) (hm : 5 < m) (hl : ∀ j, q ≤ j → j < q + m → isL (g j) = true) : 33554432 ≤ hvN g q m := by
  have h1 : ∀ d, (∀ j, q ≤ j → j < q + (d + 1) → isL (g j) = true) → 32 ^ d ≤ hvN g q (d + 1) := by
    intro d
    induction d with
    | zero =>
      intro h
      have h2 : 97 ≤ g (q + 0) ∧ g (q + 0) ≤ 122 := of_decide_eq_true (h (q + 0) (by omega) (by omega))
      rw [hvN, hvN]
      omega
    | succ d ih =>
      intro h
      have h3 := ih (fun j a1 a2 => h j a1 (by omega))
      rw [hvN, Nat.pow_succ]
      omega
  obtain ⟨d, rfl⟩ : ∃ d, m = d + 1 := ⟨m - 1, by omega⟩
  have h2 := h1 d hl
  have h3 : 32 ^ 5 ≤ 32 ^ d := Nat.pow_le_pow_right (by decide) (by omega)
  have h4 : (32 : Nat) ^ 5 = 33554432 := by decide
  omega
theorem fwd_iff {g : Nat → Nat} {q L : Nat} (hL : 1 ≤ L) (hL5 : L ≤ 5) (hl : ∀ j, q ≤ j → j < q + L → isL (g j) = true) (m : Nat) : ∀ x, x + m = 18 → (∀ y, y < 18 → (fwd g q L m x = 256 + y ↔ (x ≤ y ∧ hvN g q L = cod y))) := by
  induction m with
  | zero =>
    intro x hx y hy
    rw [fwd]
    omega
  | succ m ih =>
    intro x hx y hy
    have h := ih (x + 1) (by omega) y hy
    have hm := mt_cod hL hL5 hl x (by omega)
    rw [fwd]
    by_cases hc : hvN g q L = cod x
    · rw [if_pos (hm.mpr hc)]
      constructor
      · intro e
        have : x = y := by omega
        subst this
        exact ⟨Nat.le_refl _, hc⟩
      · intro ⟨e1, e2⟩
        rw [cod_inj x (by omega) y hy (hc.symm.trans e2)]
    · rw [if_neg (fun z => hc (hm.mp z)), h]
      constructor
      · intro ⟨e1, e2⟩
        exact ⟨by omega, e2⟩
      · intro ⟨e1, e2⟩
        refine ⟨?_, e2⟩
        by_cases e : x = y
        · subst e
          exact absurd e2 hc
        · omega
/-! ===== the reference's tokens ===== -/
def srtN (g : Nat → Nat) (T q : Nat) : Nat := if T ≤ q then 0 else if isL (g q) = true then 1 else if isD (g q) = true then 2 else 3
def wrtN (g : Nat → Nat) (T q : Nat) : Int := if T ≤ q then 0 else if isL (g q) = true then (if endT g T q - q ≤ 10 then (hvN g q (endT g T q - q) : Int) else -1) else if isD (g q) = true then (nmR g (endT g T q - q) q 0 : Int) else (g q : Int)
def RT (g : Nat → Nat) (T q : Nat) (τ : xS) : Prop := sI τ 9 = nI q ∧ sI τ 10 = nI (endT g T q) ∧ sI τ 11 = nI (srtN g T q) ∧ sJ τ 12 = zL (wrtN g T q)
def frN (τ τ' : xS) : Prop := (∀ k, sA τ' k = sA τ k) ∧ (∀ k, k ≠ 9 → k ≠ 10 → k ≠ 11 → sI τ' k = sI τ k) ∧ (∀ k, k ≠ 12 → sJ τ' k = sJ τ k) ∧ (∀ k, sL τ' k = sL τ k) ∧ (∀ k, sQ τ' k = sQ τ k) ∧ sP τ' = sP τ
theorem frN_refl (τ : xS) : frN τ τ := ⟨fun _ => rfl, fun _ _ _ _ => rfl, fun _ _ => rfl, fun _ => rfl, fun _ => rfl, rfl⟩
theorem frN_trans {σ σ1 σ2 : xS} (h : frN σ σ1) (g : frN σ1 σ2) : frN σ σ2 := ⟨fun k => (g.1 k).trans (h.1 k), fun k h1 h2 h3 => (g.2.1 k h1 h2 h3).trans (h.2.1 k h1 h2 h3), fun k h1 => (g.2.2.1 k h1).trans (h.2.2.1 k h1), fun k => (g.2.2.2.1 k).trans (h.2.2.2.1 k), fun k => (g.2.2.2.2.1 k).trans (h.2.2.2.2.1 k), g.2.2.2.2.2.trans h.2.2.2.2.2⟩
theorem frN_I (σ : xS) {k : Nat} (v : Int32) (hk : k = 9 ∨ k = 10 ∨ k = 11) : frN σ (uI σ k v) := ⟨fun _ => rfl, fun j h1 h2 h3 => if_neg (fun q => by subst q; omega), fun _ _ => rfl, fun _ => rfl, fun _ => rfl, rfl⟩
theorem frN_J (σ : xS) (v : Int64) : frN σ (uJ σ 12 v) := ⟨fun _ => rfl, fun _ _ _ _ => rfl, fun j h1 => if_neg h1, fun _ => rfl, fun _ => rfl, rfl⟩
def TpR (g : Nat → Nat) (T : Nat) (τ : xS) : Prop := T ≤ 400 ∧ sI τ 8 = nI T ∧ ∀ j, j < 400 → sA τ 7 j = nI (g j) ∧ g j ≤ 255
theorem TpR_N {g : Nat → Nat} {T : Nat} {τ τ' : xS} (h : TpR g T τ) (hf : frN τ τ') : TpR g T τ' := ⟨h.1, (hf.2.1 8 (by decide) (by decide) (by decide)).trans h.2.1, fun j hj => by rw [hf.1]; exact h.2.2 j hj⟩
theorem nmR_le (g : Nat → Nat) (m : Nat) : ∀ p v, v ≤ 10000009 → (∀ j, p ≤ j → j < p + m → g j ≤ 57) → nmR g m p v ≤ 10000009 := by
  induction m with
  | zero =>
    intro p v hv _
    exact hv
  | succ m ih =>
    intro p v hv hg
    have h := hg p (Nat.le_refl _) (by omega)
    rw [nmR]
    refine ih (p + 1) _ ?_ (fun j h1 h2 => hg j (by omega) (by omega))
    split <;> omega
theorem R_dig {g : Nat → Nat} {T : Nat} (m : Nat) : ∀ (n p v : Nat) (τ : xS), m < n → p + m = T → TpR g T τ → sI τ 11 = 2 → sI τ 10 = nI p → sJ τ 12 = zL (v : Int) → v ≤ 10000009 → ∃ τ', F_X12_next_243 n τ = some ((), τ') ∧ frN τ τ' ∧ sI τ' 9 = sI τ 9 ∧ sI τ' 11 = sI τ 11 ∧ sI τ' 10 = nI (runT isD g m p) ∧ sJ τ' 12 = zL ((nmR g (runT isD g m p - p) p v : Nat) : Int) := by
  induction m with
  | zero =>
    intro n p v τ hn hp hT h11 h10 h12 hv
    obtain ⟨n, rfl⟩ : ∃ q, n = q + 1 := ⟨n - 1, by omega⟩
    have hT4 := hT.1
    rw [F_X12_next_243, h11, if_pos rfl, hT.2.1, h10, if_pos (nI_le (by omega) (by omega)), runT, Nat.sub_self, nmR]
    exact ⟨τ, rfl, frN_refl τ, rfl, h11, h10, h12⟩
  | succ m ih =>
    intro n p v τ hn hp hT h11 h10 h12 hv
    obtain ⟨n, rfl⟩ : ∃ q, n = q + 1 := ⟨n - 1, by omega⟩
    have hT4 := hT.1
    obtain ⟨p1, p2⟩ := hT.2.2 p (by omega)
    rw [F_X12_next_243, h11, if_pos rfl, hT.2.1, h10, if_neg (nI_ge (by omega) (by omega)), rd_n (by omega) (by decide), p1, R_isD p2, bd_eq, ib2, runT]
    by_cases hd : isD (g p) = true
    rotate_left
    · rw [if_neg hd, if_neg hd, Nat.sub_self, nmR]
      exact ⟨τ, rfl, frN_refl τ, rfl, h11, h10, h12⟩
    have hdd : 48 ≤ g p ∧ g p ≤ 57 := of_decide_eq_true hd
    have hrl := run_le isD g m (p + 1)
    rw [if_pos hd, if_pos hd]
    have hsub : runT isD g m (p + 1) - p = (runT isD g m (p + 1) - (p + 1)) + 1 := by omega
    rw [hsub, nmR]
    unfold F_X12_next_319
    have hgo : ∀ (x : Int64) (u : Nat), x = zL (u : Int) → u ≤ 10000009 → ∃ τ', F_X12_next_243 n (uI (uJ τ 12 x) 10 (sI (uJ τ 12 x) 10 + 1)) = some ((), τ') ∧ frN τ τ' ∧ sI τ' 9 = sI τ 9 ∧ sI τ' 11 = 2 ∧ sI τ' 10 = nI (runT isD g m (p + 1)) ∧ sJ τ' 12 = zL ((nmR g (runT isD g m (p + 1) - (p + 1)) (p + 1) u : Nat) : Int) := by
      intro x u hx hu
      have e10 : sI (uJ τ 12 x) 10 + 1 = nI (p + 1) := by
        show sI τ 10 + 1 = _
        rw [h10, nI_1]
      rw [e10]
      have hf : frN τ (uI (uJ τ 12 x) 10 (nI (p + 1))) := frN_trans (frN_J τ x) (frN_I _ _ (by decide))
      obtain ⟨τ', q1, q2, q3, q4, q5, q6⟩ := ih n (p + 1) u (uI (uJ τ 12 x) 10 (nI (p + 1))) (by omega) (by omega) (TpR_N hT hf) h11 rfl hx hu
      exact ⟨τ', q1, frN_trans hf q2, q3, q4.trans h11, q5, q6⟩
    by_cases hle : v ≤ 1000000
    · rw [if_pos ((lg_cmp_le _ _).mpr (by rw [h12, show (1000000 : Int64) = zL 1000000 from rfl, zL_le (by omega) (by omega) (by decide) (by decide)]; omega)), h10, rd_n (by omega) (by decide), p1, nm_eq, nm_eq, if_pos hle, ← h11]
      rw [← h11] at hgo
      refine hgo _ _ ?_ (by omega)
      rw [h12, zL_n (by omega), show (10 : Int64) = zL 10 from rfl, show (48 : Int64) = zL 48 from rfl, zL_mul, zL_add, zL_sub]
      congr 1
      omega
    · rw [if_neg (fun q => hle (by
        have q2 := (lg_cmp_le _ _).mp q
        rw [h12, show (1000000 : Int64) = zL 1000000 from rfl, zL_le (by omega) (by omega) (by decide) (by decide)] at q2
        omega)), nm_eq, nm_eq, if_neg hle, ← h11]
      rw [← h11] at hgo
      exact hgo _ v h12 hv
def wvI (g : Nat → Nat) (q m : Nat) : Int := if m ≤ 10 then (hvN g q m : Int) else -1
theorem R_let {g : Nat → Nat} {T q : Nat} (m : Nat) : ∀ (n d : Nat) (τ : xS), m < n → q + d + m = T → TpR g T τ → sI τ 11 = 1 → sI τ 9 = nI q → sI τ 10 = nI (q + d) → sJ τ 12 = zL (wvI g q d) → (∀ j, q ≤ j → j < q + d → isL (g j) = true) → ∃ τ', F_X12_next_149 n τ = some ((), τ') ∧ frN τ τ' ∧ sI τ' 9 = nI q ∧ sI τ' 11 = 1 ∧ sI τ' 10 = nI (runT isL g m (q + d)) ∧ sJ τ' 12 = zL (wvI g q (runT isL g m (q + d) - q)) := by
  have h243 : ∀ τ1 : xS, sI τ1 11 = 1 → F_X12_next_243 FU τ1 = some ((), τ1) := by
    intro τ1 h
    rw [show FU = 99999 + 1 from rfl, F_X12_next_243, h, if_neg (by decide)]
  induction m with
  | zero =>
    intro n d τ hn hp hT h11 h9 h10 h12 hl
    obtain ⟨n, rfl⟩ : ∃ q, n = q + 1 := ⟨n - 1, by omega⟩
    have hT4 := hT.1
    rw [F_X12_next_149, h11, if_pos rfl, hT.2.1, h10, if_pos (nI_le (by omega) (by omega)), h243 τ h11, runT, show q + d - q = d by omega]
    exact ⟨τ, rfl, frN_refl τ, h9, h11, h10, h12⟩
  | succ m ih =>
    intro n d τ hn hp hT h11 h9 h10 h12 hl
    obtain ⟨n, rfl⟩ : ∃ q, n = q + 1 := ⟨n - 1, by omega⟩
    have hT4 := hT.1
    obtain ⟨p1, p2⟩ := hT.2.2 (q + d) (by omega)
    have es : nI (q + d) - nI q = nI d := by rw [pk_sub (by omega), show q + d - q = d by omega]
    rw [F_X12_next_149, h11, if_pos rfl, hT.2.1, h10, if_neg (nI_ge (by omega) (by omega)), rd_n (by omega) (by decide), p1, R_isL p2, bd_eq, ib2, runT, h10, h9, es]
    by_cases hd : isL (g (q + d)) = true
    rotate_left
    · rw [if_neg hd, if_neg hd, h243 τ h11, show q + d - q = d by omega]
      exact ⟨τ, rfl, frN_refl τ, h9, h11, h10, h12⟩
    have hdd : 97 ≤ g (q + d) ∧ g (q + d) ≤ 122 := of_decide_eq_true hd
    rw [if_pos hd, if_pos hd]
    unfold F_X12_next_227
    have hgo : ∀ (x : Int64), x = zL (wvI g q (d + 1)) → ∃ τ', F_X12_next_149 n (uI (uJ τ 12 x) 10 (sI (uJ τ 12 x) 10 + 1)) = some ((), τ') ∧ frN τ τ' ∧ sI τ' 9 = nI q ∧ sI τ' 11 = 1 ∧ sI τ' 10 = nI (runT isL g m (q + d + 1)) ∧ sJ τ' 12 = zL (wvI g q (runT isL g m (q + d + 1) - q)) := by
      intro x hx
      have e10 : sI (uJ τ 12 x) 10 + 1 = nI (q + d + 1) := by
        show sI τ 10 + 1 = _
        rw [h10, nI_1]
      rw [e10]
      have hf : frN τ (uI (uJ τ 12 x) 10 (nI (q + d + 1))) := frN_trans (frN_J τ x) (frN_I _ _ (by decide))
      obtain ⟨τ', q1, q2, q3, q4, q5, q6⟩ := ih n (d + 1) (uI (uJ τ 12 x) 10 (nI (q + d + 1))) (by omega) (by omega) (TpR_N hT hf) h11 h9 rfl hx (fun j h1 h2 => by
        by_cases e : j = q + d
        · rw [e]
          exact hd
        · exact hl j h1 (by omega))
      exact ⟨τ', q1, frN_trans hf q2, q3, q4, q5, q6⟩
    by_cases h10d : 10 ≤ d
    · rw [if_pos (show (10 : Int32) ≤ nI d from nI_le (a := 10) h10d (by omega)), nm_eq, nm_eq]
      refine hgo _ ?_
      unfold wvI
      rw [if_neg (by omega)]
      exact zL_m1
    · rw [if_neg (show ¬ (10 : Int32) ≤ nI d from nI_ge (b := 10) (by omega) (by decide)), rd_n (by omega) (by decide), p1, nm_eq, nm_eq]
      refine hgo _ ?_
      rw [h12, zL_n (by omega), show (32 : Int64) = zL 32 from rfl, show (96 : Int64) = zL 96 from rfl, zL_mul, zL_add, zL_sub]
      unfold wvI
      rw [if_pos (by omega), if_pos (by omega), hvN]
      congr 1
      omega
theorem R_from {g : Nat → Nat} {T q : Nat} {τ : xS} (hq : q ≤ T) (hT : TpR g T τ) (h9 : sI τ 9 = nI q) : ∃ τ', F_X12_next_46 τ = some ((), τ') ∧ frN τ τ' ∧ RT g T q τ' := by
  have hT4 := hT.1
  have hf1 : frN τ (uJ (uI τ 10 (sI τ 9)) 12 0) := frN_trans (frN_I τ _ (by decide)) (frN_J _ _)
  have h243 : ∀ τ1 : xS, sI τ1 11 ≠ 2 → F_X12_next_243 FU τ1 = some ((), τ1) := by
    intro τ1 h
    rw [show FU = 99999 + 1 from rfl, F_X12_next_243, if_neg h]
  have h149 : ∀ τ1 : xS, sI τ1 11 ≠ 1 → F_X12_next_149 FU τ1 = F_X12_next_243 FU τ1 := by
    intro τ1 h
    rw [show F_X12_next_149 FU τ1 = F_X12_next_149 (99999 + 1) τ1 from rfl, F_X12_next_149, if_neg h]
  have e9 : sI (uJ (uI τ 10 (sI τ 9)) 12 0) 9 = nI q := h9
  have e8 : sI (uJ (uI τ 10 (sI τ 9)) 12 0) 8 = nI T := hT.2.1
  unfold F_X12_next_46 F_X12_next_114 RT srtN wrtN
  rw [nm_eq, nm_eq, e9, e8]
  by_cases hTq : T ≤ q
  · obtain rfl : q = T := by omega
    have e11 : sI (uI (uJ (uI τ 10 (sI τ 9)) 12 0) 11 0) 11 = 0 := rfl
    rw [if_pos rfl, nm_eq, e11, if_neg (by decide), h149 _ (by rw [e11]; decide), h243 _ (by rw [e11]; decide), if_pos (Nat.le_refl _), if_pos (Nat.le_refl _)]
    refine ⟨_, rfl, frN_trans hf1 (frN_I _ _ (by decide)), h9, ?_, rfl, rfl⟩
    show sI τ 9 = _
    unfold endT
    rw [if_pos (Nat.le_refl _)]
    exact h9
  obtain ⟨p1, p2⟩ := hT.2.2 q (by omega)
  have p1' : sA (uJ (uI τ 10 (sI τ 9)) 12 0) 7 q = nI (g q) := p1
  rw [if_neg (nI_ne (by omega) (by omega) (by omega)), rd_n (by omega) (by decide), p1', R_isL p2, bd_eq, ib2, if_neg hTq, if_neg hTq]
  by_cases hl : isL (g q) = true
  · have e11 : sI (uI (uJ (uI τ 10 (sI τ 9)) 12 0) 11 1) 11 = 1 := rfl
    have hf2 : frN τ (uI (uJ (uI τ 10 (sI τ 9)) 12 0) 11 1) := frN_trans hf1 (frN_I _ _ (by decide))
    obtain ⟨τ', q1, q2, q3, q4, q5, q6⟩ := R_let (T - q) FU 0 (uI (uJ (uI τ 10 (sI τ 9)) 12 0) 11 1) (by unfold FU; omega) (by omega) (TpR_N hT hf2) e11 h9 h9 rfl (fun j h1 h2 => absurd h2 (by omega))
    have hend : runT isL g (T - q) (q + 0) = endT g T q := by
      unfold endT
      rw [if_neg hTq, if_pos hl, show T - q = T - (q + 1) + 1 by omega, runT, if_pos (by rw [Nat.add_zero]; exact hl)]
    rw [hend] at q5 q6
    rw [if_pos hl, nm_eq, e11, if_neg (by decide), q1, if_pos hl, if_pos hl]
    exact ⟨τ', rfl, frN_trans hf2 q2, q3, q5, q4, q6⟩
  rw [if_neg hl, if_neg hl, if_neg hl, e9, rd_n (by omega) (by decide), p1', R_isD p2, bd_eq, ib2]
  by_cases hd : isD (g q) = true
  · have e11 : sI (uI (uJ (uI τ 10 (sI τ 9)) 12 0) 11 2) 11 = 2 := rfl
    have hf2 : frN τ (uI (uJ (uI τ 10 (sI τ 9)) 12 0) 11 2) := frN_trans hf1 (frN_I _ _ (by decide))
    obtain ⟨τ', q1, q2, q3, q4, q5, q6⟩ := R_dig (T - q) FU q 0 (uI (uJ (uI τ 10 (sI τ 9)) 12 0) 11 2) (by unfold FU; omega) (by omega) (TpR_N hT hf2) e11 h9 rfl (by decide)
    have hend : runT isD g (T - q) q = endT g T q := by
      unfold endT
      rw [if_neg hTq, if_neg hl, if_pos hd, show T - q = T - (q + 1) + 1 by omega, runT, if_pos hd]
    rw [hend] at q5 q6
    rw [if_pos hd, nm_eq, e11, if_neg (by decide), h149 _ (by rw [e11]; decide), q1, if_pos hd, if_pos hd]
    exact ⟨τ', rfl, frN_trans hf2 q2, q3.trans h9, q5, q4.trans e11, q6⟩
  · have e11 : sI (uI (uJ (uI τ 10 (sI τ 9)) 12 0) 11 3) 11 = 3 := rfl
    have e9' : sI (uI (uJ (uI τ 10 (sI τ 9)) 12 0) 11 3) 9 = nI q := h9
    have p1'' : sA (uI (uJ (uI τ 10 (sI τ 9)) 12 0) 11 3) 7 q = nI (g q) := p1
    have e10 : sI (uJ (uI (uJ (uI τ 10 (sI τ 9)) 12 0) 11 3) 12 (nI (g q)).toInt64) 10 + 1 = nI (q + 1) := by
      show sI τ 9 + 1 = _
      rw [h9, nI_1]
    have e11' : sI (uI (uJ (uI (uJ (uI τ 10 (sI τ 9)) 12 0) 11 3) 12 (nI (g q)).toInt64) 10 (nI (q + 1))) 11 = 3 := rfl
    rw [if_neg hd, nm_eq, e11, if_pos rfl, e9', rd_n (by omega) (by decide), p1'', nm_eq, e10, nm_eq, h149 _ (by rw [e11']; decide), h243 _ (by rw [e11']; decide), if_neg hd, if_neg hd]
    refine ⟨_, rfl, frN_trans (frN_trans (frN_trans hf1 (frN_I _ _ (by decide))) (frN_J _ _)) (frN_I _ _ (by decide)), h9, ?_, rfl, zL_n (by omega)⟩
    show nI (q + 1) = _
    unfold endT
    rw [if_neg hTq, if_neg hl, if_neg hd]
theorem R_next {g : Nat → Nat} {T p : Nat} {τ : xS} (hp : p ≤ T) (hT : TpR g T τ) (h10 : sI τ 10 = nI p) : ∃ τ', F_X12_next τ = some ((), τ') ∧ frN τ τ' ∧ RT g T (tkP g T p) τ' := by
  have hT4 := hT.1
  have hl : ∀ m n p (τ1 : xS), m < n → p + m = T → TpR g T τ1 → sI τ1 9 = nI p → ∃ τ', F_X12_next_8 n τ1 = some ((), τ') ∧ frN τ1 τ' ∧ RT g T (skp g m p) τ' := by
    intro m
    induction m with
    | zero =>
      intro n p τ1 hn hp hT1 h9
      obtain ⟨n, rfl⟩ : ∃ q, n = q + 1 := ⟨n - 1, by omega⟩
      rw [F_X12_next_8, hT1.2.1, h9, if_pos (nI_le (by omega) (by omega)), skp]
      exact R_from (by omega) hT1 h9
    | succ m ih =>
      intro n p τ1 hn hp hT1 h9
      obtain ⟨n, rfl⟩ : ∃ q, n = q + 1 := ⟨n - 1, by omega⟩
      obtain ⟨p1, p2⟩ := hT1.2.2 p (by omega)
      rw [F_X12_next_8, hT1.2.1, h9, if_neg (nI_ge (by omega) (by omega)), rd_n (by omega) (by decide), p1, skp]
      by_cases h32 : g p = 32
      · rw [if_pos h32, h32, if_pos (show nI 32 = 32 from rfl), nm_eq, nI_1]
        obtain ⟨τ', q1, q2, q3⟩ := ih n (p + 1) (uI τ1 9 (nI (p + 1))) (by omega) (by omega) (TpR_N hT1 (frN_I τ1 _ (by decide))) rfl
        exact ⟨τ', q1, frN_trans (frN_I τ1 _ (by decide)) q2, q3⟩
      · rw [if_neg h32, if_neg (show ¬ nI (g p) = 32 from nI_ne (b := 32) (by omega) (by decide) h32)]
        exact R_from (by omega) hT1 h9
  obtain ⟨τ', q1, q2, q3⟩ := hl (T - p) FU p (uI τ 9 (sI τ 10)) (by unfold FU; omega) (by omega) (TpR_N hT (frN_I τ _ (by decide))) h10
  refine ⟨τ', ?_, frN_trans (frN_I τ _ (by decide)) q2, q3⟩
  unfold F_X12_next
  rw [nm_eq]
  exact q1
/-! ===== the same token, both sides ===== -/
theorem nm_eqv (g : Nat → Nat) (m : Nat) : ∀ p a b, ((b ≤ 1000 ∧ a = b) ∨ (1000 < b ∧ a = 1001)) → (nmR g m p b ≤ 1000 ∧ nmC g m p a = nmR g m p b) ∨ (1000 < nmR g m p b ∧ nmC g m p a = 1001) := by
  induction m with
  | zero =>
    intro p a b h
    exact h
  | succ m ih =>
    intro p a b h
    rw [nmC, nmR]
    refine ih (p + 1) _ _ ?_
    split <;> omega
theorem fwd_ge (g : Nat → Nat) (q L : Nat) (m : Nat) : ∀ x, 256 ≤ fwd g q L m x ∧ (x + m ≤ 18 → fwd g q L m x ≠ 274) := by
  induction m with
  | zero =>
    intro x
    rw [fwd]
    omega
  | succ m ih =>
    intro x
    rw [fwd]
    by_cases hc : ((if 0 < L then g (q + 0) else 32) = wcN (x * 5 + 0) ∧ (if 1 < L then g (q + 1) else 32) = wcN (x * 5 + 1) ∧ (if 2 < L then g (q + 2) else 32) = wcN (x * 5 + 2) ∧ (if 3 < L then g (q + 3) else 32) = wcN (x * 5 + 3) ∧ (if 4 < L then g (q + 4) else 32) = wcN (x * 5 + 4))
    · rw [if_pos hc]
      omega
    · rw [if_neg hc]
      obtain ⟨h1, h2⟩ := ih (x + 1)
      exact ⟨h1, fun h => h2 (by omega)⟩
theorem R_isSg {g : Nat → Nat} {T q c : Nat} {τ : xS} (hT : TpR g T τ) (h : RT g T q τ) (hq : q ≤ T) (hc : c < 256) (hcl : isL c = false) (hcd : isD c = false) : F_X12_isSign (nI c) τ = some (b2 (tkK g T q = c), τ) := by
  obtain ⟨-, -, h11, h12⟩ := h
  have hT4 := hT.1
  unfold F_X12_isSign
  rw [h11, h12, zL_n (by omega)]
  unfold srtN wrtN tkK
  by_cases hTq : T ≤ q
  · simp only [if_pos hTq]
    rw [if_neg (show ¬ nI 0 = 3 by decide), cz_0, b2_0.mpr (by omega)]
  obtain ⟨p1, p2⟩ := hT.2.2 q (by omega)
  simp only [if_neg hTq]
  by_cases hl : isL (g q) = true
  · have hd := notLD hl
    have hne : ∀ z, z = c → 256 ≤ z → False := fun z h1 h2 => by omega
    simp only [if_pos hl, if_neg (show ¬ isD (g q) = true by rw [hd]; decide)]
    rw [if_neg (show ¬ nI 1 = 3 by decide), cz_0, b2_0.mpr]
    intro z
    have hge : 256 ≤ (if 5 < endT g T q - q then 275 else fwd g q (endT g T q - q) 18 0) := by
      split
      · omega
      · exact (fwd_ge g q (endT g T q - q) 18 0).1
    omega
  simp only [if_neg hl]
  by_cases hd : isD (g q) = true
  · simp only [if_pos hd]
    rw [if_neg (show ¬ nI 2 = 3 by decide), cz_0, b2_0.mpr (by omega)]
  · simp only [if_neg hd]
    rw [if_pos (show nI 3 = 3 from rfl)]
    by_cases he : g q = c
    · rw [if_pos ((lg_cmp_eq _ _).mpr (by rw [he])), cz_1, b2_1.mpr he]
    · rw [if_neg (fun z => he (by
        have := (zL_eq (by omega) (by omega) (by omega) (by omega)).mp ((lg_cmp_eq _ _).mp z)
        omega)), cz_0, b2_0.mpr he]
theorem R_isWd {g : Nat → Nat} {T q x : Nat} {τ : xS} (hT : TpR g T τ) (h : RT g T q τ) (hq : q ≤ T) (hx : x < 18) : F_X12_isWord (zL (cod x : Int)) τ = some (b2 (tkK g T q = 256 + x), τ) := by
  obtain ⟨-, -, h11, h12⟩ := h
  have hT4 := hT.1
  have hcl := cod_lt x hx
  unfold F_X12_isWord
  rw [h11, h12]
  unfold srtN wrtN tkK
  by_cases hTq : T ≤ q
  · simp only [if_pos hTq]
    rw [if_neg (show ¬ nI 0 = 1 by decide), cz_0, b2_0.mpr (by omega)]
  obtain ⟨p1, p2⟩ := hT.2.2 q (by omega)
  obtain ⟨en1, en2⟩ := endT_le (g := g) (T := T) (q := q) (by omega)
  simp only [if_neg hTq]
  by_cases hl : isL (g q) = true
  · have hd := notLD hl
    have hlet : ∀ j, q ≤ j → j < q + (endT g T q - q) → isL (g j) = true := fun j h1 h2 => end_let (T := T) (q := q) (show q < T by omega) hl j h1 (by omega)
    simp only [if_pos hl, if_neg (show ¬ isD (g q) = true by rw [hd]; decide)]
    rw [if_pos (show nI 1 = 1 from rfl)]
    by_cases h5 : 5 < endT g T q - q
    · simp only [if_pos h5]
      rw [b2_0.mpr (show ¬ 275 = 256 + x by omega)]
      by_cases h10 : endT g T q - q ≤ 10
      · have hv := hv_lt (endT g T q - q) hlet
        have hv2 : 32 ^ (endT g T q - q) ≤ 32 ^ 10 := Nat.pow_le_pow_right (by decide) h10
        have h3210 : (32 : Nat) ^ 10 = 1125899906842624 := by decide
        have hge := hv_ge (endT g T q - q) h5 hlet
        simp only [if_pos h10]
        rw [if_neg (fun z => by
          have := (zL_eq (by omega) (by omega) (by omega) (by omega)).mp ((lg_cmp_eq _ _).mp z)
          omega), cz_0]
      · simp only [if_neg h10]
        rw [if_neg (fun z => by
          have := (zL_eq (by omega) (by omega) (by omega) (by omega)).mp ((lg_cmp_eq _ _).mp z)
          omega), cz_0]
    · have hv := hv_lt (endT g T q - q) hlet
      have hv2 : 32 ^ (endT g T q - q) ≤ 32 ^ 5 := Nat.pow_le_pow_right (by decide) (by omega)
      have h325 : (32 : Nat) ^ 5 = 33554432 := by decide
      have hf := fwd_iff (g := g) (q := q) (L := endT g T q - q) (by omega) (by omega) hlet 18 0 (by omega) x hx
      simp only [if_neg h5, if_pos (show endT g T q - q ≤ 10 by omega)]
      by_cases he : hvN g q (endT g T q - q) = cod x
      · rw [if_pos ((lg_cmp_eq _ _).mpr (by rw [he])), cz_1, b2_1.mpr (hf.mpr ⟨Nat.zero_le _, he⟩)]
      · rw [if_neg (fun z => he (by
          have := (zL_eq (by omega) (by omega) (by omega) (by omega)).mp ((lg_cmp_eq _ _).mp z)
          omega)), cz_0, b2_0.mpr (fun z => he (hf.mp z).2)]
  simp only [if_neg hl]
  by_cases hd : isD (g q) = true
  · simp only [if_pos hd]
    rw [if_neg (show ¬ nI 2 = 1 by decide), cz_0, b2_0.mpr (by omega)]
  · simp only [if_neg hd]
    rw [if_neg (show ¬ nI 3 = 1 by decide), cz_0, b2_0.mpr (by omega)]
/-- the numbers: digits that are at most 1000, alike on both sides -/
theorem R_num {g : Nat → Nat} {T q : Nat} {τ : xS} (hT : TpR g T τ) (h : RT g T q τ) (hq : q ≤ T) : (sI τ 11 = 2 ↔ tkK g T q = 274) ∧ (tkK g T q = 274 → ∃ v : Nat, v ≤ 10000009 ∧ sJ τ 12 = zL (v : Int) ∧ ((v ≤ 1000 ∧ tkN g T q = v) ∨ (1000 < v ∧ tkN g T q = 1001))) := by
  obtain ⟨-, -, h11, h12⟩ := h
  have hT4 := hT.1
  rw [h11, h12]
  unfold srtN wrtN tkK tkN
  by_cases hTq : T ≤ q
  · simp only [if_pos hTq]
    exact ⟨⟨fun z => absurd z (by decide), fun z => absurd z (by decide)⟩, fun z => absurd z (by decide)⟩
  obtain ⟨p1, p2⟩ := hT.2.2 q (by omega)
  obtain ⟨en1, en2⟩ := endT_le (g := g) (T := T) (q := q) (by omega)
  simp only [if_neg hTq]
  by_cases hl : isL (g q) = true
  · have hd := notLD hl
    have hge : ∀ z, (if 5 < endT g T q - q then 275 else fwd g q (endT g T q - q) 18 0) = z → z ≠ 274 := by
      intro z hz
      rw [← hz]
      split
      · omega
      · exact (fwd_ge g q (endT g T q - q) 18 0).2 (by omega)
    simp only [if_pos hl, if_neg (show ¬ isD (g q) = true by rw [hd]; decide)]
    exact ⟨⟨fun z => absurd z (by decide), fun z => absurd z (hge _ rfl)⟩, fun z => absurd z (hge _ rfl)⟩
  simp only [if_neg hl]
  by_cases hd : isD (g q) = true
  · simp only [if_pos hd]
    have hdig := end_dig (g := g) (T := T) (q := q) (by omega) hd
    refine ⟨⟨fun _ => trivial, fun _ => rfl⟩, fun _ => ⟨_, nmR_le g _ q 0 (by decide) (fun j h1 h2 => ?_), rfl, nm_eqv g _ q 0 0 (Or.inl ⟨by decide, rfl⟩)⟩⟩
    have := hdig j h1 (by omega)
    unfold isD at this
    have := of_decide_eq_true this
    omega
  · simp only [if_neg hd]
    exact ⟨⟨fun z => absurd z (by decide), fun z => absurd z (by omega)⟩, fun z => absurd z (by omega)⟩
end
