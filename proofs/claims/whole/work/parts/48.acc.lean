/-! what is where, component by component -/
section ACC
variable {p : Nat} {A : aS} {S : z_St} {j : Nat}
theorem c_0 (h : CI p A S) : S.1 (0) 1 = iI (A 0 0) := h.2.2.2.1 0 (by decide) 0 Nat.zero_lt_one
theorem c_1 (h : CI p A S) : S.1 (0) 2 = iI (A 1 0) := h.2.2.2.1 1 (by decide) 0 Nat.zero_lt_one
theorem c_2 (h : CI p A S) : S.1 (p) 0 = iI (A 2 0) := h.2.2.2.1 2 (by decide) 0 Nat.zero_lt_one
theorem c_3 (h : CI p A S) : S.1 (p) 3 = iI (A 3 0) := h.2.2.2.1 3 (by decide) 0 Nat.zero_lt_one
theorem c_4 (h : CI p A S) : S.1 (24) 0 = iI (A 4 0) := h.2.2.2.1 4 (by decide) 0 Nat.zero_lt_one
theorem c_5 (h : CI p A S) : S.1 (24) 2 = iI (A 5 0) := h.2.2.2.1 5 (by decide) 0 Nat.zero_lt_one
theorem c_6 (h : CI p A S) : S.1 (24) 10 = iI (A 6 0) := h.2.2.2.1 6 (by decide) 0 Nat.zero_lt_one
theorem c_7 (h : CI p A S) : S.1 (24) 12 = iI (A 7 0) := h.2.2.2.1 7 (by decide) 0 Nat.zero_lt_one
theorem c_8 (h : CI p A S) : S.1 (0) 8 = iI (A 8 0) := h.2.2.2.1 8 (by decide) 0 Nat.zero_lt_one
theorem c_9 (h : CI p A S) : S.1 (64) 1 = iI (A 9 0) := h.2.2.2.1 9 (by decide) 0 Nat.zero_lt_one
theorem c_10 (h : CI p A S) (hj : (j : Int) < A 0 0) : S.1 (1) (j) = iI (ce 10 (A 10 j)) := by
  have e := h.2.2.2.1 10 (by decide) j (show j < dD A 10 from (by show j < (A 0 0).toNat; omega))
  have e2 : cx 10 j = j := by show 0 + 1 * j = _; omega
  rw [e2] at e
  exact e
theorem c_11 (h : CI p A S) (hj : (j : Int) < A 2 0) : S.1 (p + 1) (j) = iI (A 11 j) := by
  have e := h.2.2.2.1 11 (by decide) j (show j < dD A 11 from (by show j < (A 2 0).toNat; omega))
  have e2 : cx 11 j = j := by show 0 + 1 * j = _; omega
  rw [e2] at e
  exact e
theorem c_12 (h : CI p A S) (hj : (j : Int) < A 2 0) : S.1 (p + 2) (j) = iI (A 12 j) := by
  have e := h.2.2.2.1 12 (by decide) j (show j < dD A 12 from (by show j < (A 2 0).toNat; omega))
  have e2 : cx 12 j = j := by show 0 + 1 * j = _; omega
  rw [e2] at e
  exact e
theorem c_13 (h : CI p A S) (hj : (j : Int) < A 3 0) : S.1 (p + 3) (j) = iI (A 13 j) := by
  have e := h.2.2.2.1 13 (by decide) j (show j < dD A 13 from (by show j < (A 3 0).toNat; omega))
  have e2 : cx 13 j = j := by show 0 + 1 * j = _; omega
  rw [e2] at e
  exact e
theorem c_14 (h : CI p A S) (hj : (j : Int) < A 3 0) : S.1 (p + 4) (j) = iI (A 14 j) := by
  have e := h.2.2.2.1 14 (by decide) j (show j < dD A 14 from (by show j < (A 3 0).toNat; omega))
  have e2 : cx 14 j = j := by show 0 + 1 * j = _; omega
  rw [e2] at e
  exact e
theorem c_15 (h : CI p A S) (hj : (j : Int) < A 3 0) : S.1 (p + 5) (j) = iI (A 15 j) := by
  have e := h.2.2.2.1 15 (by decide) j (show j < dD A 15 from (by show j < (A 3 0).toNat; omega))
  have e2 : cx 15 j = j := by show 0 + 1 * j = _; omega
  rw [e2] at e
  exact e
theorem c_16 (h : CI p A S) (hj : (j : Int) < A 3 0) : S.1 (p + 6) (j) = iI (A 16 j) := by
  have e := h.2.2.2.1 16 (by decide) j (show j < dD A 16 from (by show j < (A 3 0).toNat; omega))
  have e2 : cx 16 j = j := by show 0 + 1 * j = _; omega
  rw [e2] at e
  exact e
theorem c_17 (h : CI p A S) (hj : (j : Int) < A 3 0) : S.1 (p + 7) (j) = iI (A 17 j) := by
  have e := h.2.2.2.1 17 (by decide) j (show j < dD A 17 from (by show j < (A 3 0).toNat; omega))
  have e2 : cx 17 j = j := by show 0 + 1 * j = _; omega
  rw [e2] at e
  exact e
theorem c_18 (h : CI p A S) (hj : (j : Int) < A 3 0) : S.1 (p + 8) (j) = iI (A 18 j) := by
  have e := h.2.2.2.1 18 (by decide) j (show j < dD A 18 from (by show j < (A 3 0).toNat; omega))
  have e2 : cx 18 j = j := by show 0 + 1 * j = _; omega
  rw [e2] at e
  exact e
theorem c_19 (h : CI p A S) (hj : (j : Int) < A 67 0) : S.1 (p + 9) (j) = iI (enc (A 19 j)) := by
  have e := h.2.2.2.1 19 (by decide) j (show j < dD A 19 from (by show j < (A 67 0).toNat; omega))
  have e2 : cx 19 j = j := by show 0 + 1 * j = _; omega
  rw [e2] at e
  exact e
theorem c_20 (h : CI p A S) (hj : j < 10) : S.1 (26) (j) = iI (A 20 j) := by
  have e := h.2.2.2.1 20 (by decide) j (show j < dD A 20 from hj)
  have e2 : cx 20 j = j := by show 0 + 1 * j = _; omega
  rw [e2] at e
  exact e
theorem c_21 (h : CI p A S) (hj : j < 8) : S.1 (27) (j) = iI (A 21 j) := by
  have e := h.2.2.2.1 21 (by decide) j (show j < dD A 21 from hj)
  have e2 : cx 21 j = j := by show 0 + 1 * j = _; omega
  rw [e2] at e
  exact e
theorem c_22 (h : CI p A S) {b r : Nat} (hb : b < 10) (hr : r < 8) : S.1 28 (r * 10 + b) = iI (A 22 (8 * b + r)) := by
  have e := h.2.2.2.1 22 (by decide) (8 * b + r) (show 8 * b + r < 80 by omega)
  have e2 : cx 22 (8 * b + r) = r * 10 + b := by show (8 * b + r) % 8 * 10 + (8 * b + r) / 8 = _; omega
  rw [e2] at e
  exact e
theorem c_23 (h : CI p A S) {b r : Nat} (hb : b < 10) (hr : r < 8) : S.1 29 (r * 10 + b) = iI (A 23 (8 * b + r)) := by
  have e := h.2.2.2.1 23 (by decide) (8 * b + r) (show 8 * b + r < 80 by omega)
  have e2 : cx 23 (8 * b + r) = r * 10 + b := by show (8 * b + r) % 8 * 10 + (8 * b + r) / 8 = _; omega
  rw [e2] at e
  exact e
theorem c_24 (h : CI p A S) {b r : Nat} (hb : b < 10) (hr : r < 8) : S.1 30 (r * 10 + b) = iI (A 24 (8 * b + r)) := by
  have e := h.2.2.2.1 24 (by decide) (8 * b + r) (show 8 * b + r < 80 by omega)
  have e2 : cx 24 (8 * b + r) = r * 10 + b := by show (8 * b + r) % 8 * 10 + (8 * b + r) / 8 = _; omega
  rw [e2] at e
  exact e
theorem c_25 (h : CI p A S) {b r : Nat} (hb : b < 10) (hr : r < 8) : S.1 31 (r * 10 + b) = iI (A 25 (8 * b + r)) := by
  have e := h.2.2.2.1 25 (by decide) (8 * b + r) (show 8 * b + r < 80 by omega)
  have e2 : cx 25 (8 * b + r) = r * 10 + b := by show (8 * b + r) % 8 * 10 + (8 * b + r) / 8 = _; omega
  rw [e2] at e
  exact e
theorem c_26 (h : CI p A S) (hj : (j : Int) < A 4 0) : S.1 (25) (6 * j + 0) = iI (A 26 j) := by
  have e := h.2.2.2.1 26 (by decide) j (show j < dD A 26 from (by show j < (A 4 0).toNat; omega))
  have e2 : cx 26 j = 6 * j + 0 := by show 0 + 6 * j = _; omega
  rw [e2] at e
  exact e
theorem c_27 (h : CI p A S) (hj : (j : Int) < A 4 0) : S.1 (25) (6 * j + 1) = iI (A 27 j) := by
  have e := h.2.2.2.1 27 (by decide) j (show j < dD A 27 from (by show j < (A 4 0).toNat; omega))
  have e2 : cx 27 j = 6 * j + 1 := by show 1 + 6 * j = _; omega
  rw [e2] at e
  exact e
theorem c_28 (h : CI p A S) (hj : (j : Int) < A 4 0) : S.1 (25) (6 * j + 2) = iI (A 28 j) := by
  have e := h.2.2.2.1 28 (by decide) j (show j < dD A 28 from (by show j < (A 4 0).toNat; omega))
  have e2 : cx 28 j = 6 * j + 2 := by show 2 + 6 * j = _; omega
  rw [e2] at e
  exact e
theorem c_29 (h : CI p A S) (hj : (j : Int) < A 4 0) : S.1 (25) (6 * j + 3) = iI (A 29 j) := by
  have e := h.2.2.2.1 29 (by decide) j (show j < dD A 29 from (by show j < (A 4 0).toNat; omega))
  have e2 : cx 29 j = 6 * j + 3 := by show 3 + 6 * j = _; omega
  rw [e2] at e
  exact e
theorem c_30 (h : CI p A S) (hj : (j : Int) < A 4 0) : S.1 (25) (6 * j + 4) = iI (A 30 j) := by
  have e := h.2.2.2.1 30 (by decide) j (show j < dD A 30 from (by show j < (A 4 0).toNat; omega))
  have e2 : cx 30 j = 6 * j + 4 := by show 4 + 6 * j = _; omega
  rw [e2] at e
  exact e
theorem c_31 (h : CI p A S) (hj : (j : Int) < A 4 0) : S.1 (25) (6 * j + 5) = iI (A 31 j) := by
  have e := h.2.2.2.1 31 (by decide) j (show j < dD A 31 from (by show j < (A 4 0).toNat; omega))
  have e2 : cx 31 j = 6 * j + 5 := by show 5 + 6 * j = _; omega
  rw [e2] at e
  exact e
theorem c_32 (h : CI p A S) (hj : (j : Int) < A 6 0) : S.1 (33) (4 * j + 0) = iI (A 32 j) := by
  have e := h.2.2.2.1 32 (by decide) j (show j < dD A 32 from (by show j < (A 6 0).toNat; omega))
  have e2 : cx 32 j = 4 * j + 0 := by show 0 + 4 * j = _; omega
  rw [e2] at e
  exact e
theorem c_33 (h : CI p A S) (hj : (j : Int) < A 6 0) : S.1 (33) (4 * j + 1) = iI (A 33 j) := by
  have e := h.2.2.2.1 33 (by decide) j (show j < dD A 33 from (by show j < (A 6 0).toNat; omega))
  have e2 : cx 33 j = 4 * j + 1 := by show 1 + 4 * j = _; omega
  rw [e2] at e
  exact e
theorem c_34 (h : CI p A S) (hj : (j : Int) < A 6 0) : S.1 (33) (4 * j + 2) = iI (A 34 j) := by
  have e := h.2.2.2.1 34 (by decide) j (show j < dD A 34 from (by show j < (A 6 0).toNat; omega))
  have e2 : cx 34 j = 4 * j + 2 := by show 2 + 4 * j = _; omega
  rw [e2] at e
  exact e
theorem c_35 (h : CI p A S) (hj : (j : Int) < A 6 0) : S.1 (33) (4 * j + 3) = iI (A 35 j) := by
  have e := h.2.2.2.1 35 (by decide) j (show j < dD A 35 from (by show j < (A 6 0).toNat; omega))
  have e2 : cx 35 j = 4 * j + 3 := by show 3 + 4 * j = _; omega
  rw [e2] at e
  exact e
theorem c_36 (h : CI p A S) (hj : (j : Int) < A 7 0) : S.1 (34) (j) = iI (A 36 j) := by
  have e := h.2.2.2.1 36 (by decide) j (show j < dD A 36 from (by show j < (A 7 0).toNat; omega))
  have e2 : cx 36 j = j := by show 0 + 1 * j = _; omega
  rw [e2] at e
  exact e
theorem c_37 (h : CI p A S) (hj : (j : Int) < A 7 0) : S.1 (35) (j) = iI (A 37 j) := by
  have e := h.2.2.2.1 37 (by decide) j (show j < dD A 37 from (by show j < (A 7 0).toNat; omega))
  have e2 : cx 37 j = j := by show 0 + 1 * j = _; omega
  rw [e2] at e
  exact e
theorem c_38 (h : CI p A S) (hj : j < 60) : S.1 (36) (j) = iI (A 38 j) := by
  have e := h.2.2.2.1 38 (by decide) j (show j < dD A 38 from hj)
  have e2 : cx 38 j = j := by show 0 + 1 * j = _; omega
  rw [e2] at e
  exact e
theorem c_39 (h : CI p A S) (hj : j < 5) : S.1 (37) (j) = iI (A 39 j) := by
  have e := h.2.2.2.1 39 (by decide) j (show j < dD A 39 from hj)
  have e2 : cx 39 j = j := by show 0 + 1 * j = _; omega
  rw [e2] at e
  exact e
theorem c_40 (h : CI p A S) (hj : (j : Int) < A 9 0) : S.1 (65) (j) = iI (A 40 j) := by
  have e := h.2.2.2.1 40 (by decide) j (show j < dD A 40 from (by show j < (A 9 0).toNat; omega))
  have e2 : cx 40 j = j := by show 0 + 1 * j = _; omega
  rw [e2] at e
  exact e
theorem m_0 (h : MI A S) : S.1 70 17 = iI (A 0 0) := h.1 0 (by decide) 0 Nat.zero_lt_one
theorem m_1 (h : MI A S) : S.1 70 26 = iI (A 1 0) := h.1 1 (by decide) 0 Nat.zero_lt_one
theorem m_2 (h : MI A S) : S.1 70 2 = iI (A 2 0) := h.1 2 (by decide) 0 Nat.zero_lt_one
theorem m_3 (h : MI A S) : S.1 70 3 = iI (A 3 0) := h.1 3 (by decide) 0 Nat.zero_lt_one
theorem m_4 (h : MI A S) : S.1 70 28 = iI (A 4 0) := h.1 4 (by decide) 0 Nat.zero_lt_one
theorem m_5 (h : MI A S) : S.1 70 29 = iI (A 5 0) := h.1 5 (by decide) 0 Nat.zero_lt_one
theorem m_6 (h : MI A S) : S.1 70 44 = iI (A 6 0) := h.1 6 (by decide) 0 Nat.zero_lt_one
theorem m_7 (h : MI A S) : S.1 70 57 = iI (A 7 0) := h.1 7 (by decide) 0 Nat.zero_lt_one
theorem m_8 (h : MI A S) : S.1 70 67 = iI (A 8 0) := h.1 8 (by decide) 0 Nat.zero_lt_one
theorem m_10 (h : MI A S) (hj : (j : Int) < A 0 0) : S.1 82 j = iI (A 10 j) := by
  have e := h.1 10 (by decide) j (show j < mD A 10 from (by show j < (A 0 0).toNat; omega))
  have e2 : mx 10 j = j := by show 0 + 1 * j = _; omega
  rw [e2] at e
  exact e
theorem m_11 (h : MI A S) (hj : (j : Int) < A 2 0) : S.1 72 j = iI (A 11 j) := by
  have e := h.1 11 (by decide) j (show j < mD A 11 from (by show j < (A 2 0).toNat; omega))
  have e2 : mx 11 j = j := by show 0 + 1 * j = _; omega
  rw [e2] at e
  exact e
theorem m_12 (h : MI A S) (hj : (j : Int) < A 2 0) : S.1 73 j = iI (A 12 j) := by
  have e := h.1 12 (by decide) j (show j < mD A 12 from (by show j < (A 2 0).toNat; omega))
  have e2 : mx 12 j = j := by show 0 + 1 * j = _; omega
  rw [e2] at e
  exact e
theorem m_13 (h : MI A S) (hj : (j : Int) < A 3 0) : S.1 74 j = iI (A 13 j) := by
  have e := h.1 13 (by decide) j (show j < mD A 13 from (by show j < (A 3 0).toNat; omega))
  have e2 : mx 13 j = j := by show 0 + 1 * j = _; omega
  rw [e2] at e
  exact e
theorem m_14 (h : MI A S) (hj : (j : Int) < A 3 0) : S.1 75 j = iI (A 14 j) := by
  have e := h.1 14 (by decide) j (show j < mD A 14 from (by show j < (A 3 0).toNat; omega))
  have e2 : mx 14 j = j := by show 0 + 1 * j = _; omega
  rw [e2] at e
  exact e
theorem m_15 (h : MI A S) (hj : (j : Int) < A 3 0) : S.1 76 j = iI (A 15 j) := by
  have e := h.1 15 (by decide) j (show j < mD A 15 from (by show j < (A 3 0).toNat; omega))
  have e2 : mx 15 j = j := by show 0 + 1 * j = _; omega
  rw [e2] at e
  exact e
theorem m_16 (h : MI A S) (hj : (j : Int) < A 3 0) : S.1 81 j = iI (A 16 j) := by
  have e := h.1 16 (by decide) j (show j < mD A 16 from (by show j < (A 3 0).toNat; omega))
  have e2 : mx 16 j = j := by show 0 + 1 * j = _; omega
  rw [e2] at e
  exact e
theorem m_17 (h : MI A S) (hj : (j : Int) < A 3 0) : S.1 77 j = iI (A 17 j) := by
  have e := h.1 17 (by decide) j (show j < mD A 17 from (by show j < (A 3 0).toNat; omega))
  have e2 : mx 17 j = j := by show 0 + 1 * j = _; omega
  rw [e2] at e
  exact e
theorem m_18 (h : MI A S) (hj : (j : Int) < A 3 0) : S.1 78 j = iI (A 18 j) := by
  have e := h.1 18 (by decide) j (show j < mD A 18 from (by show j < (A 3 0).toNat; omega))
  have e2 : mx 18 j = j := by show 0 + 1 * j = _; omega
  rw [e2] at e
  exact e
theorem m_19 (h : MI A S) (hj : (j : Int) < A 67 0) : S.1 79 j = iI (A 19 j) := by
  have e := h.1 19 (by decide) j (show j < mD A 19 from (by show j < (A 67 0).toNat; omega))
  have e2 : mx 19 j = j := by show 0 + 1 * j = _; omega
  rw [e2] at e
  exact e
theorem m_20 (h : MI A S) (hj : j < 10) : S.1 86 j = iI (A 20 j) := by
  have e := h.1 20 (by decide) j (show j < mD A 20 from hj)
  have e2 : mx 20 j = j := by show 0 + 1 * j = _; omega
  rw [e2] at e
  exact e
theorem m_21 (h : MI A S) (hj : j < 8) : S.1 87 j = iI (A 21 j) := by
  have e := h.1 21 (by decide) j (show j < mD A 21 from hj)
  have e2 : mx 21 j = j := by show 0 + 1 * j = _; omega
  rw [e2] at e
  exact e
theorem m_22 (h : MI A S) (hj : j < 80) : S.1 83 j = iI (A 22 j) := by
  have e := h.1 22 (by decide) j (show j < mD A 22 from hj)
  have e2 : mx 22 j = j := by show 0 + 1 * j = _; omega
  rw [e2] at e
  exact e
theorem m_23 (h : MI A S) (hj : j < 80) : S.1 84 j = iI (A 23 j) := by
  have e := h.1 23 (by decide) j (show j < mD A 23 from hj)
  have e2 : mx 23 j = j := by show 0 + 1 * j = _; omega
  rw [e2] at e
  exact e
theorem m_25 (h : MI A S) (hj : j < 80) : S.1 85 j = iI (A 25 j) := by
  have e := h.1 25 (by decide) j (show j < mD A 25 from hj)
  have e2 : mx 25 j = j := by show 0 + 1 * j = _; omega
  rw [e2] at e
  exact e
theorem m_26 (h : MI A S) (hj : (j : Int) < A 4 0) : S.1 89 j = iI (A 26 j) := by
  have e := h.1 26 (by decide) j (show j < mD A 26 from (by show j < (A 4 0).toNat; omega))
  have e2 : mx 26 j = j := by show 0 + 1 * j = _; omega
  rw [e2] at e
  exact e
theorem m_27 (h : MI A S) (hj : (j : Int) < A 4 0) : S.1 90 j = iI (A 27 j) := by
  have e := h.1 27 (by decide) j (show j < mD A 27 from (by show j < (A 4 0).toNat; omega))
  have e2 : mx 27 j = j := by show 0 + 1 * j = _; omega
  rw [e2] at e
  exact e
theorem m_28 (h : MI A S) (hj : (j : Int) < A 4 0) : S.1 91 j = iI (A 28 j) := by
  have e := h.1 28 (by decide) j (show j < mD A 28 from (by show j < (A 4 0).toNat; omega))
  have e2 : mx 28 j = j := by show 0 + 1 * j = _; omega
  rw [e2] at e
  exact e
theorem m_29 (h : MI A S) (hj : (j : Int) < A 4 0) : S.1 92 j = iI (A 29 j) := by
  have e := h.1 29 (by decide) j (show j < mD A 29 from (by show j < (A 4 0).toNat; omega))
  have e2 : mx 29 j = j := by show 0 + 1 * j = _; omega
  rw [e2] at e
  exact e
theorem m_30 (h : MI A S) (hj : (j : Int) < A 4 0) : S.1 93 j = iI (A 30 j) := by
  have e := h.1 30 (by decide) j (show j < mD A 30 from (by show j < (A 4 0).toNat; omega))
  have e2 : mx 30 j = j := by show 0 + 1 * j = _; omega
  rw [e2] at e
  exact e
theorem m_31 (h : MI A S) (hj : (j : Int) < A 4 0) : S.1 94 j = iI (A 31 j) := by
  have e := h.1 31 (by decide) j (show j < mD A 31 from (by show j < (A 4 0).toNat; omega))
  have e2 : mx 31 j = j := by show 0 + 1 * j = _; omega
  rw [e2] at e
  exact e
theorem m_32 (h : MI A S) (hj : (j : Int) < A 6 0) : S.1 97 j = iI (A 32 j) := by
  have e := h.1 32 (by decide) j (show j < mD A 32 from (by show j < (A 6 0).toNat; omega))
  have e2 : mx 32 j = j := by show 0 + 1 * j = _; omega
  rw [e2] at e
  exact e
theorem m_33 (h : MI A S) (hj : (j : Int) < A 6 0) : S.1 98 j = iI (A 33 j) := by
  have e := h.1 33 (by decide) j (show j < mD A 33 from (by show j < (A 6 0).toNat; omega))
  have e2 : mx 33 j = j := by show 0 + 1 * j = _; omega
  rw [e2] at e
  exact e
theorem m_34 (h : MI A S) (hj : (j : Int) < A 6 0) : S.1 99 j = iI (A 34 j) := by
  have e := h.1 34 (by decide) j (show j < mD A 34 from (by show j < (A 6 0).toNat; omega))
  have e2 : mx 34 j = j := by show 0 + 1 * j = _; omega
  rw [e2] at e
  exact e
theorem m_35 (h : MI A S) (hj : (j : Int) < A 6 0) : S.1 100 j = iI (A 35 j) := by
  have e := h.1 35 (by decide) j (show j < mD A 35 from (by show j < (A 6 0).toNat; omega))
  have e2 : mx 35 j = j := by show 0 + 1 * j = _; omega
  rw [e2] at e
  exact e
theorem m_36 (h : MI A S) (hj : (j : Int) < A 7 0) : S.1 108 j = iI (A 36 j) := by
  have e := h.1 36 (by decide) j (show j < mD A 36 from (by show j < (A 7 0).toNat; omega))
  have e2 : mx 36 j = j := by show 0 + 1 * j = _; omega
  rw [e2] at e
  exact e
theorem m_37 (h : MI A S) (hj : (j : Int) < A 7 0) : S.1 109 j = iI (A 37 j) := by
  have e := h.1 37 (by decide) j (show j < mD A 37 from (by show j < (A 7 0).toNat; omega))
  have e2 : mx 37 j = j := by show 0 + 1 * j = _; omega
  rw [e2] at e
  exact e
theorem m_38 (h : MI A S) (hj : j < 60) : S.1 112 j = iI (A 38 j) := by
  have e := h.1 38 (by decide) j (show j < mD A 38 from hj)
  have e2 : mx 38 j = j := by show 0 + 1 * j = _; omega
  rw [e2] at e
  exact e
theorem m_39 (h : MI A S) (hj : j < 5) : S.1 80 j = iI (A 39 j) := by
  have e := h.1 39 (by decide) j (show j < mD A 39 from hj)
  have e2 : mx 39 j = j := by show 0 + 1 * j = _; omega
  rw [e2] at e
  exact e
theorem m_40 (h : MI A S) (hj : (j : Int) < A 9 0) : S.1 110 j = iI (A 40 j) := by
  have e := h.1 40 (by decide) j (show j < mD A 40 from (by show j < (A 9 0).toNat; omega))
  have e2 : mx 40 j = j := by show 0 + 1 * j = _; omega
  rw [e2] at e
  exact e
theorem m_65 (h : MI A S) (hj : j < 32080) : S.1 88 j = iI (A 65 j) := by
  have e := h.1 65 (by decide) j (show j < mD A 65 from hj)
  have e2 : mx 65 j = j := by show 0 + 1 * j = _; omega
  rw [e2] at e
  exact e
theorem CI.p1 (h : CI p A S) : decide (S.1 0 3 = -1) = false := by
  rw [h.2.1]
  rcases h.1 with rfl | rfl <;> decide +kernel
theorem CI.p2 (h : CI p A S) : (S.1 0 3).toNatClampNeg = p := by
  rw [h.2.1]
  rcases h.1 with rfl | rfl <;> decide +kernel
theorem CI.p3 (h : CI p A S) : z_isO 3 p = true := by
  rcases h.1 with rfl | rfl <;> decide +kernel
theorem CI.p4 (h : CI p A S) : ∀ k, k < 10 → 0 < k → z_at (p + k) = 1 := by
  rcases h.1 with rfl | rfl <;> decide +kernel
end ACC
/-! the first steps of a call of the model: its code is taken back -/
theorem m_no1 : ∀ x, x < 67 → mi x = 70 → 0 < mn x → ∀ j, j < mn x → mx x j ≠ 1 := by
  intro x hx h1 h2 j hj q
  have h3 : ∀ x, x < 67 → mi x = 70 → mn x ≤ 1 := by decide +kernel
  have h4 : ∀ x, x < 67 → mi x = 70 → mx x 0 ≠ 1 := by decide +kernel
  have h5 := h3 x hx h1
  have h6 : j = 0 := by omega
  subst h6
  exact h4 x hx h1 q
theorem MI.code {A : aS} {S : z_St} {v : Int32} (h : MI A S) (hw : wf A) : MI A (z_w1 S.1 70 1 v, S.2) := by
  refine ⟨h.1.f (fun x hx j hj => ?_), by show z_w1 S.1 70 1 v 70 63 = _ ∨ _; rw [z_w1_r]; exact h.2⟩
  show z_w1 S.1 70 1 v (mi x) (mx x j) = _
  rw [z_w1_r, if_neg]
  have hb := mD_le hw x hx
  rintro ⟨q1, q2⟩
  exact m_no1 x hx q1 (by omega) j (by omega) q2
