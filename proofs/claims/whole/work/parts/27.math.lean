/-! ===== floors ===== -/
/-- rounded down, below above 0 -/
def wfl (x y : Int32) : Int32 := if wn 0 < y then wi (x.toInt / y.toInt) else wn 0
section WFL
variable {x y : Int32}
theorem w_le : (x ≤ y) = ¬ y < x := propext Int32.not_lt.symm
theorem wx_sgn : (x ^^^ y < wn 0) = ((x < wn 0) ≠ (y < wn 0)) := by
  have h0 : ∀ z : Int32, (z < wn 0) = (z.toBitVec.msb = true) := by
    intro z
    rw [BitVec.msb_eq_toInt, decide_eq_true_eq, wt_lt, wn_toInt (by decide)]
    rfl
  rw [h0, h0, h0, Int32.toBitVec_xor, BitVec.msb_xor]
  cases x.toBitVec.msb <;> cases y.toBitVec.msb <;> simp
theorem w0_toInt : (wn 0).toInt = 0 := rfl
theorem w1_toInt : (wn 1).toInt = 1 := rfl
theorem wfl_pos (hy : 0 < y.toInt) : wfl x y = wi (x.toInt / y.toInt) := if_pos (by rw [wt_lt, w0_toInt]; exact hy)
theorem wfl_toInt (hy : 0 < y.toInt) : (wfl x y).toInt = x.toInt / y.toInt := by
  have h1 := wt_lo (x := x); have h2 := wt_hi (x := x)
  rw [wfl_pos hy, wi_toInt]
  · exact Int.le_ediv_of_mul_le hy (by omega)
  · exact Int.ediv_lt_of_lt_mul hy (by omega)
theorem w_floor {a b q : Int} (hb : 0 < b) (h1 : b * q ≤ a) (h2 : a < b * q + b) : a / b = q := ((Int.ediv_emod_unique hb (q := q) (r := a - b * q)).mpr ⟨by omega, by omega, by omega⟩).1
/-- -a by b, for a below 0 -/
theorem w_neg (a : Int) {b : Int} (hb : 0 < b) : ∃ Q P R : Int, (-a) / b = Q ∧ b * Q = P ∧ -a = P + R ∧ 0 ≤ R ∧ R < b ∧ b * (-Q) = -P ∧ b * (-Q - 1) = -P - b ∧ -Q * b = -P := by
  have f1 := Int.mul_ediv_add_emod (-a) b
  refine ⟨(-a) / b, b * ((-a) / b), (-a) % b, rfl, rfl, by omega, Int.emod_nonneg _ (by omega), Int.emod_lt_of_pos _ hb, Int.mul_neg _ _, ?_, ?_⟩
  · rw [Int.mul_sub, Int.mul_neg, Int.mul_one]
  · rw [Int.neg_mul, Int.mul_comm]
theorem w_tdiv (a : Int) {b : Int} : a.tdiv b = if 0 ≤ a then a / b else -((-a) / b) := by
  by_cases ha : 0 ≤ a
  · rw [if_pos ha, Int.tdiv_eq_ediv_of_nonneg ha]
  · rw [if_neg ha, ← Int.tdiv_eq_ediv_of_nonneg (show 0 ≤ -a by omega), Int.neg_tdiv, Int.neg_neg]
/-- what floorDiv answers -/
theorem w_fdiv (hy : 0 < y.toInt) : (if x ^^^ y < wn 0 then if x / y * y = x then x / y else x / y - wn 1 else x / y) = wi (x.toInt / y.toInt) := by
  have h1 := wt_lo (x := x); have h2 := wt_hi (x := x)
  have h3 := wt_hi (x := y)
  have hd : (x / y).toInt = x.toInt.tdiv y.toInt := wt_div (by omega)
  have hw := wfl_toInt (x := x) hy
  rw [wfl_pos hy] at hw
  rw [w_tdiv _] at hd
  by_cases hx : x.toInt < 0
  · rw [if_neg (by omega)] at hd
    obtain ⟨Q, P, R, e1, e2, e3, e4, e5, e6, e7, e8⟩ := w_neg x.toInt hy
    rw [e1] at hd
    have hQ : 0 ≤ Q := by rw [← e1]; exact Int.ediv_nonneg (by omega) (by omega)
    have hQ2 : Q ≤ P := by
      rw [← e2]
      have : 1 * Q ≤ y.toInt * Q := Int.mul_le_mul_of_nonneg_right (by omega) hQ
      omega
    rw [if_pos (by rw [wx_sgn, wt_lt, wt_lt, w0_toInt, eq_true hx, eq_false (show ¬ y.toInt < 0 by omega)]; exact fun h9 => h9.mp trivial)]
    have hm : (x / y * y).toInt = -P := by
      rw [wt_mul (by rw [hd, e8]; omega) (by rw [hd, e8]; omega), hd]
      exact e8
    rw [← Int32.toInt_inj, hw]
    by_cases hz : R = 0
    · rw [if_pos (by rw [wt_eq, hm]; omega), hd, w_floor (q := -Q) hy (by omega) (by omega)]
    · rw [if_neg (by rw [wt_eq, hm]; omega), w_floor (q := -Q - 1) hy (by omega) (by omega), wt_sub (by rw [hd, w1_toInt]; omega) (by rw [hd, w1_toInt]; omega), hd, w1_toInt]
  · rw [if_pos (by omega)] at hd
    rw [if_neg (by rw [wx_sgn, wt_lt, wt_lt, w0_toInt, eq_false hx, eq_false (show ¬ y.toInt < 0 by omega)]; exact fun h9 => h9 rfl), ← Int32.toInt_inj, hd, hw]
/-- what the reference's down answers -/
theorem w_down (hy : 0 < y.toInt) (h8 : -1073741824 ≤ x.toInt) (h9 : y.toInt < 1073741824) : (if x < wn 0 then -((-x + y - wn 1) / y) else x / y) = wfl x y := by
  have hw := wfl_toInt (x := x) hy
  rw [← Int32.toInt_inj, hw]
  by_cases hx : x.toInt < 0
  · obtain ⟨Q, P, R, e1, e2, e3, e4, e5, e6, e7, e8⟩ := w_neg x.toInt hy
    have hQ : 0 ≤ Q := by rw [← e1]; exact Int.ediv_nonneg (by omega) (by omega)
    have hQ2 : Q ≤ P := by
      rw [← e2]
      have : 1 * Q ≤ y.toInt * Q := Int.mul_le_mul_of_nonneg_right (by omega) hQ
      omega
    have a1 : (-x).toInt = -x.toInt := wt_neg (by omega) (by omega)
    have a2 : (-x + y).toInt = -x.toInt + y.toInt := by rw [wt_add (by omega) (by omega), a1]
    have a3 : (-x + y - wn 1).toInt = -x.toInt + y.toInt - 1 := by rw [wt_sub (by rw [w1_toInt]; omega) (by rw [w1_toInt]; omega), a2, w1_toInt]
    have a4 : ((-x + y - wn 1) / y).toInt = (-x.toInt + y.toInt - 1) / y.toInt := by rw [wt_div (by omega), a3, Int.tdiv_eq_ediv_of_nonneg (by omega)]
    rw [if_pos (by rw [wt_lt, w0_toInt]; exact hx)]
    have k1 : y.toInt * (Q + 1) = P + y.toInt := by rw [Int.mul_add, e2, Int.mul_one]
    by_cases hz : R = 0
    · have a5 : (-x.toInt + y.toInt - 1) / y.toInt = Q := w_floor hy (by omega) (by omega)
      rw [wt_neg (by omega) (by omega), a4, a5, w_floor (q := -Q) hy (by omega) (by omega)]
    · have a5 : (-x.toInt + y.toInt - 1) / y.toInt = Q + 1 := w_floor hy (by omega) (by omega)
      rw [wt_neg (by omega) (by omega), a4, a5, w_floor (q := -Q - 1) hy (by omega) (by omega)]
      omega
  · rw [if_neg (by rw [wt_lt, w0_toInt]; exact hx), wt_div (by omega), Int.tdiv_eq_ediv_of_nonneg (by omega)]
end WFL
