/-! ===== what holds of the row of numbers ===== -/
def wrg_ (x : Int32) (a b : Int) : Prop := a ≤ x.toInt ∧ x.toInt ≤ b
/-- a body's numbers -/
def wIb (m : Nat → Int32) (b : Nat) : Prop := wrg_ (wof m b 0) (-999) 999 ∧ wrg_ (wof m b 1) 0 300 ∧ wrg_ (wof m b 2) 0 20 ∧ wrg_ (wof m b 3) 0 99 ∧ wrg_ (wof m b 4) 0 99 ∧ wrg_ (wof m b 7) (-9) 9 ∧ (b < 10 → wof m b 7 = wn 0)
/-- a tracing's -/
def wIt (m : Nat → Int32) (k : Nat) : Prop := wrg_ (wtr m k 0) 0 999 ∧ wrg_ (wtr m k 1) 0 1439 ∧ wrg_ (wtr m k 2) 0 2 ∧ wrg_ (wtr m k 3) (-999) 999 ∧ wrg_ (wtr m k 4) (-999) 999
def wIh (m : Nat → Int32) : Prop := wrg_ (m 0) 0 10 ∧ wrg_ (m 1) 0 10 ∧ wrg_ (m 2) 0 6 ∧ wrg_ (m 3) 0 3 ∧ wrg_ (m 6) 0 999 ∧ wrg_ (m 7) 0 1439 ∧ wrg_ (m 8) 0 40 ∧ wrg_ (m 11) 0 11 ∧ wrg_ (m 12) 1 50 ∧ wrg_ (m 13) (-99) 99 ∧ wrg_ (m 14) (-99) 99 ∧ wrg_ (m 15) 0 99
def wI (m : Nat → Int32) : Prop := wIh m ∧ (∀ b, b < 16 → wIb m b) ∧ (∀ b, b < 16 → wbd m (wn b) = true → 1 ≤ (wof m b 1).toInt) ∧ (∀ k : Nat, (k : Int) < (m 8).toInt → wIt m k) ∧ (∀ k, k < 3 → wrg_ (m (28 + 2 * k)) (-50) 50 ∧ wrg_ (m (28 + 2 * k + 1)) 0 50) ∧ (∀ k, k < 12 → wrg_ (m (16 + k)) (-9) 9)
def wtk (m : Nat → Int32) (d t : Int32) : Prop := 0 ≤ (t / wn 60 + m 11 * d).toInt
section INV
variable {m : Nat → Int32} {x y z p h dp d t T u v : Int32} {b k n : Nat}
theorem w_mulb {a b : Int} (A B : Nat) (ha : -(A : Int) ≤ a ∧ a ≤ A) (hb : -(B : Int) ≤ b ∧ b ≤ B) : -((A * B : Nat) : Int) ≤ a * b ∧ a * b ≤ ((A * B : Nat) : Int) := by
  have h1 : a.natAbs ≤ A := by omega
  have h2 : b.natAbs ≤ B := by omega
  have h3 : (a * b).natAbs ≤ A * B := by
    rw [Int.natAbs_mul]
    exact Nat.mul_le_mul h1 h2
  omega
theorem w_pred (h : -2147483648 < y.toInt) : (x ≤ y - wn 1) = (x < y) := by
  rw [wt_le, wt_lt, wt_sub (by rw [w1_toInt]; omega) (by rw [w1_toInt]; have := wt_hi (x := y); omega), w1_toInt]
  exact propext ⟨fun h => by omega, fun h => by omega⟩
theorem wI_b1 (hI : wI m) : (x ≤ m 1 - wn 1) = (x < m 1) := w_pred (by have := hI.1.2.1.1; omega)
theorem wn10_toInt : (wn 10).toInt = 10 := rfl
theorem wI_s (hI : wI m) : (wn 10 + m 2).toInt = 10 + (m 2).toInt := by
  have h1 := hI.1.2.2.1.1
  have h2 := hI.1.2.2.1.2
  rw [wt_add (by rw [wn10_toInt]; omega) (by rw [wn10_toInt]; omega), wn10_toInt]
theorem wI_b2 (hI : wI m) : (x ≤ wn 10 + m 2 - wn 1) = (x < wn 10 + m 2) := w_pred (by rw [wI_s hI]; have := hI.1.2.2.1.1; omega)
theorem wI_h3 (hI : wI m) : (x ≤ m 3 - wn 1) = (x < m 3) := w_pred (by have := hI.1.2.2.2.1.1; omega)
theorem wI_t8 (hI : wI m) : (x ≤ m 8 - wn 1) = (x < m 8) := w_pred (by have := hI.1.2.2.2.2.2.2.1.1; omega)
theorem wI_p0 (hI : wI m) (hb : b < 10) : wof m b 7 = wn 0 := (hI.2.1 b (by omega)).2.2.2.2.2.2 hb
theorem w_mul0 : wn 0 * x = wn 0 := Int32.zero_mul
theorem w_add0 : x + wn 0 = x := Int32.add_zero x
theorem w_div60 : (t / wn 60).toInt = t.toInt.tdiv 60 := wt_div (by decide)
theorem wtk_of (hI : wI m) (hd : wrg_ d 0 999) (ht : wrg_ t 0 1439) : wtk m d t := by
  obtain ⟨h1, h2⟩ := hI.1.2.2.2.2.2.2.2.1
  obtain ⟨h3, h4⟩ := hd
  obtain ⟨h5, h6⟩ := ht
  have e1 : (t / wn 60).toInt = t.toInt / 60 := by rw [w_div60, Int.tdiv_eq_ediv_of_nonneg h5]
  have e2 := w_mulb 11 999 (a := (m 11).toInt) (b := d.toInt) (by omega) (by omega)
  have e3 : 0 ≤ (m 11).toInt * d.toInt := Int.mul_nonneg h1 h3
  have e4 : (m 11 * d).toInt = (m 11).toInt * d.toInt := wt_mul (by omega) (by omega)
  unfold wtk
  rw [wt_add (by omega) (by omega)]
  omega
theorem w_rem12n (h : 0 ≤ x.toInt) : wrem x (wn 12) = wn (x.toInt % 12).toNat := by
  rw [← Int32.toInt_inj, w_rem12, if_pos h, wn_toInt (by omega)]
  omega
theorem w_bd (hI : wI m) (h : wbd m x = true) : ∃ b : Nat, b < 16 ∧ x = wn b := by
  have h1 := hI.1.2.1
  have h2 := hI.1.2.2.1
  have h3 := wI_s hI
  simp only [wbd, Bool.or_eq_true, Bool.and_eq_true, decide_eq_true_eq, wt_lt, wt_le, h3, w0_toInt, wn10_toInt] at h
  obtain ⟨k, e1, e2, -⟩ := wn_of (x := x) (by omega)
  exact ⟨k, by have := h1.2; have := h2.2; omega, e1⟩
/-- the numbers above are small -/
theorem wac_toInt (hp : wrg_ p (-50) 50) (hd : wrg_ dp 0 50) (hx : wrg_ x (-20000) 20000) (hy : wrg_ y 0 300) : (wac p dp x y).toInt = p.toInt * y.toInt - (x.toInt - p.toInt) * dp.toInt ∧ wrg_ (wac p dp x y) (-1073741824) 1073741823 := by
  obtain ⟨p1, p2⟩ := hp
  obtain ⟨d1, d2⟩ := hd
  obtain ⟨x1, x2⟩ := hx
  obtain ⟨y1, y2⟩ := hy
  have e1 := w_mulb 50 300 (a := p.toInt) (b := y.toInt) (by omega) (by omega)
  have e2 : (x - p).toInt = x.toInt - p.toInt := wt_sub (by omega) (by omega)
  have e3 := w_mulb 20050 50 (a := x.toInt - p.toInt) (b := dp.toInt) (by omega) (by omega)
  have e4 : ((x - p) * dp).toInt = (x.toInt - p.toInt) * dp.toInt := by rw [wt_mul (by rw [e2]; omega) (by rw [e2]; omega), e2]
  have e5 : (p * y).toInt = p.toInt * y.toInt := wt_mul (by omega) (by omega)
  have e6 : (wac p dp x y).toInt = p.toInt * y.toInt - (x.toInt - p.toInt) * dp.toInt := by
    unfold wac
    rw [wt_sub (by rw [e4, e5]; omega) (by rw [e4, e5]; omega), e4, e5]
  exact ⟨e6, by rw [wrg_, e6]; omega⟩
/-- where a body is -/
theorem wxo_r (hI : wI m) (hb : b < 16) (ht : wrg_ t 0 1439) : wrg_ (wxo m t b) (-20000) 20000 := by
  obtain ⟨⟨x1, x2⟩, -, -, -, -, ⟨p1, p2⟩, -⟩ := hI.2.1 b hb
  obtain ⟨t1, t2⟩ := ht
  have e1 := w_mulb 9 1439 (a := (wof m b 7).toInt) (b := t.toInt) (by omega) (by omega)
  have e2 : (wof m b 7 * t).toInt = (wof m b 7).toInt * t.toInt := wt_mul (by omega) (by omega)
  unfold wxo wrg_
  rw [wt_add (by omega) (by omega)]
  omega
theorem wtd_r (hI : wI m) : wrg_ (wtd m d t) (-9) 9 := hI.2.2.2.2.2 _ (by omega)
theorem whi_r (hI : wI m) (hb : b < 16) (hT : wrg_ T (-9) 9) : wrg_ (whi m T b) (-20000) 20000 := by
  obtain ⟨-, -, -, -, ⟨z1, z2⟩, -, -⟩ := hI.2.1 b hb
  obtain ⟨t1, t2⟩ := hT
  unfold whi wrg_
  split
  · rw [w_add0]; omega
  · rw [wt_add (by omega) (by omega)]; omega
end INV
