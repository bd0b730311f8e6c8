/-! ===== the whole X of a U ===== -/
def wle (p dp u y : Int32) : Int32 := p + wfl ((p - u - wn 1) * y) dp + wn 1
def wmo (p dp u y : Int32) : Int32 := p + wfl ((p - u) * y) dp
section END
variable {p dp u y x : Int32} {Z : Int}
theorem w_ends (hp : wrg_ p (-50) 50) (hd : wrg_ dp 1 50) (hy : wrg_ y 1 300) (hu : wrg_ u (-999) 999) (hx : wrg_ x (-20000) 20000) : (wfl (wac p dp x y) y = u) = ((wle p dp u y).toInt ≤ x.toInt ∧ x.toInt ≤ (wmo p dp u y).toInt) ∧ wrg_ (wle p dp u y) (-400000) 400000 ∧ wrg_ (wmo p dp u y) (-400000) 400000 := by
  have ha := (wac_toInt (x := x) hp ⟨by have := hd.1; omega, hd.2⟩ hx ⟨by have := hy.1; omega, hy.2⟩).1
  obtain ⟨p1, p2⟩ := hp
  obtain ⟨d1, d2⟩ := hd
  obtain ⟨y1, y2⟩ := hy
  obtain ⟨u1, u2⟩ := hu
  obtain ⟨x1, x2⟩ := hx
  have hy0 : 0 < y.toInt := by omega
  have hd0 : 0 < dp.toInt := by omega
  have e1 : (p - u).toInt = p.toInt - u.toInt := wt_sub (by omega) (by omega)
  have e2 : (p - u - wn 1).toInt = p.toInt - u.toInt - 1 := by rw [wt_sub (by rw [w1_toInt]; omega) (by rw [w1_toInt]; omega), e1, w1_toInt]
  have b1 := w_mulb 1050 300 (a := p.toInt - u.toInt) (b := y.toInt) (by omega) (by omega)
  have b2 := w_mulb 1051 300 (a := p.toInt - u.toInt - 1) (b := y.toInt) (by omega) (by omega)
  have e3 : ((p - u) * y).toInt = (p.toInt - u.toInt) * y.toInt := by rw [wt_mul (by rw [e1]; omega) (by rw [e1]; omega), e1]
  have e4 : ((p - u - wn 1) * y).toInt = (p.toInt - u.toInt - 1) * y.toInt := by rw [wt_mul (by rw [e2]; omega) (by rw [e2]; omega), e2]
  have e5 : (p.toInt - u.toInt - 1) * y.toInt = (p.toInt - u.toInt) * y.toInt - y.toInt := by rw [Int.sub_mul (p.toInt - u.toInt), Int.one_mul]
  have f1 : (wfl ((p - u) * y) dp).toInt = (p.toInt - u.toInt) * y.toInt / dp.toInt := by rw [wfl_toInt hd0, e3]
  have f2 : (wfl ((p - u - wn 1) * y) dp).toInt = ((p.toInt - u.toInt) * y.toInt - y.toInt) / dp.toInt := by rw [wfl_toInt hd0, e4, e5]
  have r1 : -315300 ≤ (p.toInt - u.toInt) * y.toInt / dp.toInt := Int.le_ediv_of_mul_le hd0 (by omega)
  have r2 : (p.toInt - u.toInt) * y.toInt / dp.toInt < 315301 := Int.ediv_lt_of_lt_mul hd0 (by omega)
  have r3 : -315700 ≤ ((p.toInt - u.toInt) * y.toInt - y.toInt) / dp.toInt := Int.le_ediv_of_mul_le hd0 (by omega)
  have r4 : ((p.toInt - u.toInt) * y.toInt - y.toInt) / dp.toInt < 315301 := Int.ediv_lt_of_lt_mul hd0 (by omega)
  have g1 : (wmo p dp u y).toInt = p.toInt + (p.toInt - u.toInt) * y.toInt / dp.toInt := by
    unfold wmo
    rw [wt_add (by rw [f1]; omega) (by rw [f1]; omega), f1]
  have g2 : (wle p dp u y).toInt = p.toInt + ((p.toInt - u.toInt) * y.toInt - y.toInt) / dp.toInt + 1 := by
    have g3 : (p + wfl ((p - u - wn 1) * y) dp).toInt = p.toInt + ((p.toInt - u.toInt) * y.toInt - y.toInt) / dp.toInt := by rw [wt_add (by rw [f2]; omega) (by rw [f2]; omega), f2]
    unfold wle
    rw [wt_add (by rw [g3, w1_toInt]; omega) (by rw [g3, w1_toInt]; omega), g3, w1_toInt]
  refine ⟨?_, ⟨by omega, by omega⟩, ⟨by omega, by omega⟩⟩
  rw [g1, g2, ← Int32.toInt_inj, wfl_toInt hy0, ha]
  have h1 := Int.le_ediv_iff_mul_le (a := u.toInt) (b := p.toInt * y.toInt - (x.toInt - p.toInt) * dp.toInt) hy0
  have h2 := Int.ediv_lt_iff_lt_mul (a := p.toInt * y.toInt - (x.toInt - p.toInt) * dp.toInt) (b := u.toInt + 1) hy0
  have h3 := Int.le_ediv_iff_mul_le (a := x.toInt - p.toInt) (b := (p.toInt - u.toInt) * y.toInt) hd0
  have h4 := Int.ediv_lt_iff_lt_mul (a := (p.toInt - u.toInt) * y.toInt - y.toInt) (b := x.toInt - p.toInt) hd0
  have k1 : (p.toInt - u.toInt) * y.toInt = p.toInt * y.toInt - u.toInt * y.toInt := Int.sub_mul _ _ _
  have k2 : (u.toInt + 1) * y.toInt = u.toInt * y.toInt + y.toInt := by rw [Int.add_mul, Int.one_mul]
  apply propext
  constructor
  · intro h
    have a1 := h1.mp (by omega)
    have a2 := h2.mp (by omega)
    have a3 := h3.mpr (by omega)
    have a4 := h4.mpr (by omega)
    omega
  · rintro ⟨a1, a2⟩
    have b3 := h3.mp (by omega)
    have b4 := h4.mp (by omega)
    have c1 := h1.mpr (by omega)
    have c2 := h2.mpr (by omega)
    omega
end END
