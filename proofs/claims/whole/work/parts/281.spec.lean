/-! ===== what is asked of the harbour, over one row of numbers m ===== -/
def wxo (m : Nat → Int32) (t : Int32) (b : Nat) : Int32 := wof m b 0 + wof m b 7 * t
def wlo (m : Nat → Int32) (T : Int32) (b : Nat) : Int32 := wof m b 3 + (if b < 10 then wn 0 else T)
def whi (m : Nat → Int32) (T : Int32) (b : Nat) : Int32 := wof m b 4 + (if b < 10 then wn 0 else T)
def wbd (m : Nat → Int32) (x : Int32) : Bool := (decide (wn 0 ≤ x) && decide (x < m 1)) || (decide (wn 10 ≤ x) && decide (x < wn 10 + m 2))
def wth (m : Nat → Int32) (d t : Int32) (b : Nat) : Bool := decide (wof m b 5 ≤ (if b < 10 then d else t)) && decide ((if b < 10 then d else t) ≤ wof m b 6)
def wtd (m : Nat → Int32) (d t : Int32) : Int32 := m (16 + ((t / wn 60 + m 11 * d).toInt % 12).toNat)
def wac (p dp x y : Int32) : Int32 := p * y - (x - p) * dp
def wlt (m : Nat → Int32) (t : Int32) : Bool := decide (wn 6 ≤ t / wn 60) && decide (t / wn 60 ≤ wn 17) && decide (m 9 >>> (t / wn 60 &&& 31) &&& wn 1 = wn 0)
def won (m : Nat → Int32) (p h dp x y z : Int32) : Bool := decide (m 13 * y ≤ wac p dp x y) && decide (wac p dp x y ≤ m 14 * y) && decide (wn 0 ≤ wac h dp z y) && decide (wac h dp z y ≤ m 15 * y)
def whd (m : Nat → Int32) (t T p h : Int32) (b : Nat) (x y z : Int32) : Bool := decide (wof m b 1 < y) && decide ((wxo m t b - wof m b 2) * y ≤ p * y + (x - p) * wof m b 1) && decide (p * y + (x - p) * wof m b 1 ≤ (wxo m t b + wof m b 2) * y) && decide (wlo m T b * y ≤ h * y + (z - h) * wof m b 1) && decide (h * y + (z - h) * wof m b 1 ≤ whi m T b * y)
def wfh (m : Nat → Int32) (d t T p h x y z : Int32) : Nat → Nat → Int32
  | 0, _ => wi (-1)
  | n + 1, b => if wbd m (wn b) && wth m d t b && whd m t T p h b x y z then wn b else wfh m d t T p h x y z n (b + 1)
def wsp (m : Nat → Int32) (d t T p h dp x y z : Int32) : Bool := wlt m t && decide (y ≤ m 10) && won m p h dp x y z && decide (wfh m d t T p h x y z 16 0 = wi (-1))
def wse (m : Nat → Int32) (d t T p h dp : Int32) (b : Nat) : Bool := wbd m (wn b) && wth m d t b && wsp m d t T p h dp (wxo m t b) (wof m b 1) (whi m T b)
/-- seen by some hole, from the k-th on -/
def wss (m : Nat → Int32) (d t T x y z : Int32) : Nat → Nat → Bool
  | 0, _ => false
  | n + 1, k => wsp m d t T (m (28 + 2 * k)) (m (28 + 2 * k + 1)) (m 12) x y z || wss m d t T x y z n (k + 1)
def wit (m : Nat → Int32) (t T p h dp : Int32) (b : Nat) (u v : Int32) : Bool := decide (wfl (wac p dp (wxo m t b) (wof m b 1)) (wof m b 1) = u) && decide (wfl (wac h dp (whi m T b) (wof m b 1)) (wof m b 1) = v)
/-! the class' looks -/
def wgo (D : wD) (d t : Int32) : wD := wst (wst (wst D 34 2 d) 34 3 t) 34 4 (wtd (wm D) d t)
def wlk (D : wD) (p h dp : Int32) : wD := wst (wst (wst D 34 5 p) 34 6 h) 34 7 dp
def wlh (D : wD) (k : Nat) : wD := wlk D (wm D (28 + 2 * k)) (wm D (28 + 2 * k + 1)) (wm D 12)
def wsD (x y z : Int32) : Nat → Nat → wD → wD
  | 0, _, D => D
  | n + 1, k, D => if wsp (wm D) (wg D 34 2) (wg D 34 3) (wg D 34 4) (wm D (28 + 2 * k)) (wm D (28 + 2 * k + 1)) (wm D 12) x y z then wlh D k else wsD x y z n (k + 1) (wlh D k)
section SPC
variable {D : wD} {a k j n : Nat} {p h dp d t x y z : Int32}
theorem wm_wlk : wm (wlk D p h dp) = wm D := by unfold wlk; rw [wm_st (Or.inl (by decide)), wm_st (Or.inl (by decide)), wm_st (Or.inl (by decide))]
theorem wm_wgo : wm (wgo D d t) = wm D := by unfold wgo; rw [wm_st (Or.inl (by decide)), wm_st (Or.inl (by decide)), wm_st (Or.inl (by decide))]
theorem wm_wlh : wm (wlh D k) = wm D := wm_wlk
theorem wg_wlk (ha : a ≠ 34 ∨ j < 5 ∨ 7 < j) : wg (wlk D p h dp) a j = wg D a j := by
  unfold wlk
  rw [wg_st, if_neg (by omega), wg_st, if_neg (by omega), wg_st, if_neg (by omega)]
theorem wg_wlk5 : wg (wlk D p h dp) 34 5 = p := rfl
theorem wg_wlk6 : wg (wlk D p h dp) 34 6 = h := rfl
theorem wg_wlk7 : wg (wlk D p h dp) 34 7 = dp := rfl
theorem wg_wlh (ha : a ≠ 34 ∨ j < 5 ∨ 7 < j) : wg (wlh D k) a j = wg D a j := wg_wlk ha
theorem wg_wlh5 : wg (wlh D k) 34 5 = wm D (28 + 2 * k) := rfl
theorem wg_wlh6 : wg (wlh D k) 34 6 = wm D (28 + 2 * k + 1) := rfl
theorem wg_wlh7 : wg (wlh D k) 34 7 = wm D 12 := rfl
theorem wg_wgo (ha : a ≠ 34 ∨ j < 2 ∨ 4 < j) : wg (wgo D d t) a j = wg D a j := by
  unfold wgo
  rw [wg_st, if_neg (by omega), wg_st, if_neg (by omega), wg_st, if_neg (by omega)]
theorem wg_wgo2 : wg (wgo D d t) 34 2 = d := rfl
theorem wg_wgo3 : wg (wgo D d t) 34 3 = t := rfl
theorem wg_wgo4 : wg (wgo D d t) 34 4 = wtd (wm D) d t := rfl
theorem wm_wsD : ∀ (n k : Nat) (D : wD), wm (wsD x y z n k D) = wm D
  | 0, _, _ => rfl
  | n + 1, k, D => by
    rw [wsD]
    split
    · exact wm_wlh
    · rw [wm_wsD n, wm_wlh]
theorem wg_wsD (ha : a ≠ 34 ∨ j < 5 ∨ 7 < j) : ∀ (n k : Nat) (D : wD), wg (wsD x y z n k D) a j = wg D a j
  | 0, _, _ => rfl
  | n + 1, k, D => by
    rw [wsD]
    split
    · exact wg_wlh ha
    · rw [wg_wsD ha n, wg_wlh ha]
theorem w_rem (hy : 0 < y.toInt) : (wrem x y).toInt = if 0 ≤ x.toInt then x.toInt % y.toInt else -((-x.toInt) % y.toInt) := by
  have h1 := wt_lo (x := x); have h2 := wt_hi (x := x)
  have hd : (x / y).toInt = x.toInt.tdiv y.toInt := wt_div (by omega)
  rw [w_tdiv] at hd
  by_cases hx : 0 ≤ x.toInt
  · rw [if_pos hx] at hd ⊢
    have e1 := Int.mul_ediv_add_emod x.toInt y.toInt
    have e2 := Int.emod_nonneg x.toInt (show y.toInt ≠ 0 by omega)
    have hq : 0 ≤ y.toInt * (x.toInt / y.toInt) := Int.mul_nonneg (by omega) (Int.ediv_nonneg hx (by omega))
    have hm : (x / y * y).toInt = y.toInt * (x.toInt / y.toInt) := by
      rw [wt_mul (by rw [hd, Int.mul_comm]; omega) (by rw [hd, Int.mul_comm]; omega), hd, Int.mul_comm]
    unfold wrem
    rw [wt_sub (by rw [hm]; omega) (by rw [hm]; omega), hm]
    omega
  · rw [if_neg hx] at hd ⊢
    obtain ⟨Q, P, R, e1, e2, e3, e4, e5, e6, e7, e8⟩ := w_neg x.toInt hy
    have hQ : 0 ≤ Q := by rw [← e1]; exact Int.ediv_nonneg (by omega) (by omega)
    have hP : 0 ≤ P := by rw [← e2]; exact Int.mul_nonneg (by omega) hQ
    have hR : (-x.toInt) % y.toInt = R := by
      have := Int.mul_ediv_add_emod (-x.toInt) y.toInt
      rw [e1, e2] at this
      omega
    have hm : (x / y * y).toInt = -P := by
      rw [wt_mul (by rw [hd, e1, e8]; omega) (by rw [hd, e1, e8]; omega), hd, e1]
      exact e8
    unfold wrem
    rw [wt_sub (by rw [hm]; omega) (by rw [hm]; omega), hm, hR]
    omega
theorem w_rem12 : (wrem x (wn 12)).toInt = if 0 ≤ x.toInt then x.toInt % 12 else -((-x.toInt) % 12) := w_rem (y := wn 12) (by decide)
theorem w_fmod : (if x ^^^ wn 12 < wn 0 then if wrem x (wn 12) = wn 0 then wrem x (wn 12) else wrem x (wn 12) + wn 12 else wrem x (wn 12)) = wn (x.toInt % 12).toNat := by
  have h := w_rem12 (x := x)
  have hk : (wn (x.toInt % 12).toNat).toInt = x.toInt % 12 := by rw [wn_toInt (by omega)]; omega
  have h12 : (wn 12).toInt = 12 := rfl
  have hs : (x ^^^ wn 12 < wn 0) ↔ x.toInt < 0 := by
    rw [wx_sgn, wt_lt, wt_lt, w0_toInt, h12, eq_false (show ¬ (12 : Int) < 0 by decide)]
    simp
  rw [← Int32.toInt_inj, hk]
  by_cases hx : 0 ≤ x.toInt
  · rw [if_pos hx] at h
    rw [if_neg (fun h9 => by have := hs.mp h9; omega), h]
  · rw [if_neg hx] at h
    rw [if_pos (hs.mpr (by omega))]
    by_cases hz : (wrem x (wn 12)).toInt = 0
    · rw [if_pos (by rw [wt_eq, w0_toInt]; exact hz)]
      omega
    · rw [if_neg (by rw [wt_eq, w0_toInt]; exact hz), wt_add (by rw [h12]; omega) (by rw [h12]; omega), h12]
      omega
end SPC
