/-! ===== texts: a line keeps the row's bounds ===== -/
def wBT (m : Nat → Int32) (b : Nat) (x y w l h f t : Int32) : Nat → Int32 := upd (upd (upd (upd (upd (upd (upd (upd m (34 + 8 * b + 0) x) (34 + 8 * b + 1) y) (34 + 8 * b + 2) w) (34 + 8 * b + 3) l) (34 + 8 * b + 4) h) (34 + 8 * b + 5) f) (34 + 8 * b + 6) t) 1 (wn (b + 1))
def wBS (m : Nat → Int32) (b : Nat) (x y w l h p f t : Int32) : Nat → Int32 := upd (upd (upd (upd (upd (upd (upd (upd (upd m (34 + 8 * (10 + b) + 0) x) (34 + 8 * (10 + b) + 1) y) (34 + 8 * (10 + b) + 2) w) (34 + 8 * (10 + b) + 3) l) (34 + 8 * (10 + b) + 4) h) (34 + 8 * (10 + b) + 7) p) (34 + 8 * (10 + b) + 5) f) (34 + 8 * (10 + b) + 6) t) 2 (wn (b + 1))
def wBH (m : Nat → Int32) (b : Nat) (x z : Int32) : Nat → Int32 := upd (upd (upd m (28 + 2 * b) x) (28 + 2 * b + 1) z) 3 (wn (b + 1))
section WIL
variable {a b k n j : Nat} {x y w l h p f t z v : Int32} {m T : Nat → Int32} {s : wP}
theorem wBT_ot (hj : j ≠ 1) (hj2 : j < 34 + 8 * b ∨ 34 + 8 * b + 7 ≤ j) : wBT m b x y w l h f t j = m j := by
  unfold wBT
  rw [upd_ne hj, upd_ne (by omega), upd_ne (by omega), upd_ne (by omega), upd_ne (by omega), upd_ne (by omega), upd_ne (by omega), upd_ne (by omega)]
theorem wBS_ot (hj : j ≠ 2) (hj2 : j < 34 + 8 * (10 + b) ∨ 34 + 8 * (10 + b) + 8 ≤ j) : wBS m b x y w l h p f t j = m j := by
  unfold wBS
  rw [upd_ne hj, upd_ne (by omega), upd_ne (by omega), upd_ne (by omega), upd_ne (by omega), upd_ne (by omega), upd_ne (by omega), upd_ne (by omega), upd_ne (by omega)]
theorem wBH_ot (hj : j ≠ 3) (hj2 : j < 28 + 2 * b ∨ 28 + 2 * b + 2 ≤ j) : wBH m b x z j = m j := by
  unfold wBH
  rw [upd_ne hj, upd_ne (by omega), upd_ne (by omega)]
theorem wBT_v : wof (wBT m b x y w l h f t) b 0 = x ∧ wof (wBT m b x y w l h f t) b 1 = y ∧ wof (wBT m b x y w l h f t) b 2 = w ∧ wof (wBT m b x y w l h f t) b 3 = l ∧ wof (wBT m b x y w l h f t) b 4 = h ∧ wof (wBT m b x y w l h f t) b 5 = f ∧ wof (wBT m b x y w l h f t) b 6 = t ∧ wof (wBT m b x y w l h f t) b 7 = wof m b 7 := by
  refine ⟨?_, ?_, ?_, ?_, ?_, ?_, ?_, ?_⟩
  · unfold wof wBT; rw [upd_ne (by omega), upd_ne (by omega), upd_ne (by omega), upd_ne (by omega), upd_ne (by omega), upd_ne (by omega), upd_ne (by omega), upd_eq]
  · unfold wof wBT; rw [upd_ne (by omega), upd_ne (by omega), upd_ne (by omega), upd_ne (by omega), upd_ne (by omega), upd_ne (by omega), upd_eq]
  · unfold wof wBT; rw [upd_ne (by omega), upd_ne (by omega), upd_ne (by omega), upd_ne (by omega), upd_ne (by omega), upd_eq]
  · unfold wof wBT; rw [upd_ne (by omega), upd_ne (by omega), upd_ne (by omega), upd_ne (by omega), upd_eq]
  · unfold wof wBT; rw [upd_ne (by omega), upd_ne (by omega), upd_ne (by omega), upd_eq]
  · unfold wof wBT; rw [upd_ne (by omega), upd_ne (by omega), upd_eq]
  · unfold wof wBT; rw [upd_ne (by omega), upd_eq]
  · unfold wof; exact wBT_ot (by omega) (by omega)
theorem wBS_v : wof (wBS m b x y w l h p f t) (10 + b) 0 = x ∧ wof (wBS m b x y w l h p f t) (10 + b) 1 = y ∧ wof (wBS m b x y w l h p f t) (10 + b) 2 = w ∧ wof (wBS m b x y w l h p f t) (10 + b) 3 = l ∧ wof (wBS m b x y w l h p f t) (10 + b) 4 = h ∧ wof (wBS m b x y w l h p f t) (10 + b) 7 = p := by
  refine ⟨?_, ?_, ?_, ?_, ?_, ?_⟩
  · unfold wof wBS; rw [upd_ne (by omega), upd_ne (by omega), upd_ne (by omega), upd_ne (by omega), upd_ne (by omega), upd_ne (by omega), upd_ne (by omega), upd_ne (by omega), upd_eq]
  · unfold wof wBS; rw [upd_ne (by omega), upd_ne (by omega), upd_ne (by omega), upd_ne (by omega), upd_ne (by omega), upd_ne (by omega), upd_ne (by omega), upd_eq]
  · unfold wof wBS; rw [upd_ne (by omega), upd_ne (by omega), upd_ne (by omega), upd_ne (by omega), upd_ne (by omega), upd_ne (by omega), upd_eq]
  · unfold wof wBS; rw [upd_ne (by omega), upd_ne (by omega), upd_ne (by omega), upd_ne (by omega), upd_ne (by omega), upd_eq]
  · unfold wof wBS; rw [upd_ne (by omega), upd_ne (by omega), upd_ne (by omega), upd_ne (by omega), upd_eq]
  · unfold wof wBS; rw [upd_ne (by omega), upd_ne (by omega), upd_ne (by omega), upd_eq]
theorem wbd_n (hb : b < 16) : (wbd m (wn b) = true) = ((b : Int) < (m 1).toInt ∨ (10 ≤ b ∧ wn b < wn 10 + m 2)) := by
  unfold wbd
  simp only [Bool.or_eq_true, Bool.and_eq_true, decide_eq_true_eq, wt_lt (x := wn b) (y := m 1), wn_toInt (show b < 2147483648 by omega)]
  rw [wn_le (by omega) (by omega), wn_le (by omega) (by omega)]
  simp only [Nat.zero_le, true_and]
/-- the numbers of a row that a line doesn't touch -/
theorem wI_th (hI : wI m) (hb : m 1 = wn b) (hb10 : b < 10) (h0 : wrg_ x (-99) 99) (h1 : wrg_ y 1 300) (h2 : wrg_ w 0 20) (h3 : wrg_ l 0 99) (h4 : wrg_ h 0 99) : wI (wBT m b x y w l h f t) := by
  obtain ⟨⟨g0, g1, g2, g3, g6, g7, g8, g11, g12, g13, g14, g15⟩, hbd, hy, ht, hh, htd⟩ := hI
  obtain ⟨v0, v1, v2, v3, v4, v5, v6, v7⟩ := wBT_v (m := m) (b := b) (x := x) (y := y) (w := w) (l := l) (h := h) (f := f) (t := t)
  have e1 : wBT m b x y w l h f t 1 = wn (b + 1) := upd_eq
  have lo : ∀ j, j < 34 → j ≠ 1 → wBT m b x y w l h f t j = m j := fun j hj hj1 => wBT_ot hj1 (by omega)
  have hof : ∀ b' k, b' < 16 → b' ≠ b → k < 8 → wof (wBT m b x y w l h f t) b' k = wof m b' k := fun b' k q1 q2 q3 => by unfold wof; exact wBT_ot (by omega) (by omega)
  have htr : ∀ k j, wtr (wBT m b x y w l h f t) k j = wtr m k j := fun k j => by unfold wtr; exact wBT_ot (by omega) (by omega)
  refine ⟨⟨by rw [lo 0 (by decide) (by decide)]; exact g0, by rw [e1, wrg_, wn_toInt (by omega)]; omega, by rw [lo 2 (by decide) (by decide)]; exact g2, by rw [lo 3 (by decide) (by decide)]; exact g3, by rw [lo 6 (by decide) (by decide)]; exact g6, by rw [lo 7 (by decide) (by decide)]; exact g7, by rw [lo 8 (by decide) (by decide)]; exact g8, by rw [lo 11 (by decide) (by decide)]; exact g11, by rw [lo 12 (by decide) (by decide)]; exact g12, by rw [lo 13 (by decide) (by decide)]; exact g13, by rw [lo 14 (by decide) (by decide)]; exact g14, by rw [lo 15 (by decide) (by decide)]; exact g15⟩, fun b' hb' => ?_, fun b' hb' hbd' => ?_, fun k hk => ?_, fun k hk => ?_, fun k hk => ?_⟩
  · by_cases hbb : b' = b
    · subst hbb
      unfold wIb
      rw [v0, v1, v2, v3, v4, v7]
      have := hbd b' hb'
      exact ⟨⟨by have := h0.1; omega, by have := h0.2; omega⟩, ⟨by have := h1.1; omega, h1.2⟩, h2, h3, h4, this.2.2.2.2.2.1, this.2.2.2.2.2.2⟩
    · unfold wIb
      rw [hof b' 0 hb' hbb (by decide), hof b' 1 hb' hbb (by decide), hof b' 2 hb' hbb (by decide), hof b' 3 hb' hbb (by decide), hof b' 4 hb' hbb (by decide), hof b' 7 hb' hbb (by decide)]
      exact hbd b' hb'
  · by_cases hbb : b' = b
    · subst hbb
      rw [v1]
      exact h1.1
    · rw [hof b' 1 hb' hbb (by decide)]
      rw [wbd_n hb', e1, lo 2 (by decide) (by decide), wn_toInt (by omega)] at hbd'
      refine hy b' hb' ?_
      rw [wbd_n hb', hb, wn_toInt (by omega)]
      rcases hbd' with q | q
      · left; omega
      · exact Or.inr q
  · unfold wIt
    rw [htr, htr, htr, htr, htr]
    rw [lo 8 (by decide) (by decide)] at hk
    exact ht k hk
  · rw [lo _ (by omega) (by omega), lo _ (by omega) (by omega)]
    exact hh k hk
  · rw [lo _ (by omega) (by omega)]
    exact htd k hk
theorem wI_sh (hI : wI m) (hb : m 2 = wn b) (hb10 : b < 6) (h0 : wrg_ x (-999) 999) (h1 : wrg_ y 1 300) (h2 : wrg_ w 0 20) (h3 : wrg_ l 0 99) (h4 : wrg_ h 0 99) (h7 : wrg_ p (-9) 9) : wI (wBS m b x y w l h p f t) := by
  obtain ⟨⟨g0, g1, g2, g3, g6, g7, g8, g11, g12, g13, g14, g15⟩, hbd, hy, ht, hh, htd⟩ := hI
  obtain ⟨v0, v1, v2, v3, v4, v7⟩ := wBS_v (m := m) (b := b) (x := x) (y := y) (w := w) (l := l) (h := h) (p := p) (f := f) (t := t)
  have e1 : wBS m b x y w l h p f t 2 = wn (b + 1) := upd_eq
  have lo : ∀ j, j < 34 → j ≠ 2 → wBS m b x y w l h p f t j = m j := fun j hj hj1 => wBS_ot hj1 (by omega)
  have hof : ∀ b' k, b' < 16 → b' ≠ 10 + b → k < 8 → wof (wBS m b x y w l h p f t) b' k = wof m b' k := fun b' k q1 q2 q3 => by unfold wof; exact wBS_ot (by omega) (by omega)
  have htr : ∀ k j, wtr (wBS m b x y w l h p f t) k j = wtr m k j := fun k j => by unfold wtr; exact wBS_ot (by omega) (by omega)
  refine ⟨⟨by rw [lo 0 (by decide) (by decide)]; exact g0, by rw [lo 1 (by decide) (by decide)]; exact g1, by rw [e1, wrg_, wn_toInt (by omega)]; omega, by rw [lo 3 (by decide) (by decide)]; exact g3, by rw [lo 6 (by decide) (by decide)]; exact g6, by rw [lo 7 (by decide) (by decide)]; exact g7, by rw [lo 8 (by decide) (by decide)]; exact g8, by rw [lo 11 (by decide) (by decide)]; exact g11, by rw [lo 12 (by decide) (by decide)]; exact g12, by rw [lo 13 (by decide) (by decide)]; exact g13, by rw [lo 14 (by decide) (by decide)]; exact g14, by rw [lo 15 (by decide) (by decide)]; exact g15⟩, fun b' hb' => ?_, fun b' hb' hbd' => ?_, fun k hk => ?_, fun k hk => ?_, fun k hk => ?_⟩
  · by_cases hbb : b' = 10 + b
    · subst hbb
      unfold wIb
      rw [v0, v1, v2, v3, v4, v7]
      exact ⟨h0, ⟨by have := h1.1; omega, h1.2⟩, h2, h3, h4, h7, fun q => by omega⟩
    · unfold wIb
      rw [hof b' 0 hb' hbb (by decide), hof b' 1 hb' hbb (by decide), hof b' 2 hb' hbb (by decide), hof b' 3 hb' hbb (by decide), hof b' 4 hb' hbb (by decide), hof b' 7 hb' hbb (by decide)]
      exact hbd b' hb'
  · by_cases hbb : b' = 10 + b
    · subst hbb
      rw [v1]
      exact h1.1
    · rw [hof b' 1 hb' hbb (by decide)]
      rw [wbd_n hb', e1, lo 1 (by decide) (by decide), wn_add, wn_lt (by omega) (by omega)] at hbd'
      refine hy b' hb' ?_
      rw [wbd_n hb', hb, wn_add, wn_lt (by omega) (by omega)]
      rcases hbd' with q | q
      · exact Or.inl q
      · right; omega
  · unfold wIt
    rw [htr, htr, htr, htr, htr]
    rw [lo 8 (by decide) (by decide)] at hk
    exact ht k hk
  · rw [lo _ (by omega) (by omega), lo _ (by omega) (by omega)]
    exact hh k hk
  · rw [lo _ (by omega) (by omega)]
    exact htd k hk
theorem wI_ho (hI : wI m) (hb : m 3 = wn b) (hb10 : b < 3) (h0 : wrg_ x (-50) 50) (h1 : wrg_ z 1 50) : wI (wBH m b x z) := by
  obtain ⟨⟨g0, g1, g2, g3, g6, g7, g8, g11, g12, g13, g14, g15⟩, hbd, hy, ht, hh, htd⟩ := hI
  have e1 : wBH m b x z 3 = wn (b + 1) := upd_eq
  have lo : ∀ j, j < 28 ∨ 34 ≤ j → j ≠ 3 → wBH m b x z j = m j := fun j hj hj1 => wBH_ot hj1 (by omega)
  have hof : ∀ b' k, wof (wBH m b x z) b' k = wof m b' k := fun b' k => by unfold wof; exact wBH_ot (by omega) (by omega)
  have htr : ∀ k j, wtr (wBH m b x z) k j = wtr m k j := fun k j => by unfold wtr; exact wBH_ot (by omega) (by omega)
  refine ⟨⟨by rw [lo 0 (by decide) (by decide)]; exact g0, by rw [lo 1 (by decide) (by decide)]; exact g1, by rw [lo 2 (by decide) (by decide)]; exact g2, by rw [e1, wrg_, wn_toInt (by omega)]; omega, by rw [lo 6 (by decide) (by decide)]; exact g6, by rw [lo 7 (by decide) (by decide)]; exact g7, by rw [lo 8 (by decide) (by decide)]; exact g8, by rw [lo 11 (by decide) (by decide)]; exact g11, by rw [lo 12 (by decide) (by decide)]; exact g12, by rw [lo 13 (by decide) (by decide)]; exact g13, by rw [lo 14 (by decide) (by decide)]; exact g14, by rw [lo 15 (by decide) (by decide)]; exact g15⟩, fun b' hb' => ?_, fun b' hb' hbd' => ?_, fun k hk => ?_, fun k hk => ?_, fun k hk => ?_⟩
  · unfold wIb
    rw [hof, hof, hof, hof, hof, hof]
    exact hbd b' hb'
  · rw [hof]
    unfold wbd at hbd'
    rw [lo 1 (by decide) (by decide), lo 2 (by decide) (by decide)] at hbd'
    exact hy b' hb' hbd'
  · unfold wIt
    rw [htr, htr, htr, htr, htr]
    rw [lo 8 (by decide) (by decide)] at hk
    exact ht k hk
  · by_cases hkb : k = b
    · subst hkb
      have q1 : wBH m k x z (28 + 2 * k) = x := by unfold wBH; rw [upd_ne (by omega), upd_ne (by omega), upd_eq]
      have q2 : wBH m k x z (28 + 2 * k + 1) = z := by unfold wBH; rw [upd_ne (by omega), upd_eq]
      rw [q1, q2]
      exact ⟨h0, ⟨by have := h1.1; omega, h1.2⟩⟩
    · rw [wBH_ot (by omega) (by omega), wBH_ot (by omega) (by omega)]
      exact hh k hk
  · rw [lo _ (by omega) (by omega)]
    exact htd k hk
/-- a number below 34 that is none of the counts -/
theorem wI_lo (hI : wI m) (hj : j = 0 ∧ wrg_ v 0 10 ∨ j = 9 ∨ j = 10 ∨ (j = 11 ∧ wrg_ v 0 11) ∨ (j = 12 ∧ wrg_ v 1 50) ∨ ((j = 13 ∨ j = 14) ∧ wrg_ v (-99) 99) ∨ (j = 15 ∧ wrg_ v 0 99) ∨ (16 ≤ j ∧ j < 28 ∧ wrg_ v (-9) 9)) : wI (upd m j v) := by
  obtain ⟨⟨g0, g1, g2, g3, g6, g7, g8, g11, g12, g13, g14, g15⟩, hbd, hy, ht, hh, htd⟩ := hI
  have hof : ∀ b' k, wof (upd m j v) b' k = wof m b' k := fun b' k => by unfold wof; exact upd_ne (by omega)
  have htr : ∀ k j', wtr (upd m j v) k j' = wtr m k j' := fun k j' => by unfold wtr; exact upd_ne (by omega)
  have lo : ∀ j', j' ≠ j → upd m j v j' = m j' := fun j' h => upd_ne h
  refine ⟨⟨?_, by rw [lo 1 (by omega)]; exact g1, by rw [lo 2 (by omega)]; exact g2, by rw [lo 3 (by omega)]; exact g3, by rw [lo 6 (by omega)]; exact g6, by rw [lo 7 (by omega)]; exact g7, by rw [lo 8 (by omega)]; exact g8, ?_, ?_, ?_, ?_, ?_⟩, fun b' hb' => ?_, fun b' hb' hbd' => ?_, fun k hk => ?_, fun k hk => ?_, fun k hk => ?_⟩
  · by_cases h : (0 : Nat) = j
    · subst h; rw [upd_eq]
      rcases hj with q | q | q | q | q | q | q | q
      · exact q.2
      all_goals omega
    · rw [lo _ h]; exact g0
  · by_cases h : 11 = j
    · subst h; rw [upd_eq]
      rcases hj with q | q | q | q | q | q | q | q
      · omega
      · omega
      · omega
      · exact q.2
      all_goals omega
    · rw [lo _ h]; exact g11
  · by_cases h : 12 = j
    · subst h; rw [upd_eq]
      rcases hj with q | q | q | q | q | q | q | q
      · omega
      · omega
      · omega
      · omega
      · exact q.2
      all_goals omega
    · rw [lo _ h]; exact g12
  · by_cases h : 13 = j
    · subst h; rw [upd_eq]
      rcases hj with q | q | q | q | q | q | q | q
      · omega
      · omega
      · omega
      · omega
      · omega
      · exact q.2
      all_goals omega
    · rw [lo _ h]; exact g13
  · by_cases h : 14 = j
    · subst h; rw [upd_eq]
      rcases hj with q | q | q | q | q | q | q | q
      · omega
      · omega
      · omega
      · omega
      · omega
      · exact q.2
      all_goals omega
    · rw [lo _ h]; exact g14
  · by_cases h : 15 = j
    · subst h; rw [upd_eq]
      rcases hj with q | q | q | q | q | q | q | q
      · omega
      · omega
      · omega
      · omega
      · omega
      · omega
      · exact q.2
      · omega
    · rw [lo _ h]; exact g15
  · unfold wIb
    rw [hof, hof, hof, hof, hof, hof]
    exact hbd b' hb'
  · rw [hof]
    unfold wbd at hbd'
    rw [lo 1 (by omega), lo 2 (by omega)] at hbd'
    exact hy b' hb' hbd'
  · unfold wIt
    rw [htr, htr, htr, htr, htr]
    rw [lo 8 (by omega)] at hk
    exact ht k hk
  · rw [lo _ (by omega), lo _ (by omega)]
    exact hh k hk
  · by_cases h : 16 + k = j
    · rw [h, upd_eq]
      rcases hj with q | q | q | q | q | q | q | q
      · omega
      · omega
      · omega
      · omega
      · omega
      · omega
      · omega
      · exact q.2.2
    · rw [lo _ h]
      exact htd k hk
theorem lk_self {ee : Nat} (hs : s.1 ≤ n) (h2 : s.2 = false) (hx : wSp T n s.1 = s.1) : wLk T n ee s (s.1, wi (-1)) := ⟨hs, Or.inl ⟨h2, rfl, hs, hx.symm⟩⟩
theorem w_rg {A B : Int32} (h1 : A ≤ v) (h2 : v ≤ B) : wrg_ v A.toInt B.toInt := by
  rw [wt_le] at h1 h2
  exact ⟨h1, h2⟩
theorem tWs_t {q : Nat} (h : tWb T n q s = true) : tWs T n q s = (wSp T n (s.1 + (wws q).length), s.2) := by unfold tWs; rw [h]; rfl
theorem tWs_p {q : Nat} (h : tWb T n q s = true) : ∃ p, tWs T n q s = (wSp T n p, s.2) := ⟨_, tWs_t h⟩
theorem tWs_x {q : Nat} (h : tWb T n q s = true) : wSp T n (tWs T n q s).1 = (tWs T n q s).1 := by
  obtain ⟨p, hp⟩ := tWs_p h
  rw [hp]
  exact wSp_idem
theorem wI_cLn (hI : wI m) (hn : n ≤ 400) (hs : s.1 ≤ n) (h2 : s.2 = false) (hok : (cLn T n m s).2.2 = false) : wI (cLn T n m s).1 := by
  have lw : ∀ q, tWb T n q s = true → wLk T n 0 (tWs T n q s) ((tWs T n q s).1, wi (-1)) := fun q h => lk_self (tWs_le hs) (by rw [tWs_2]; exact h2) (tWs_x h)
  unfold cLn at hok ⊢
  by_cases h1 : tWb T n 2015 s = true
  · simp only [if_pos h1] at hok ⊢
    obtain ⟨b, hb, hb10⟩ := wI_c1 hI
    by_cases hb2 : m 1 = wn 10
    · simp only [if_pos hb2] at hok; cases hok
    · simp only [if_neg hb2] at hok ⊢
      obtain ⟨-, p1, p2, p3, p4, p5, -⟩ := (lkc_T (lw _ h1) hn).2 hok
      have e : wb1_ m 1 = b := by unfold wb1_; rw [hb, wn_toInt (by omega)]; omega
      have hb3 : b < 10 := by
        have : ¬ b = 10 := fun h => hb2 (by rw [hb, h])
        omega
      have r4 := w_rg p4.2.1 p4.2.2
      have r5 := w_rg (Int32.le_trans p4.2.1 p5.2.1) p5.2.2
      have := wI_th (f := vT7 T n (tWs T n 2015 s)) (t := vT9 T n (tWs T n 2015 s)) hI hb hb3 (w_rg p1.2.1 p1.2.2) (w_rg p2.2.1 p2.2.2) (w_rg p3.2.1 p3.2.2) r4 r5
      unfold mT
      rw [e]
      exact this
  · simp only [if_neg h1] at hok ⊢
    by_cases h3 : tWb T n 2016 s = true
    · simp only [if_pos h3] at hok ⊢
      obtain ⟨b, hb, hb10⟩ := wI_c2 hI
      by_cases hb2 : m 2 = wn 6
      · simp only [if_pos hb2] at hok; cases hok
      · simp only [if_neg hb2] at hok ⊢
        obtain ⟨-, p1, p2, p3, p4, p5, p7, -⟩ := (lkc_S (lw _ h3) hn).2 hok
        have e : wb1_ m 2 = b := by unfold wb1_; rw [hb, wn_toInt (by omega)]; omega
        have hb3 : b < 6 := by
          have : ¬ b = 6 := fun h => hb2 (by rw [hb, h])
          omega
        have r4 := w_rg p4.2.1 p4.2.2
        have r5 := w_rg (Int32.le_trans p4.2.1 p5.2.1) p5.2.2
        have := wI_sh (f := vS9 T n (tWs T n 2016 s)) (t := vS11 T n (tWs T n 2016 s)) hI hb hb3 (w_rg p1.2.1 p1.2.2) (w_rg p2.2.1 p2.2.2) (w_rg p3.2.1 p3.2.2) r4 r5 (w_rg p7.2.1 p7.2.2)
        unfold mS
        rw [e]
        exact this
    · simp only [if_neg h3] at hok ⊢
      by_cases h4 : tWb T n 2017 s = true
      · simp only [if_pos h4] at hok ⊢
        obtain ⟨b, hb, hb10⟩ := wI_c3 hI
        by_cases hb2 : m 3 = wn 3
        · simp only [if_pos hb2] at hok; cases hok
        · simp only [if_neg hb2] at hok ⊢
          obtain ⟨-, p1, p2⟩ := (lkc_H (lw _ h4) hn).2 hok
          have e : wb1_ m 3 = b := by unfold wb1_; rw [hb, wn_toInt (by omega)]; omega
          have hb3 : b < 3 := by
            have : ¬ b = 3 := fun h => hb2 (by rw [hb, h])
            omega
          have := wI_ho hI hb hb3 (w_rg p1.2.1 p1.2.2) (w_rg p2.2.1 p2.2.2)
          unfold mH
          rw [e]
          exact this
      · simp only [if_neg h4] at hok ⊢
        by_cases h5 : tWb T n 2018 s = true
        · simp only [if_pos h5] at hok ⊢
          obtain ⟨-, p1, p3, p5, p7⟩ := (lkc_W (lw _ h5) hn).2 hok
          have r5 := w_rg (Int32.le_trans p3.2.1 p5.2.1) p5.2.2
          unfold mW
          exact wI_lo (wI_lo (wI_lo (wI_lo hI (Or.inr (Or.inr (Or.inr (Or.inr (Or.inl ⟨rfl, w_rg p1.2.1 p1.2.2⟩)))))) (Or.inr (Or.inr (Or.inr (Or.inr (Or.inr (Or.inl ⟨Or.inl rfl, w_rg p3.2.1 p3.2.2⟩))))))) (Or.inr (Or.inr (Or.inr (Or.inr (Or.inr (Or.inl ⟨Or.inr rfl, r5⟩))))))) (Or.inr (Or.inr (Or.inr (Or.inr (Or.inr (Or.inr (Or.inl ⟨rfl, w_rg p7.2.1 p7.2.2⟩)))))))
        · simp only [if_neg h5] at hok ⊢
          by_cases h6 : tWb T n 2019 s = true
          · simp only [if_pos h6] at hok ⊢
            exact wI_lo hI (Or.inr (Or.inl rfl))
          · simp only [if_neg h6] at hok ⊢
            by_cases h7 : tWb T n 2020 s = true
            · simp only [if_pos h7] at hok ⊢
              exact wI_lo hI (Or.inr (Or.inl rfl))
            · simp only [if_neg h7] at hok ⊢
              by_cases h8 : tWb T n 2021 s = true
              · simp only [if_pos h8] at hok ⊢
                exact wI_lo hI (Or.inr (Or.inr (Or.inl rfl)))
              · simp only [if_neg h8] at hok ⊢
                by_cases h9 : tWb T n 2022 s = true
                · simp only [if_pos h9] at hok ⊢
                  have p := tNv_r hok
                  exact wI_lo hI (Or.inr (Or.inr (Or.inr (Or.inl ⟨rfl, w_rg p.1 p.2⟩))))
                · simp only [if_neg h9] at hok ⊢
                  by_cases h10 : tWb T n 2023 s = true
                  · simp only [if_pos h10] at hok ⊢
                    obtain ⟨b, hb, e1, e2⟩ := vI1_k (T := T) (n := n) (s := tWs T n 2023 s)
                    have p : _ ≤ vI3 T n (tWs T n 2023 s) ∧ vI3 T n (tWs T n 2023 s) ≤ _ := tNv_r hok
                    have r := w_rg p.1 p.2
                    have q9 : (wn 9).toInt = 9 := rfl
                    have q0 : (wn 0).toInt = 0 := rfl
                    rw [q9, q0] at r
                    have rn : (-vI3 T n (tWs T n 2023 s)).toInt = -(vI3 T n (tWs T n 2023 s)).toInt := wt_neg (by have := r.2; omega) (by have := r.1; omega)
                    unfold mI
                    rw [e2]
                    refine wI_lo hI (Or.inr (Or.inr (Or.inr (Or.inr (Or.inr (Or.inr (Or.inr ⟨by omega, by omega, ?_⟩)))))))
                    split
                    · exact ⟨by rw [rn]; have := r.2; omega, by rw [rn]; have := r.1; omega⟩
                    · exact ⟨by have := r.1; omega, r.2⟩
                  · simp only [if_neg h10] at hok ⊢
                    cases hok
end WIL
