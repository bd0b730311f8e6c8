/-! ===== texts: a law, compiled ===== -/
abbrev wKo : Type := wP × List Int32
noncomputable def kPart (T : Nat → Int32) (n : Nat) (s : wP) : wKo :=
  if tWb T n 2036 s = true then (tWs T n 2036 s, [wi (-10)])
  else if tWb T n 2037 s = true then (tWs T n 2037 s, [wi (-11)])
  else if tWb T n 2038 s = true then (tWs T n 2038 s, [wi (-12)])
  else if tWb T n 2039 s = true then (tWs T n 2039 s, [wi (-13)])
  else if tWb T n 2040 s = true then (tWs T n 2040 s, [wi (-14)])
  else if tWb T n 2041 s = true then (tWs T n 2041 s, [wi (-15)])
  else (tNs T n (wn 1) 3 (wn 0) (wn 999) s, [tNv T n (wn 1) 3 (wn 0) (wn 999) s])
/-- more parts -/
noncomputable def kSl (T : Nat → Int32) (n : Nat) : Nat → wP → wKo
  | 0, s => (s, [])
  | f + 1, s => if tSb T n (wn 43) s = true then ((kSl T n f (kPart T n (tSs T n (wn 43) s)).1).1, (kPart T n (tSs T n (wn 43) s)).2 ++ (wi (-1) :: (kSl T n f (kPart T n (tSs T n (wn 43) s)).1).2)) else (s, [])
noncomputable def kSum (T : Nat → Int32) (n : Nat) (s : wP) : wKo := ((kSl T n 400 (kPart T n s).1).1, (kPart T n s).2 ++ (kSl T n 400 (kPart T n s).1).2)
/-- the sign of two sums -/
noncomputable def kSg (T : Nat → Int32) (n : Nat) (s : wP) : wP := if tSb T n (wn 60) s = true then tSs T n (wn 60) s else nSs T n (wn 62) s
noncomputable def kPlain (T : Nat → Int32) (n : Nat) (s : wP) : wKo :=
  if tWb T n 2034 s = true then (tWs T n 2034 s, [wi (-16)])
  else if tWb T n 2035 s = true then (tWs T n 2035 s, [wi (-17)])
  else ((kSum T n (kSg T n (kSum T n s).1)).1, (kSum T n s).2 ++ ((kSum T n (kSg T n (kSum T n s).1)).2 ++ [if tSb T n (wn 60) (kSum T n s).1 = true then wi (-2) else wi (-3)]))
/-- more of g behind a word -/
noncomputable def kLp (T : Nat → Int32) (n w : Nat) (op : Int32) (g : wP → wKo) : Nat → wP → wKo
  | 0, s => (s, [])
  | f + 1, s => if tWb T n w s = true then ((kLp T n w op g f (g (tWs T n w s)).1).1, (g (tWs T n w s)).2 ++ (op :: (kLp T n w op g f (g (tWs T n w s)).1).2)) else (s, [])
noncomputable def kEv (T : Nat → Int32) (n : Nat) (g : wP → wKo) (s : wP) : wKo := ((kLp T n 2032 (wi (-5)) g 400 (g s).1).1, (g s).2 ++ (kLp T n 2032 (wi (-5)) g 400 (g s).1).2)
noncomputable def kAn (T : Nat → Int32) (n : Nat) (g : wP → wKo) (s : wP) : wKo := ((kLp T n 2031 (wi (-6)) (kEv T n g) 399 (kEv T n g s).1).1, (kEv T n g s).2 ++ (kLp T n 2031 (wi (-6)) (kEv T n g) 399 (kEv T n g s).1).2)
noncomputable def kAt (T : Nat → Int32) (n : Nat) : Nat → wP → wKo
  | 0 => kPlain T n
  | lv + 1 => fun s => if tWb T n 2033 s = true then ((kAt T n lv (tWs T n 2033 s)).1, (kAt T n lv (tWs T n 2033 s)).2 ++ [wi (-4)]) else if tSb T n (wn 40) s = true then (nSs T n (wn 41) (kAn T n (kAt T n lv) (tSs T n (wn 40) s)).1, (kAn T n (kAt T n lv) (tSs T n (wn 40) s)).2) else kPlain T n s
/-- a line: how much, if what, and the place behind -/
noncomputable def kN1 (T : Nat → Int32) (n : Nat) (s : wP) : wP := nWs T n 2029 s
noncomputable def kNv (T : Nat → Int32) (n : Nat) (s : wP) : Int32 := tNv T n (wn 1) 3 (wn 0) (wn 999) (kN1 T n s)
noncomputable def kN2 (T : Nat → Int32) (n : Nat) (s : wP) : wP := tNs T n (wn 1) 3 (wn 0) (wn 999) (kN1 T n s)
noncomputable def kNl (T : Nat → Int32) (n : Nat) (s : wP) : wKo := if tWb T n 2030 (kN2 T n s) = true then kAn T n (kAt T n 6) (tWs T n 2030 (kN2 T n s)) else (kN2 T n s, [])
noncomputable def kRd (T : Nat → Int32) (n : Nat) : Nat → wP → wP × List (Int32 × List Int32)
  | 0, s => ((s.1, true), [])
  | k + 1, s => if tSb T n (wn 59) (kNl T n s).1 = true then ((kRd T n k (tSs T n (wn 59) (kNl T n s).1)).1, (kNv T n s, (kNl T n s).2) :: (kRd T n k (tSs T n (wn 59) (kNl T n s).1)).2) else (nEs n (kNl T n s).1, [(kNv T n s, (kNl T n s).2)])
noncomputable def kLaw (T : Nat → Int32) (n : Nat) : wP × List (Int32 × List Int32) := if n ≤ wSp T n 0 then ((wSp T n 0, false), []) else kRd T n 12 (wSp T n 0, false)
/-! what codes mean -/
def wJn (op l r : Int32) : Int32 := if op = wi (-1) then l + r else if op = wi (-2) then (if l < r then wn 1 else wn 0) else if op = wi (-3) then (if r < l then wn 1 else wn 0) else if op = wi (-5) then l &&& r else l ||| r
/-- one code on a stack (the top first) -/
def wS1 (F : Nat → Int32) (st : List Int32) (x : Int32) : List Int32 :=
  if wn 0 ≤ x then (if st.length < 40 then x :: st else st)
  else if wi (-18) < x ∧ x ≤ wi (-10) then (if st.length < 40 then F (wi (-10) - x).toInt.toNat :: st else st)
  else match st with
    | [] => []
    | [r] => if x = wi (-4) then [if r = wn 0 then wn 1 else wn 0] else [r]
    | r :: l :: st => if x = wi (-4) then (if r = wn 0 then wn 1 else wn 0) :: l :: st else wJn x l r :: st
def wRn (F : Nat → Int32) (l : List Int32) (st : List Int32) : List Int32 := l.foldl (wS1 F) st
def wSem (F : Nat → Int32) (k : Nat) (l : List Int32) (v : Int32) : Prop := ∀ st : List Int32, st.length + k ≤ 40 → wRn F l st = v :: st
/-- from a value on -/
def wSeL (F : Nat → Int32) (k : Nat) (l : List Int32) (v v' : Int32) : Prop := ∀ st : List Int32, st.length + k ≤ 40 → wRn F l (v :: st) = v' :: st
section LW1
variable {T : Nat → Int32} {n f k w lv q : Nat} {s : wP} {x y v v' u op : Int32} {F : Nat → Int32} {l l2 st : List Int32} {g : wP → wKo}
theorem wRn_app : wRn F (l ++ l2) st = wRn F l2 (wRn F l st) := List.foldl_append
theorem wRn_cons : wRn F (x :: l) st = wRn F l (wS1 F st x) := rfl
theorem wRn_nil : wRn F [] st = st := rfl
theorem wSem_num (h : wn 0 ≤ x) : wSem F 1 [x] x := fun st hs => by
  rw [wRn_cons, wRn_nil]
  unfold wS1
  rw [if_pos h, if_pos (by omega)]
theorem wSem_fact {j : Nat} (hj : j < 8) (hx : x = wi (-10 - j)) : wSem F 1 [x] (F j) := fun st hs => by
  have e1 : x.toInt = -10 - j := by rw [hx]; exact wi_toInt (by omega) (by omega)
  have e2 : (wi (-10)).toInt = -10 := rfl
  have e3 : (wi (-18)).toInt = -18 := rfl
  rw [wRn_cons, wRn_nil]
  unfold wS1
  rw [if_neg (by rw [wt_le, w0_toInt, e1]; omega), if_pos (by rw [wt_lt, wt_le, e1, e2, e3]; omega), if_pos (by omega), wt_sub (by rw [e1, e2]; omega) (by rw [e1, e2]; omega), e1, e2]
  congr 2
  omega
theorem wS1_op {r a : Int32} (h : x = wi (-1) ∨ x = wi (-2) ∨ x = wi (-3) ∨ x = wi (-5) ∨ x = wi (-6)) : wS1 F (r :: a :: st) x = wJn x a r :: st := by
  unfold wS1
  have h1 : ¬ wn 0 ≤ x := by
    rcases h with h | h | h | h | h <;> subst h <;> decide
  have h2 : ¬ (wi (-18) < x ∧ x ≤ wi (-10)) := by
    rcases h with h | h | h | h | h <;> subst h <;> decide
  have h3 : ¬ x = wi (-4) := by
    rcases h with h | h | h | h | h <;> subst h <;> decide
  rw [if_neg h1, if_neg h2]
  show (if x = wi (-4) then _ else _) = _
  rw [if_neg h3]
theorem wSem_le {k2 : Nat} (h : wSem F k l v) (hk : k ≤ k2) : wSem F k2 l v := fun st hs => h st (by omega)
theorem wSeL_le {k2 : Nat} (h : wSeL F k l v v') (hk : k ≤ k2) : wSeL F k2 l v v' := fun st hs => h st (by omega)
theorem wSem_not (h : wSem F k l v) : wSem F k (l ++ [wi (-4)]) (if v = wn 0 then wn 1 else wn 0) := fun st hs => by
  rw [wRn_app, h st hs, wRn_cons, wRn_nil]
  unfold wS1
  rw [if_neg (by decide), if_neg (by decide)]
  cases st with
  | nil => rfl
  | cons a st => rfl
theorem wSem_bin (h1 : wSem F k l v) (h2 : wSem F k l2 u) (h : x = wi (-1) ∨ x = wi (-2) ∨ x = wi (-3) ∨ x = wi (-5) ∨ x = wi (-6)) : wSem F (k + 1) (l ++ (l2 ++ [x])) (wJn x v u) := fun st hs => by
  rw [wRn_app, h1 st (by omega), wRn_app, h2 (v :: st) (by rw [List.length_cons]; omega), wRn_cons, wRn_nil, wS1_op h]
theorem wSeL_nil : wSeL F k [] v v := fun st hs => rfl
theorem wSeL_cons {l3 : List Int32} {u' : Int32} (h2 : wSem F k l2 u) (h3 : wSeL F (k + 1) l3 (wJn x v u) u') (h : x = wi (-1) ∨ x = wi (-2) ∨ x = wi (-3) ∨ x = wi (-5) ∨ x = wi (-6)) : wSeL F (k + 1) (l2 ++ (x :: l3)) v u' := fun st hs => by
  rw [wRn_app, h2 (v :: st) (by rw [List.length_cons]; omega), wRn_cons, wS1_op h]
  exact h3 st hs
theorem wSem_lp (h1 : wSem F k l v) (h2 : wSeL F k l2 v v') : wSem F k (l ++ l2) v' := fun st hs => by
  rw [wRn_app, h1 st hs]
  exact h2 st hs
/-! where it goes -/
theorem nSs_2 (h : (nSs T n x s).2 = false) : s.2 = false ∧ s.1 < (nSs T n x s).1 := by
  unfold nSs at h ⊢
  cases h1 : tSb T n x s with
  | false => rw [h1, if_neg (by decide)] at h; cases h
  | true =>
    rw [if_pos rfl]
    have h2 : s.1 + 1 ≤ wSp T n (s.1 + 1) := wSp_ge
    exact ⟨(tSb_2 h1).1, by show s.1 < wSp T n (s.1 + 1); omega⟩
theorem tSs_lt (h : tSb T n x s = true) : s.1 < (tSs T n x s).1 := by
  unfold tSs
  rw [if_pos h]
  have h2 : s.1 + 1 ≤ wSp T n (s.1 + 1) := wSp_ge
  show s.1 < wSp T n (s.1 + 1)
  omega
theorem tWs_lt (h : tWb T n q s = true) : s.1 + (wws q).length ≤ (tWs T n q s).1 := by
  obtain ⟨p, hp⟩ : ∃ p, p = s.1 + (wws q).length := ⟨_, rfl⟩
  rw [tWs_t h, ← hp]
  exact wSp_ge
theorem tWb_2 (h : tWb T n q s = true) : s.2 = false := by
  simp only [tWb, Bool.and_eq_true, Bool.not_eq_true'] at h
  exact h.1
theorem kPart_ok (h : (kPart T n s).1.2 = false) : s.2 = false ∧ s.1 + 1 ≤ (kPart T n s).1.1 ∧ (kPart T n s).2.length = 1 := by
  have hw : ∀ q, 2015 ≤ q → q < 2070 → tWb T n q s = true → s.2 = false ∧ s.1 + 1 ≤ (tWs T n q s).1 := fun q q1 q2 h1 => by
    have := wws_len q1 q2
    have h2 := tWs_lt h1
    exact ⟨tWb_2 h1, by omega⟩
  unfold kPart at h ⊢
  by_cases h1 : tWb T n 2036 s = true
  · rw [if_pos h1]; exact ⟨(hw _ (by decide) (by decide) h1).1, (hw _ (by decide) (by decide) h1).2, rfl⟩
  · rw [if_neg h1] at h ⊢
    by_cases h2 : tWb T n 2037 s = true
    · rw [if_pos h2]; exact ⟨(hw _ (by decide) (by decide) h2).1, (hw _ (by decide) (by decide) h2).2, rfl⟩
    · rw [if_neg h2] at h ⊢
      by_cases h3 : tWb T n 2038 s = true
      · rw [if_pos h3]; exact ⟨(hw _ (by decide) (by decide) h3).1, (hw _ (by decide) (by decide) h3).2, rfl⟩
      · rw [if_neg h3] at h ⊢
        by_cases h4 : tWb T n 2039 s = true
        · rw [if_pos h4]; exact ⟨(hw _ (by decide) (by decide) h4).1, (hw _ (by decide) (by decide) h4).2, rfl⟩
        · rw [if_neg h4] at h ⊢
          by_cases h5 : tWb T n 2040 s = true
          · rw [if_pos h5]; exact ⟨(hw _ (by decide) (by decide) h5).1, (hw _ (by decide) (by decide) h5).2, rfl⟩
          · rw [if_neg h5] at h ⊢
            by_cases h6 : tWb T n 2041 s = true
            · rw [if_pos h6]; exact ⟨(hw _ (by decide) (by decide) h6).1, (hw _ (by decide) (by decide) h6).2, rfl⟩
            · rw [if_neg h6] at h ⊢
              have h7 : s.1 < (tNs T n (wn 1) 3 (wn 0) (wn 999) s).1 := tNs_lt h
              exact ⟨tNs_2 h, h7, rfl⟩
theorem kSl_ok : ∀ (f : Nat) (s : wP), (kSl T n f s).1.2 = false → s.2 = false ∧ s.1 + (kSl T n f s).2.length ≤ (kSl T n f s).1.1
  | 0, s, h => ⟨h, Nat.le_refl _⟩
  | f + 1, s, h => by
    rw [kSl] at h ⊢
    by_cases h1 : tSb T n (wn 43) s = true
    · rw [if_pos h1] at h ⊢
      obtain ⟨h2, h3⟩ := kSl_ok f _ h
      obtain ⟨h4, h5, h6⟩ := kPart_ok h2
      have h7 := tSs_lt h1
      refine ⟨(tSb_2 h1).1, ?_⟩
      show s.1 + (_ ++ (_ :: _)).length ≤ _
      rw [List.length_append, List.length_cons, h6]
      show s.1 + (1 + ((kSl T n f (kPart T n (tSs T n (wn 43) s)).1).2.length + 1)) ≤ (kSl T n f (kPart T n (tSs T n (wn 43) s)).1).1.1
      omega
    · rw [if_neg h1] at h ⊢
      exact ⟨h, Nat.le_refl _⟩
theorem kSum_ok (h : (kSum T n s).1.2 = false) : s.2 = false ∧ s.1 + (kSum T n s).2.length ≤ (kSum T n s).1.1 ∧ s.1 + 1 ≤ (kSum T n s).1.1 := by
  unfold kSum at h ⊢
  obtain ⟨h1, h2⟩ := kSl_ok 400 _ h
  obtain ⟨h3, h4, h5⟩ := kPart_ok h1
  refine ⟨h3, ?_, ?_⟩
  · show s.1 + (_ ++ _ : List Int32).length ≤ _
    rw [List.length_append, h5]
    show s.1 + (1 + (kSl T n 400 (kPart T n s).1).2.length) ≤ (kSl T n 400 (kPart T n s).1).1.1
    omega
  · show s.1 + 1 ≤ (kSl T n 400 (kPart T n s).1).1.1
    omega
theorem kSg_ok (h : (kSg T n s).2 = false) : s.2 = false ∧ s.1 + 1 ≤ (kSg T n s).1 := by
  unfold kSg at h ⊢
  by_cases h1 : tSb T n (wn 60) s = true
  · rw [if_pos h1]
    exact ⟨(tSb_2 h1).1, tSs_lt h1⟩
  · rw [if_neg h1] at h ⊢
    exact nSs_2 h
theorem wws_34 : (wws 2034).length = 4 := rfl
theorem wws_35l : (wws 2035).length = 4 := rfl
theorem kPlain_ok (h : (kPlain T n s).1.2 = false) : s.2 = false ∧ s.1 + (kPlain T n s).2.length ≤ (kPlain T n s).1.1 ∧ s.1 + 2 ≤ (kPlain T n s).1.1 := by
  unfold kPlain at h ⊢
  by_cases h1 : tWb T n 2034 s = true
  · rw [if_pos h1]
    have := tWs_lt h1
    rw [wws_34] at this
    exact ⟨tWb_2 h1, by show s.1 + 1 ≤ (tWs T n 2034 s).1; omega, by show s.1 + 2 ≤ (tWs T n 2034 s).1; omega⟩
  · rw [if_neg h1] at h ⊢
    by_cases h2 : tWb T n 2035 s = true
    · rw [if_pos h2]
      have := tWs_lt h2
      rw [wws_35l] at this
      exact ⟨tWb_2 h2, by show s.1 + 1 ≤ (tWs T n 2035 s).1; omega, by show s.1 + 2 ≤ (tWs T n 2035 s).1; omega⟩
    · rw [if_neg h2] at h ⊢
      obtain ⟨h3, h4, h5⟩ := kSum_ok h
      obtain ⟨h6, h7⟩ := kSg_ok h3
      obtain ⟨h8, h9, h10⟩ := kSum_ok h6
      refine ⟨h8, ?_, ?_⟩
      · show s.1 + (_ ++ (_ ++ [_])).length ≤ _
        rw [List.length_append, List.length_append]
        show s.1 + ((kSum T n s).2.length + ((kSum T n (kSg T n (kSum T n s).1)).2.length + 1)) ≤ (kSum T n (kSg T n (kSum T n s).1)).1.1
        omega
      · show s.1 + 2 ≤ (kSum T n (kSg T n (kSum T n s).1)).1.1
        omega
/-- what reads on, and writes no more than it reads -/
def kGo (g : wP → wKo) : Prop := ∀ s, (g s).1.2 = false → s.2 = false ∧ s.1 + (g s).2.length ≤ (g s).1.1 ∧ s.1 + 2 ≤ (g s).1.1
theorem kLp_ok (hg : kGo g) (hw : 2015 ≤ w) (hw2 : w < 2070) : ∀ (f : Nat) (s : wP), (kLp T n w op g f s).1.2 = false → s.2 = false ∧ s.1 + (kLp T n w op g f s).2.length ≤ (kLp T n w op g f s).1.1
  | 0, s, h => ⟨h, Nat.le_refl _⟩
  | f + 1, s, h => by
    rw [kLp] at h ⊢
    by_cases h1 : tWb T n w s = true
    · rw [if_pos h1] at h ⊢
      obtain ⟨h2, h3⟩ := kLp_ok hg hw hw2 f _ h
      obtain ⟨h4, h5, h6⟩ := hg _ h2
      have h7 := tWs_lt h1
      have h8 := wws_len hw hw2
      refine ⟨tWb_2 h1, ?_⟩
      show s.1 + (_ ++ (_ :: _)).length ≤ _
      rw [List.length_append, List.length_cons]
      show s.1 + ((g (tWs T n w s)).2.length + ((kLp T n w op g f (g (tWs T n w s)).1).2.length + 1)) ≤ (kLp T n w op g f (g (tWs T n w s)).1).1.1
      omega
    · rw [if_neg h1] at h ⊢
      exact ⟨h, Nat.le_refl _⟩
theorem kEv_go (hg : kGo g) : kGo (kEv T n g) := fun s h => by
  unfold kEv at h ⊢
  obtain ⟨h1, h2⟩ := kLp_ok hg (by decide) (by decide) 400 _ h
  obtain ⟨h3, h4, h5⟩ := hg _ h1
  refine ⟨h3, ?_, ?_⟩
  · show s.1 + (_ ++ _ : List Int32).length ≤ _
    rw [List.length_append]
    show s.1 + ((g s).2.length + (kLp T n 2032 (wi (-5)) g 400 (g s).1).2.length) ≤ (kLp T n 2032 (wi (-5)) g 400 (g s).1).1.1
    omega
  · show s.1 + 2 ≤ (kLp T n 2032 (wi (-5)) g 400 (g s).1).1.1
    omega
theorem kAn_go (hg : kGo g) : kGo (kAn T n g) := fun s h => by
  unfold kAn at h ⊢
  obtain ⟨h1, h2⟩ := kLp_ok (kEv_go hg) (by decide) (by decide) 399 _ h
  obtain ⟨h3, h4, h5⟩ := kEv_go hg _ h1
  refine ⟨h3, ?_, ?_⟩
  · show s.1 + (_ ++ _ : List Int32).length ≤ _
    rw [List.length_append]
    show s.1 + ((kEv T n g s).2.length + (kLp T n 2031 (wi (-6)) (kEv T n g) 399 (kEv T n g s).1).2.length) ≤ (kLp T n 2031 (wi (-6)) (kEv T n g) 399 (kEv T n g s).1).1.1
    omega
  · show s.1 + 2 ≤ (kLp T n 2031 (wi (-6)) (kEv T n g) 399 (kEv T n g s).1).1.1
    omega
theorem kAt_go : ∀ lv, kGo (kAt T n lv)
  | 0 => fun s h => kPlain_ok h
  | lv + 1 => fun s h => by
    have ih := kAt_go lv
    rw [kAt] at h ⊢
    by_cases h1 : tWb T n 2033 s = true
    · simp only [if_pos h1] at h ⊢
      obtain ⟨h2, h3, h4⟩ := ih _ h
      have h7 := tWs_lt h1
      have h8 := wws_len (q := 2033) (by decide) (by decide)
      refine ⟨tWb_2 h1, ?_, by omega⟩
      rw [List.length_append]
      show s.1 + ((kAt T n lv (tWs T n 2033 s)).2.length + 1) ≤ _
      omega
    · simp only [if_neg h1] at h ⊢
      by_cases h2 : tSb T n (wn 40) s = true
      · simp only [if_pos h2] at h ⊢
        obtain ⟨h3, h4⟩ := nSs_2 h
        obtain ⟨h5, h6, h7⟩ := kAn_go ih _ h3
        have h8 := tSs_lt h2
        exact ⟨(tSb_2 h2).1, by omega, by omega⟩
      · simp only [if_neg h2] at h ⊢
        exact kPlain_ok h
end LW1
