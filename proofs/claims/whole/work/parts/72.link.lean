/-! ===== texts: what both readers read ===== -/
/-- the class' reader s and the reference's r stand at one place -/
def wLk (T : Nat → Int32) (n ee : Nat) (s : wP) (r : wQ) : Prop := s.1 ≤ n ∧ ((s.2 = false ∧ r.2 = wi (-1) ∧ r.1 ≤ n ∧ s.1 = wSp T n r.1) ∨ (s.2 = true ∧ r.2 = wn s.1 ∧ r.1 ≤ n + 10 + ee))
/-- a number ahead of which a west may stand -/
noncomputable def rGp (T : Nat → Int32) (n q : Nat) : Nat := wSp T n (rWq T n 2043 q)
noncomputable def rGx (T : Nat → Int32) (n q : Nat) : Int32 := if rW T n 2043 q then -rFv T n 3 (rGp T n q, wi (-1)) else rFv T n 3 (rGp T n q, wi (-1))
noncomputable def rGv (T : Nat → Int32) (n : Nat) (r : wQ) : Int32 := if r.2 = wi (-1) then rGx T n r.1 else wn 0
noncomputable def rGs (T : Nat → Int32) (n : Nat) (hi lo : Int32) (r : wQ) : wQ := if r.2 = wi (-1) then (if (rFs T n 3 (wn 0) hi (rGp T n r.1, wi (-1))).2 = wi (-1) ∧ rGx T n r.1 < lo then ((rFs T n 3 (wn 0) hi (rGp T n r.1, wi (-1))).1, wn (rGp T n r.1)) else rFs T n 3 (wn 0) hi (rGp T n r.1, wi (-1))) else r
section LNK
variable {X : pm_X} {d : Nat} {D : wD} {o : Nat → Int64} {c : Nat × Nat} {Φ : pm_O → pm_H → Prop} {a b k j n p q f dg w w' i ee : Nat} {lo lo' hi x y v sg : Int32} {r : wQ} {T : Nat → Int32} {s : wP}
theorem lk_ok (h : wLk T n ee s r) (h2 : s.2 = false) : r.2 = wi (-1) ∧ r.1 ≤ n ∧ s.1 = wSp T n r.1 := by
  rcases h.2 with ⟨-, h3⟩ | ⟨h3, -⟩
  · exact h3
  · rw [h2] at h3; cases h3
theorem lk_no (h : wLk T n ee s r) (hn : n ≤ 400) (h2 : s.2 = true) : r.2 = wn s.1 ∧ ¬ r.2 = wi (-1) := by
  rcases h.2 with ⟨h3, -⟩ | ⟨-, h3, -⟩
  · rw [h2] at h3; cases h3
  · refine ⟨h3, ?_⟩
    have := h.1
    rw [h3, wn_nz (by omega)]
    exact fun h => h
theorem lk_b (h : wLk T n ee s r) : r.1 ≤ n + 10 + ee := by
  rcases h.2 with ⟨-, -, h3, -⟩ | ⟨-, -, h3⟩
  · omega
  · exact h3
/-- whether it went wrong: of both -/
theorem lk_f (h : wLk T n ee s r) (hn : n ≤ 400) : (r.2 = wi (-1)) = (s.2 = false) := by
  cases h2 : s.2 with
  | false => exact propext ⟨fun _ => rfl, fun _ => (lk_ok h h2).1⟩
  | true => exact propext ⟨fun h3 => absurd h3 (lk_no h hn h2).2, fun h3 => by cases h3⟩
theorem lk_q (h : wLk T n ee s r) (hn : n ≤ 400) (h2 : r.2 = wi (-1)) : r.1 ≤ n := (lk_ok h (by rw [← lk_f h hn]; exact h2)).2.1
theorem lk_mk (h : q ≤ n) : wLk T n ee (wSp T n q, false) (q, wi (-1)) := ⟨wSp_le h, Or.inl ⟨rfl, rfl, h, rfl⟩⟩
theorem lk_wr (h : p ≤ n) (h2 : q ≤ n + 10 + ee) : wLk T n ee (p, true) (q, wn p) := ⟨h, Or.inr ⟨rfl, rfl, h2⟩⟩
theorem lk_W (h : wLk T n ee s r) (h2 : s.2 = false) (hw : wws w' = wws w) : rW T n w' r.1 = tWb T n w s := by
  obtain ⟨-, -, h3⟩ := lk_ok h h2
  unfold rW tWb
  rw [← h3, h2, hw]
  rfl
theorem lk_S (h : wLk T n ee s r) (h2 : s.2 = false) : rSb T n x r.1 = tSb T n x s := by
  obtain ⟨-, -, h3⟩ := lk_ok h h2
  unfold rSb tSb
  rw [← h3, h2]
  rfl
theorem lk_Fg (h : wLk T n ee s r) (h2 : s.2 = false) : (rFb T n r.1 = true) = (s.1 < wD9 T n s.1) := by
  obtain ⟨-, -, h3⟩ := lk_ok h h2
  unfold rFb wD9
  rw [← h3]
  simp only [Bool.and_eq_true, decide_eq_true_eq]
  have hst := wE_step (T := T) (n := n) (lo := wn 48) (hi := wn 57) (p := s.1)
  apply propext
  constructor
  · rintro ⟨h4, h5, h6⟩
    rw [hst, if_pos ⟨h4, h5, h6⟩]
    have := wE_ge (T := T) (n := n) (lo := wn 48) (hi := wn 57) (p := s.1 + 1)
    omega
  · intro h4
    by_cases h5 : s.1 < n ∧ wn 48 ≤ T s.1 ∧ T s.1 ≤ wn 57
    · exact h5
    · rw [hst, if_neg h5] at h4
      omega
theorem tWs_2 : (tWs T n w s).2 = s.2 := by
  unfold tWs
  split <;> rfl
theorem tSs_2 : (tSs T n x s).2 = s.2 := by
  unfold tSs
  split <;> rfl
theorem nWs_2 (h : (nWs T n w s).2 = false) : s.2 = false := by
  unfold nWs at h
  split at h
  · exact h
  · cases h
theorem tNs_2 (h : (tNs T n sg dg lo hi s).2 = false) : s.2 = false := by
  unfold tNs at h
  split at h
  · exact h
  · cases h
theorem tW_end (h : tWb T n w s = true) (hs : s.1 ≤ n) : s.1 + (wws w).length ≤ n := by
  simp only [tWb, Bool.and_eq_true, decide_eq_true_eq] at h
  have := wE_le (T := T) (lo := wn 97) (hi := wn 122) hs
  omega
theorem lk_Ws (h : wLk T n ee s r) (h2 : s.2 = false) (hw : wws w' = wws w) : wLk T n ee (tWs T n w s) (rWq T n w' r.1, wi (-1)) := by
  obtain ⟨-, h4, h3⟩ := lk_ok h h2
  have hW := lk_W h h2 hw
  unfold rWq tWs
  rw [hW]
  cases h5 : tWb T n w s with
  | true =>
    rw [if_pos rfl, if_pos rfl, ← h3, hw, h2]
    have := tW_end h5 h.1
    exact lk_mk this
  | false =>
    rw [if_neg (by decide), if_neg (by decide)]
    refine ⟨h.1, Or.inl ⟨h2, rfl, wSp_le h4, ?_⟩⟩
    rw [wSp_idem]
    exact h3
theorem lk_Mn (h : wLk T n ee s r) (hn : n ≤ 400) (hw : wws w' = wws w) : wLk T n ee (nWs T n w s) (rMs T n w' r) := by
  unfold rMs nWs
  cases h2 : s.2 with
  | true =>
    have h4 := (lk_no h hn h2)
    have h5 : tWb T n w s = false := by unfold tWb; rw [h2]; rfl
    rw [if_neg h4.2, h5, if_neg (by decide)]
    exact ⟨h.1, Or.inr ⟨rfl, h4.1, lk_b h⟩⟩
  | false =>
    obtain ⟨h4, h6, h3⟩ := lk_ok h h2
    rw [if_pos h4, lk_W h h2 hw]
    cases h5 : tWb T n w s with
    | true =>
      rw [if_pos rfl, if_pos rfl, ← h3, hw, h4]
      exact lk_mk (tW_end h5 h.1)
    | false =>
      rw [if_neg (by decide), if_neg (by decide), ← h3]
      exact lk_wr h.1 (by have := h.1; omega)
/-- a number -/
theorem lk_F (h : wLk T n ee s r) (hn : n ≤ 400) (hl : s.2 = false → lo' = lo) (hdg : dg ≤ 9 := by decide) : wLk T n ee (tNs T n (wn 1) dg lo hi s) (rFs T n dg lo' hi r) ∧ ((tNs T n (wn 1) dg lo hi s).2 = false → rFv T n dg r = tNv T n (wn 1) dg lo hi s) := by
  unfold rFs rFv tNs tNv
  cases h2 : s.2 with
  | true =>
    have h4 := (lk_no h hn h2)
    have h5 : tNk T n (wn 1) dg lo hi s = false := by unfold tNk; rw [h2]; rfl
    rw [if_neg h4.2, h5, if_neg (by decide)]
    exact ⟨⟨h.1, Or.inr ⟨rfl, h4.1, lk_b h⟩⟩, fun h9 => by cases h9⟩
  | false =>
    obtain ⟨h4, h6, h3⟩ := lk_ok h h2
    rw [hl h2, if_pos h4, if_pos h4]
    unfold rFk tNk
    rw [← h3, h2, Bool.not_false, Bool.true_and]
    have hE : wD9 T n s.1 ≤ n := wE_le h.1
    have hr9 : r9 T n dg s.1 ≤ n + 10 + ee := by
      have := h.1
      unfold r9
      split <;> omega
    by_cases h5 : wD9 T n s.1 ≤ s.1 + dg
    · have e1 : r9 T n dg s.1 = wD9 T n s.1 := if_pos (by omega)
      have e2 : rFx T n dg r.1 = tNx T n (wn 1) s := by
        unfold rFx tNx
        rw [← h3, e1]
      rw [e2]
      split
      · refine ⟨?_, fun _ => rfl⟩
        rw [h4]
        exact lk_mk hE
      · exact ⟨lk_wr h.1 hr9, fun h9 => by cases h9⟩
    · simp only [decide_eq_false h5, Bool.false_and, Bool.and_false, Bool.false_eq_true, if_false]
      exact ⟨lk_wr h.1 hr9, fun h9 => by cases h9⟩
theorem tNv_r (h : (tNs T n sg dg lo hi s).2 = false) : lo ≤ tNv T n sg dg lo hi s ∧ tNv T n sg dg lo hi s ≤ hi := by
  unfold tNs at h
  unfold tNv
  cases h2 : tNk T n sg dg lo hi s with
  | false => rw [h2, if_neg (by decide)] at h; cases h
  | true =>
    rw [if_pos rfl]
    simp only [tNk, Bool.and_eq_true, Bool.not_eq_true', decide_eq_false_iff_not] at h2
    exact ⟨Int32.not_lt.mp h2.2.2.2.1, Int32.not_lt.mp h2.2.2.2.2⟩
theorem w_neg1 : wi (-1) = -1 := rfl
/-- of figures with a west ahead -/
theorem wval_neg : ∀ (f i : Nat) (v : Int32), wval T (wi (-1)) f i (-v) = -wval T (wn 1) f i v
  | 0, _, _ => rfl
  | f + 1, i, v => by
    rw [wval, wval, ← wval_neg f (i + 1)]
    generalize T i - wn 48 = t
    have e1 : wn 1 * t = t := by show (1 : Int32) * t = t; exact Int32.one_mul t
    have e2 : (-1 : Int32) * t = -t := (Int32.neg_eq_neg_one_mul t).symm
    have e3 : wn 10 * -v + wi (-1) * t = -(wn 10 * v + wn 1 * t) := by
      rw [w_neg1, Int32.mul_neg, Int32.neg_add, e1, e2, Int32.sub_eq_add_neg]
    rw [e3]
theorem wval_b : ∀ (f i B : Nat) (v : Int32), (∀ k, i ≤ k → k < i + f → wn 48 ≤ T k ∧ T k ≤ wn 57) → 0 ≤ v.toInt → v.toInt ≤ B → (B + 1) * 10 ^ f ≤ 1000000 → 0 ≤ (wval T (wn 1) f i v).toInt ∧ (wval T (wn 1) f i v).toInt < (B + 1) * 10 ^ f
  | 0, i, B, v, _, h1, h2, h3 => by
    rw [wval, Nat.pow_zero] at *
    omega
  | f + 1, i, B, v, hd, h1, h2, h3 => by
    have hB : (B + 1) * 10 ≤ 1000000 := by
      have h4 : 10 ^ 0 ≤ 10 ^ f := Nat.pow_le_pow_right (by decide) (Nat.zero_le f)
      rw [Nat.pow_zero] at h4
      have h5 : (B + 1) * 10 * 1 ≤ (B + 1) * 10 * 10 ^ f := Nat.mul_le_mul_left _ h4
      have h6 : (B + 1) * 10 ^ (f + 1) = (B + 1) * 10 * 10 ^ f := by rw [Nat.pow_succ, Nat.mul_comm (10 ^ f), Nat.mul_assoc]
      omega
    obtain ⟨d1, d2⟩ := hd i (Nat.le_refl i) (by omega)
    rw [wt_le, wn_toInt (by decide)] at d1 d2
    have e1 : (T i - wn 48).toInt = (T i).toInt - 48 := by
      have e48 : (wn 48).toInt = 48 := rfl
      rw [wt_sub (by rw [e48]; omega) (by rw [e48]; omega), e48]
    have e2 : (wn 1 * (T i - wn 48)).toInt = (T i).toInt - 48 := by
      rw [wt_mul (by rw [w1_toInt, e1]; omega) (by rw [w1_toInt, e1]; omega), w1_toInt, e1]
      omega
    have e10 : (wn 10).toInt = 10 := rfl
    have e3 : (wn 10 * v).toInt = 10 * v.toInt := by rw [wt_mul (by rw [e10]; omega) (by rw [e10]; omega), e10]
    have e4 : (wn 10 * v + wn 1 * (T i - wn 48)).toInt = 10 * v.toInt + ((T i).toInt - 48) := by rw [wt_add (by rw [e2, e3]; omega) (by rw [e2, e3]; omega), e2, e3]
    have ih := wval_b f (i + 1) (10 * B + 9) (wn 10 * v + wn 1 * (T i - wn 48)) (fun k k1 k2 => hd k (by omega) (by omega)) (by rw [e4]; omega) (by rw [e4]; omega) (by
      rw [show 10 * B + 9 + 1 = (B + 1) * 10 by omega, Nat.mul_assoc, ← Nat.pow_succ']
      exact h3)
    rw [wval]
    refine ⟨ih.1, ?_⟩
    have h6 : ((10 * B + 9 + 1 : Nat) * 10 ^ f : Nat) = (B + 1) * 10 ^ (f + 1) := by rw [show 10 * B + 9 + 1 = (B + 1) * 10 by omega, Nat.mul_assoc, ← Nat.pow_succ']
    have := ih.2
    have h7 : ((10 * B + 9 : Nat) + 1 : Int) * 10 ^ f = (((10 * B + 9 + 1 : Nat) * 10 ^ f : Nat) : Int) := by rw [Int.natCast_mul, Int.natCast_pow]; rfl
    have h8 : ((B : Int) + 1) * 10 ^ (f + 1) = (((B + 1) * 10 ^ (f + 1) : Nat) : Int) := by rw [Int.natCast_mul, Int.natCast_pow]; rfl
    rw [h8, ← h6]
    rw [h7] at this
    exact this
theorem tNx_b (hE : wD9 T n s.1 ≤ s.1 + 3) : 0 ≤ (tNx T n (wn 1) s).toInt ∧ (tNx T n (wn 1) s).toInt < 1000 := by
  have hG : s.1 ≤ wD9 T n s.1 := wE_ge
  have := wval_b (T := T) (wD9 T n s.1 - s.1) s.1 0 (wn 0) (fun k h1 h2 => (wE_in (T := T) (n := n) (lo := wn 48) (hi := wn 57) (q := s.1) h1 (by unfold wD9 at h2 hG; omega)).2) (by decide) (by decide) (by
    have : 10 ^ (wD9 T n s.1 - s.1) ≤ 10 ^ 3 := Nat.pow_le_pow_right (by decide) (by omega)
    omega)
  refine ⟨this.1, Int.lt_of_lt_of_le this.2 ?_⟩
  have h9 : 10 ^ (wD9 T n s.1 - s.1) ≤ 10 ^ 3 := Nat.pow_le_pow_right (by decide) (by omega)
  have h8 : (((0 : Nat) : Int) + 1) * 10 ^ (wD9 T n s.1 - s.1) = ((10 ^ (wD9 T n s.1 - s.1) : Nat) : Int) := by rw [Int.natCast_pow]; simp
  rw [h8]
  omega
theorem wws_43 : wws 2043 = wws 2042 := rfl
/-- a number sideways -/
theorem lk_G (h : wLk T n ee s r) (hn : n ≤ 400) (h0 : 0 ≤ hi.toInt) (hl : s.2 = false → lo.toInt = max lo'.toInt (-hi.toInt)) : wLk T n ee (tNs T n (tVg T n s) 3 lo hi (tWs T n 2042 s)) (rGs T n hi lo' r) ∧ ((tNs T n (tVg T n s) 3 lo hi (tWs T n 2042 s)).2 = false → rGv T n r = tNv T n (tVg T n s) 3 lo hi (tWs T n 2042 s)) := by
  unfold rGs rGv
  cases h2 : s.2 with
  | true =>
    have h4 := (lk_no h hn h2)
    have h5 : ∀ s : wP, s.2 = true → ∀ sg, tNk T n sg 3 lo hi s = false := fun s h9 sg => by unfold tNk; rw [h9]; rfl
    have h6 : (tWs T n 2042 s).2 = true := by rw [tWs_2]; exact h2
    have h7 : tWs T n 2042 s = s := by
      unfold tWs tWb
      rw [h2]
      rfl
    rw [if_neg h4.2]
    unfold tNs
    rw [h5 _ h6, if_neg (by decide), h7]
    exact ⟨⟨h.1, Or.inr ⟨rfl, h4.1, lk_b h⟩⟩, fun h9 => by cases h9⟩
  | false =>
    obtain ⟨h4, h6, h3⟩ := lk_ok h h2
    have hs' := lk_Ws h h2 wws_43
    have hW := lk_W h h2 wws_43
    have h2' : (tWs T n 2042 s).2 = false := by rw [tWs_2]; exact h2
    have hp : (tWs T n 2042 s).1 = rGp T n r.1 := (lk_ok hs' h2').2.2
    rw [if_pos h4, if_pos h4]
    unfold rGx
    rw [hW]
    have hv : tVg T n s = if tWb T n 2042 s then wi (-1) else wn 1 := rfl
    rw [hv]
    generalize tWb T n 2042 s = wst at *
    generalize tWs T n 2042 s = s' at *
    have hid : wSp T n s'.1 = s'.1 := by rw [hp]; exact wSp_idem
    have hE : wD9 T n s'.1 ≤ n := wE_le hs'.1
    rw [← hp]
    unfold rFs rFv rFk tNs tNv tNk
    rw [if_pos rfl, if_pos rfl]
    simp only [hid, h2', Bool.not_false, Bool.true_and]
    have hwr : wLk T n ee (s'.1, true) (r9 T n 3 s'.1, wn s'.1) := lk_wr hs'.1 (by
      have := hs'.1
      unfold r9
      split <;> omega)
    have hnz : (wn s'.1 = wi (-1)) = False := wn_nz (by have := hs'.1; omega)
    by_cases h5 : s'.1 < wD9 T n s'.1 ∧ wD9 T n s'.1 ≤ s'.1 + 3
    · obtain ⟨h7, h8⟩ := h5
      have e1 : r9 T n 3 s'.1 = wD9 T n s'.1 := if_pos (by omega)
      have e2 : rFx T n 3 s'.1 = tNx T n (wn 1) s' := by
        unfold rFx tNx
        rw [hid, e1]
      have e3 : tNx T n (wi (-1)) s' = -tNx T n (wn 1) s' := by
        unfold tNx
        exact wval_neg _ _ (wn 0)
      obtain ⟨b1, b2⟩ := tNx_b h8
      have b3 : (-tNx T n (wn 1) s').toInt = -(tNx T n (wn 1) s').toInt := wt_neg (by omega) (by omega)
      have hl := hl h2
      rw [e2, decide_eq_true h7, decide_eq_true h8, e1]
      cases wst with
      | true =>
        simp only [if_true, e3]
        generalize tNx T n (wn 1) s' = z at *
        by_cases k1 : hi < z
        · have k2 : -z < lo := by rw [wt_lt] at k1 ⊢; omega
          simp only [decide_eq_true k1, decide_eq_true k2, Bool.not_true, Bool.and_false, Bool.false_and, Bool.false_eq_true, if_false, hnz, false_and]
          rw [e1] at hwr
          exact ⟨hwr, fun h9 => by cases h9⟩
        · have k3 : ¬ z < wn 0 := by rw [wt_lt, w0_toInt]; omega
          have k4 : ¬ hi < -z := by rw [wt_lt, b3]; omega
          simp only [decide_eq_false k1, decide_eq_false k3, decide_eq_false k4, Bool.not_false, Bool.and_self, Bool.and_true, if_true, true_and]
          by_cases k5 : -z < lo'
          · have k6 : -z < lo := by rw [wt_lt] at k5 ⊢; omega
            rw [if_pos k5, decide_eq_true k6]
            exact ⟨lk_wr hs'.1 (by omega), fun h9 => by cases h9⟩
          · have k6 : ¬ -z < lo := by
              rw [wt_lt] at k5 k1 ⊢
              omega
            rw [if_neg k5, decide_eq_false k6]
            exact ⟨lk_mk hE, fun _ => rfl⟩
      | false =>
        simp only [Bool.false_eq_true, if_false]
        generalize tNx T n (wn 1) s' = z at *
        have k3 : ¬ z < wn 0 := by rw [wt_lt, w0_toInt]; omega
        have k7 : (z < lo) = (z < lo') := by
          rw [wt_lt, wt_lt]
          apply propext
          omega
        by_cases k1 : hi < z
        · simp only [decide_eq_true k1, decide_eq_false k3, Bool.not_true, Bool.and_false, Bool.false_eq_true, if_false, hnz, false_and]
          rw [e1] at hwr
          exact ⟨hwr, fun h9 => by cases h9⟩
        · simp only [decide_eq_false k1, decide_eq_false k3, Bool.not_false, Bool.and_self, Bool.and_true, if_true, true_and]
          by_cases k5 : z < lo'
          · have k6 : z < lo := by rw [k7]; exact k5
            rw [if_pos k5, decide_eq_true k6]
            exact ⟨lk_wr hs'.1 (by omega), fun h9 => by cases h9⟩
          · have k6 : ¬ z < lo := by rw [k7]; exact k5
            rw [if_neg k5, decide_eq_false k6]
            exact ⟨lk_mk hE, fun _ => rfl⟩
    · have h7 : (decide (s'.1 < wD9 T n s'.1) && decide (wD9 T n s'.1 ≤ s'.1 + 3)) = false := by
        rw [← Bool.decide_and]
        exact decide_eq_false h5
      have h8 : ∀ b : Bool, (decide (s'.1 < wD9 T n s'.1) && (decide (wD9 T n s'.1 ≤ s'.1 + 3) && b)) = false := fun b => by rw [← Bool.and_assoc, h7]; rfl
      simp only [h8, Bool.false_eq_true, if_false, hnz, false_and]
      exact ⟨hwr, fun h9 => by cases h9⟩
/-- the reference's signed -/
theorem m_160 (hR : wRT D T n) (hq : r.2 = wi (-1) → r.1 ≤ n) : WC X (d + 6) 160 [.ref 90, .int hi, .int lo] (hp (wrp D r) o c) Φ ↔ Φ (.inl (some (.int (rGv T n r)))) (hp (wrp D (rGs T n hi lo r)) o c) := by
  obtain ⟨p, x⟩ := r
  have hn4 := hR.1
  unfold rGv rGs
  by_cases h3 : x = wi (-1)
  · subst h3
    have hq : p ≤ n := hq rfl
    have hq2 : rWq T n 2043 p ≤ n := by
      unfold rWq
      split
      · rename_i h9
        simp only [rW, Bool.and_eq_true, decide_eq_true_eq] at h9
        have := wE_le (T := T) (n := n) (lo := wn 97) (hi := wn 122) (wSp_le (T := T) hq)
        omega
      · exact wSp_le hq
    have hq3 : rGp T n p ≤ n := wSp_le hq2
    have m9 := fun (X : pm_X) (d : Nat) (Φ : pm_O → pm_H → Prop) => m_156 (X := X) (d := d) (o := o) (c := c) (Φ := Φ) (D := D) (r := (p, wi (-1))) (w := 2043) hR hq (by decide) (by decide)
    have m8 := fun (X : pm_X) (d : Nat) (Φ : pm_O → pm_H → Prop) => m_153 (X := X) (d := d) (o := o) (c := c) (Φ := Φ) (D := D) (r := (rWq T n 2043 p, wi (-1))) hR (by show rWq T n 2043 p < 2000; omega)
    have hg : wSp T n (rWq T n 2043 p) = rGp T n p := rfl
    have m7 := fun (X : pm_X) (d : Nat) (Φ : pm_O → pm_H → Prop) => m_159 (X := X) (d := d) (o := o) (c := c) (Φ := Φ) (D := D) (lo := wn 0) (hi := hi) (dg := 3) (r := (rGp T n p, wi (-1))) hR (fun _ => hq3) (by decide)
    simp only [hg] at m9 m8
    simp only [if_true, rGx]
    generalize rFs T n 3 (wn 0) hi (rGp T n p, wi (-1)) = r2 at *
    obtain ⟨p2, x2⟩ := r2
    generalize rFv T n 3 (rGp T n p, wi (-1)) = z at *
    by_cases h5 : x2 = wi (-1)
    · subst h5
      have m6 := fun (X : pm_X) (d : Nat) (Φ : pm_O → pm_H → Prop) (x : Int32) => m_157a (X := X) (d := d) (o := o) (c := c) (Φ := Φ) (D := D) (r := (p2, wi (-1))) (x := x) rfl
      cases h4 : rW T n 2043 p with
      | true =>
        by_cases h6 : -z < lo
        · have h7 : ¬ lo ≤ -z := Int32.not_le.mpr h6
          simp (disch := omega) only [e_160, k_160_0, k_160_1, k_160_4, k_160_5, k_160_8, k_160_9, k_160_10, k_160_11, k_160_13, k_160_16, k_160_17, k_160_18, k_160_21, k_160_22, k_160_25, k_160_27, k_160_28, k_160_29, k_160_30, k_160_31, k_160_34, k_160_36, k_160_37, k_160_40, k_160_42, k_160_43, k_160_46, k_160_48, k_160_50, k_160_51, k_160_54, k_160_55, k_160_58, k_160_60, k_160_61, k_160_64, k_160_65, k_160_67, k_160_70, k_160_72, wif_t, wz01_0, wz01_1, wz01_b, pm_op_s, wk_s, wk_n, pm_b_wn0, pm_b_wn1, wn_add, wn_mul, wg_st, and_true, true_and, and_false, false_and, not_true_eq_false, not_false_eq_true, if_true, if_false, ↓reduceIte, Nat.reduceEqDiff, Nat.reduceAdd, Nat.reduceMul, Nat.add_zero, Nat.zero_add, Classical.not_not, eq_self, hc_0, hf_0_0, hf_0_1, hf_0_2, hf_0_3, hf_0_4, hf_0_5, hf_0_6, hf_0_7, hf_0_8, hf_0_9, hg_0_10, hs_0_10, hg_0_11, hs_0_11, hc_1, hf_1_0, hc_2, hf_2_0, hf_2_1, hf_2_2, hf_2_3, hf_2_4, hf_2_5, hg_2_6, hs_2_6, hg_2_7, hs_2_7, hg_2_8, hs_2_8, hg_2_9, hs_2_9, hg_2_10, hs_2_10, hg_2_11, hs_2_11, hg_2_12, hs_2_12, hg_2_13, hs_2_13, hg_2_14, hs_2_14, hg_2_15, hs_2_15, hg_2_16, hs_2_16, hc_3, hf_3_0, hf_3_1, hf_3_2, hf_3_3, hf_3_4, hf_3_5, hf_3_6, hf_3_7, hg_3_8, hs_3_8, hg_3_9, hs_3_9, hc_12, hf_12_0, hf_12_1, hf_12_2, hf_12_3, hg_12_4, hs_12_4, hg_12_5, hs_12_5, hc_17, hf_17_0, hf_17_1, hf_17_2, hf_17_3, hf_17_4, hg_17_5, hs_17_5, hc_26, hf_26_0, hc_27, hf_27_0, hf_27_1, hf_27_2, hf_27_3, hg_27_4, hs_27_4, hg_27_5, hs_27_5, hc_32, hf_32_0, hg_32_1, hs_32_1, hg_32_2, hs_32_2, hg_32_3, hs_32_3, hc_34, hf_34_0, hf_34_1, hg_34_2, hs_34_2, hg_34_3, hs_34_3, hg_34_4, hs_34_4, hg_34_5, hs_34_5, hg_34_6, hs_34_6, hg_34_7, hs_34_7, hc_35, hf_35_0, hf_35_1, hf_35_2, hf_35_3, hf_35_4, hf_35_5, hg_35_6, hs_35_6, hg_35_7, hs_35_7, hg_35_8, hs_35_8, hg_35_9, hs_35_9, hg_35_10, hs_35_10, hg_35_11, hs_35_11, hg_35_12, hs_35_12, hg_35_13, hs_35_13, hg_35_14, hs_35_14, hg_35_15, hs_35_15, hg_35_16, hs_35_16, hc_36, hf_36_0, hf_36_1, hf_36_2, hf_36_3, hf_36_4, hf_36_5, hf_36_6, hf_36_7, hg_36_8, hs_36_8, hg_36_9, hs_36_9, hc_45, hf_45_0, hf_45_1, hf_45_2, hf_45_3, hg_45_4, hs_45_4, hg_45_5, hs_45_5, hc_50, hf_50_0, hf_50_1, hf_50_2, hf_50_3, hf_50_4, hg_50_5, hs_50_5, hc_59, hf_59_0, hf_59_1, hf_59_2, hf_59_3, hf_59_4, hf_59_5, hg_59_6, hs_59_6, hg_59_7, hs_59_7, hg_59_8, hs_59_8, hg_59_9, hs_59_9, hg_59_10, hs_59_10, hg_59_11, hs_59_11, hg_59_12, hs_59_12, hg_59_13, hs_59_13, hg_59_14, hs_59_14, hg_59_15, hs_59_15, hg_59_16, hs_59_16, hc_60, hf_60_0, hf_60_1, hf_60_2, hf_60_3, hf_60_4, hf_60_5, hf_60_6, hf_60_7, hg_60_8, hs_60_8, hg_60_9, hs_60_9, hc_69, hf_69_0, hf_69_1, hf_69_2, hf_69_3, hg_69_4, hs_69_4, hg_69_5, hs_69_5, hc_74, hf_74_0, hf_74_1, hf_74_2, hf_74_3, hf_74_4, hg_74_5, hs_74_5, hc_83, hf_83_0, hg_83_1, hs_83_1, hg_83_2, hs_83_2, hg_83_3, hs_83_3, hc_85, hg_85_0, hs_85_0, hg_85_1, hs_85_1, hg_85_2, hs_85_2, hg_85_3, hs_85_3, hc_86, hf_86_0, hf_86_1, hg_86_2, hs_86_2, hc_90, hg_90_0, hs_90_0, hf_90_1, hf_90_2, hg_90_3, hs_90_3, hf_90_4, hf_90_5, hg_90_6, hs_90_6, hg_90_7, hs_90_7, hg_90_8, hs_90_8, hg_90_9, hs_90_9, hg_90_10, hs_90_10, hg_90_11, hs_90_11, hf_90_12, hg_90_13, hs_90_13, hg_90_14, hs_90_14, hg_90_15, hs_90_15, hg_90_16, hs_90_16, hg_90_17, hs_90_17, hg_90_18, hs_90_18, hg_90_19, hs_90_19, hg_90_20, hs_90_20, hf_90_21, hb_4, hw_4, hl_4, hb_5, hw_5, hl_5, hb_6, hw_6, hl_6, hb_7, hw_7, hl_7, hb_8, hw_8, hl_8, hb_9, hw_9, hl_9, hb_10, hw_10, hl_10, hb_11, hw_11, hl_11, hb_13, hw_13, hl_13, hb_14, hw_14, hl_14, hb_15, hw_15, hl_15, hb_16, hw_16, hl_16, hb_18, hw_18, hl_18, hb_19, hw_19, hl_19, hb_20, hw_20, hl_20, hb_21, hw_21, hl_21, hb_22, hw_22, hl_22, hb_23, hw_23, hl_23, hb_24, hw_24, hl_24, hb_25, hw_25, hl_25, hb_28, hw_28, hl_28, hb_29, hw_29, hl_29, hb_30, hw_30, hl_30, hb_31, hw_31, hl_31, hb_33, hw_33, hl_33, hb_37, hw_37, hl_37, hb_38, hw_38, hl_38, hb_39, hw_39, hl_39, hb_40, hw_40, hl_40, hb_41, hw_41, hl_41, hb_42, hw_42, hl_42, hb_43, hw_43, hl_43, hb_44, hw_44, hl_44, hb_46, hw_46, hl_46, hb_47, hw_47, hl_47, hb_48, hw_48, hl_48, hb_49, hw_49, hl_49, hb_51, hw_51, hl_51, hb_52, hw_52, hl_52, hb_53, hw_53, hl_53, hb_54, hw_54, hl_54, hb_55, hw_55, hl_55, hb_56, hw_56, hl_56, hb_57, hw_57, hl_57, hb_58, hw_58, hl_58, hb_61, hw_61, hl_61, hb_62, hw_62, hl_62, hb_63, hw_63, hl_63, hb_64, hw_64, hl_64, hb_65, hw_65, hl_65, hb_66, hw_66, hl_66, hb_67, hw_67, hl_67, hb_68, hw_68, hl_68, hb_70, hw_70, hl_70, hb_71, hw_71, hl_71, hb_72, hw_72, hl_72, hb_73, hw_73, hl_73, hb_75, hw_75, hl_75, hb_76, hw_76, hl_76, hb_77, hw_77, hl_77, hb_78, hw_78, hl_78, hb_79, hw_79, hl_79, hb_80, hw_80, hl_80, hb_81, hw_81, hl_81, hb_82, hw_82, hl_82, hb_84, hw_84, hl_84, hb_87, hw_87, hl_87, hb_88, hw_88, hl_88, hb_89, hw_89, hl_89, hb_91, hw_91, hl_91, hb_92, hw_92, hl_92, hb_93, hw_93, hl_93, hb_94, hw_94, hl_94, hb_95, hw_95, hl_95, hb_96, hw_96, hl_96, Nat.reduceLeDiff, Nat.reduceLT, Nat.le_refl, Bool.false_eq_true, wn_eq, wn_lt, wn_le, wg_wrp10, wg_wrp9, m9, m8, m7, m6, h4, h6, h7, pm_b_i, and_self]
        · have h7 : lo ≤ -z := Int32.not_lt.mp h6
          simp (disch := omega) only [e_160, k_160_0, k_160_1, k_160_4, k_160_5, k_160_8, k_160_9, k_160_10, k_160_11, k_160_13, k_160_16, k_160_17, k_160_18, k_160_21, k_160_22, k_160_25, k_160_27, k_160_28, k_160_29, k_160_30, k_160_31, k_160_34, k_160_36, k_160_37, k_160_40, k_160_42, k_160_43, k_160_46, k_160_48, k_160_50, k_160_51, k_160_54, k_160_55, k_160_58, k_160_60, k_160_61, k_160_64, k_160_65, k_160_67, k_160_70, k_160_72, wif_t, wz01_0, wz01_1, wz01_b, pm_op_s, wk_s, wk_n, pm_b_wn0, pm_b_wn1, wn_add, wn_mul, wg_st, and_true, true_and, and_false, false_and, not_true_eq_false, not_false_eq_true, if_true, if_false, ↓reduceIte, Nat.reduceEqDiff, Nat.reduceAdd, Nat.reduceMul, Nat.add_zero, Nat.zero_add, Classical.not_not, eq_self, hc_0, hf_0_0, hf_0_1, hf_0_2, hf_0_3, hf_0_4, hf_0_5, hf_0_6, hf_0_7, hf_0_8, hf_0_9, hg_0_10, hs_0_10, hg_0_11, hs_0_11, hc_1, hf_1_0, hc_2, hf_2_0, hf_2_1, hf_2_2, hf_2_3, hf_2_4, hf_2_5, hg_2_6, hs_2_6, hg_2_7, hs_2_7, hg_2_8, hs_2_8, hg_2_9, hs_2_9, hg_2_10, hs_2_10, hg_2_11, hs_2_11, hg_2_12, hs_2_12, hg_2_13, hs_2_13, hg_2_14, hs_2_14, hg_2_15, hs_2_15, hg_2_16, hs_2_16, hc_3, hf_3_0, hf_3_1, hf_3_2, hf_3_3, hf_3_4, hf_3_5, hf_3_6, hf_3_7, hg_3_8, hs_3_8, hg_3_9, hs_3_9, hc_12, hf_12_0, hf_12_1, hf_12_2, hf_12_3, hg_12_4, hs_12_4, hg_12_5, hs_12_5, hc_17, hf_17_0, hf_17_1, hf_17_2, hf_17_3, hf_17_4, hg_17_5, hs_17_5, hc_26, hf_26_0, hc_27, hf_27_0, hf_27_1, hf_27_2, hf_27_3, hg_27_4, hs_27_4, hg_27_5, hs_27_5, hc_32, hf_32_0, hg_32_1, hs_32_1, hg_32_2, hs_32_2, hg_32_3, hs_32_3, hc_34, hf_34_0, hf_34_1, hg_34_2, hs_34_2, hg_34_3, hs_34_3, hg_34_4, hs_34_4, hg_34_5, hs_34_5, hg_34_6, hs_34_6, hg_34_7, hs_34_7, hc_35, hf_35_0, hf_35_1, hf_35_2, hf_35_3, hf_35_4, hf_35_5, hg_35_6, hs_35_6, hg_35_7, hs_35_7, hg_35_8, hs_35_8, hg_35_9, hs_35_9, hg_35_10, hs_35_10, hg_35_11, hs_35_11, hg_35_12, hs_35_12, hg_35_13, hs_35_13, hg_35_14, hs_35_14, hg_35_15, hs_35_15, hg_35_16, hs_35_16, hc_36, hf_36_0, hf_36_1, hf_36_2, hf_36_3, hf_36_4, hf_36_5, hf_36_6, hf_36_7, hg_36_8, hs_36_8, hg_36_9, hs_36_9, hc_45, hf_45_0, hf_45_1, hf_45_2, hf_45_3, hg_45_4, hs_45_4, hg_45_5, hs_45_5, hc_50, hf_50_0, hf_50_1, hf_50_2, hf_50_3, hf_50_4, hg_50_5, hs_50_5, hc_59, hf_59_0, hf_59_1, hf_59_2, hf_59_3, hf_59_4, hf_59_5, hg_59_6, hs_59_6, hg_59_7, hs_59_7, hg_59_8, hs_59_8, hg_59_9, hs_59_9, hg_59_10, hs_59_10, hg_59_11, hs_59_11, hg_59_12, hs_59_12, hg_59_13, hs_59_13, hg_59_14, hs_59_14, hg_59_15, hs_59_15, hg_59_16, hs_59_16, hc_60, hf_60_0, hf_60_1, hf_60_2, hf_60_3, hf_60_4, hf_60_5, hf_60_6, hf_60_7, hg_60_8, hs_60_8, hg_60_9, hs_60_9, hc_69, hf_69_0, hf_69_1, hf_69_2, hf_69_3, hg_69_4, hs_69_4, hg_69_5, hs_69_5, hc_74, hf_74_0, hf_74_1, hf_74_2, hf_74_3, hf_74_4, hg_74_5, hs_74_5, hc_83, hf_83_0, hg_83_1, hs_83_1, hg_83_2, hs_83_2, hg_83_3, hs_83_3, hc_85, hg_85_0, hs_85_0, hg_85_1, hs_85_1, hg_85_2, hs_85_2, hg_85_3, hs_85_3, hc_86, hf_86_0, hf_86_1, hg_86_2, hs_86_2, hc_90, hg_90_0, hs_90_0, hf_90_1, hf_90_2, hg_90_3, hs_90_3, hf_90_4, hf_90_5, hg_90_6, hs_90_6, hg_90_7, hs_90_7, hg_90_8, hs_90_8, hg_90_9, hs_90_9, hg_90_10, hs_90_10, hg_90_11, hs_90_11, hf_90_12, hg_90_13, hs_90_13, hg_90_14, hs_90_14, hg_90_15, hs_90_15, hg_90_16, hs_90_16, hg_90_17, hs_90_17, hg_90_18, hs_90_18, hg_90_19, hs_90_19, hg_90_20, hs_90_20, hf_90_21, hb_4, hw_4, hl_4, hb_5, hw_5, hl_5, hb_6, hw_6, hl_6, hb_7, hw_7, hl_7, hb_8, hw_8, hl_8, hb_9, hw_9, hl_9, hb_10, hw_10, hl_10, hb_11, hw_11, hl_11, hb_13, hw_13, hl_13, hb_14, hw_14, hl_14, hb_15, hw_15, hl_15, hb_16, hw_16, hl_16, hb_18, hw_18, hl_18, hb_19, hw_19, hl_19, hb_20, hw_20, hl_20, hb_21, hw_21, hl_21, hb_22, hw_22, hl_22, hb_23, hw_23, hl_23, hb_24, hw_24, hl_24, hb_25, hw_25, hl_25, hb_28, hw_28, hl_28, hb_29, hw_29, hl_29, hb_30, hw_30, hl_30, hb_31, hw_31, hl_31, hb_33, hw_33, hl_33, hb_37, hw_37, hl_37, hb_38, hw_38, hl_38, hb_39, hw_39, hl_39, hb_40, hw_40, hl_40, hb_41, hw_41, hl_41, hb_42, hw_42, hl_42, hb_43, hw_43, hl_43, hb_44, hw_44, hl_44, hb_46, hw_46, hl_46, hb_47, hw_47, hl_47, hb_48, hw_48, hl_48, hb_49, hw_49, hl_49, hb_51, hw_51, hl_51, hb_52, hw_52, hl_52, hb_53, hw_53, hl_53, hb_54, hw_54, hl_54, hb_55, hw_55, hl_55, hb_56, hw_56, hl_56, hb_57, hw_57, hl_57, hb_58, hw_58, hl_58, hb_61, hw_61, hl_61, hb_62, hw_62, hl_62, hb_63, hw_63, hl_63, hb_64, hw_64, hl_64, hb_65, hw_65, hl_65, hb_66, hw_66, hl_66, hb_67, hw_67, hl_67, hb_68, hw_68, hl_68, hb_70, hw_70, hl_70, hb_71, hw_71, hl_71, hb_72, hw_72, hl_72, hb_73, hw_73, hl_73, hb_75, hw_75, hl_75, hb_76, hw_76, hl_76, hb_77, hw_77, hl_77, hb_78, hw_78, hl_78, hb_79, hw_79, hl_79, hb_80, hw_80, hl_80, hb_81, hw_81, hl_81, hb_82, hw_82, hl_82, hb_84, hw_84, hl_84, hb_87, hw_87, hl_87, hb_88, hw_88, hl_88, hb_89, hw_89, hl_89, hb_91, hw_91, hl_91, hb_92, hw_92, hl_92, hb_93, hw_93, hl_93, hb_94, hw_94, hl_94, hb_95, hw_95, hl_95, hb_96, hw_96, hl_96, Nat.reduceLeDiff, Nat.reduceLT, Nat.le_refl, Bool.false_eq_true, wn_eq, wn_lt, wn_le, wg_wrp10, wg_wrp9, m9, m8, m7, m6, h4, h6, h7, pm_b_i]
      | false =>
        by_cases h6 : z < lo
        · have h7 : ¬ lo ≤ z := Int32.not_le.mpr h6
          simp (disch := omega) only [e_160, k_160_0, k_160_1, k_160_4, k_160_5, k_160_8, k_160_9, k_160_10, k_160_11, k_160_13, k_160_16, k_160_17, k_160_18, k_160_21, k_160_22, k_160_25, k_160_27, k_160_28, k_160_29, k_160_30, k_160_31, k_160_34, k_160_36, k_160_37, k_160_40, k_160_42, k_160_43, k_160_46, k_160_48, k_160_50, k_160_51, k_160_54, k_160_55, k_160_58, k_160_60, k_160_61, k_160_64, k_160_65, k_160_67, k_160_70, k_160_72, wif_t, wz01_0, wz01_1, wz01_b, pm_op_s, wk_s, wk_n, pm_b_wn0, pm_b_wn1, wn_add, wn_mul, wg_st, and_true, true_and, and_false, false_and, not_true_eq_false, not_false_eq_true, if_true, if_false, ↓reduceIte, Nat.reduceEqDiff, Nat.reduceAdd, Nat.reduceMul, Nat.add_zero, Nat.zero_add, Classical.not_not, eq_self, hc_0, hf_0_0, hf_0_1, hf_0_2, hf_0_3, hf_0_4, hf_0_5, hf_0_6, hf_0_7, hf_0_8, hf_0_9, hg_0_10, hs_0_10, hg_0_11, hs_0_11, hc_1, hf_1_0, hc_2, hf_2_0, hf_2_1, hf_2_2, hf_2_3, hf_2_4, hf_2_5, hg_2_6, hs_2_6, hg_2_7, hs_2_7, hg_2_8, hs_2_8, hg_2_9, hs_2_9, hg_2_10, hs_2_10, hg_2_11, hs_2_11, hg_2_12, hs_2_12, hg_2_13, hs_2_13, hg_2_14, hs_2_14, hg_2_15, hs_2_15, hg_2_16, hs_2_16, hc_3, hf_3_0, hf_3_1, hf_3_2, hf_3_3, hf_3_4, hf_3_5, hf_3_6, hf_3_7, hg_3_8, hs_3_8, hg_3_9, hs_3_9, hc_12, hf_12_0, hf_12_1, hf_12_2, hf_12_3, hg_12_4, hs_12_4, hg_12_5, hs_12_5, hc_17, hf_17_0, hf_17_1, hf_17_2, hf_17_3, hf_17_4, hg_17_5, hs_17_5, hc_26, hf_26_0, hc_27, hf_27_0, hf_27_1, hf_27_2, hf_27_3, hg_27_4, hs_27_4, hg_27_5, hs_27_5, hc_32, hf_32_0, hg_32_1, hs_32_1, hg_32_2, hs_32_2, hg_32_3, hs_32_3, hc_34, hf_34_0, hf_34_1, hg_34_2, hs_34_2, hg_34_3, hs_34_3, hg_34_4, hs_34_4, hg_34_5, hs_34_5, hg_34_6, hs_34_6, hg_34_7, hs_34_7, hc_35, hf_35_0, hf_35_1, hf_35_2, hf_35_3, hf_35_4, hf_35_5, hg_35_6, hs_35_6, hg_35_7, hs_35_7, hg_35_8, hs_35_8, hg_35_9, hs_35_9, hg_35_10, hs_35_10, hg_35_11, hs_35_11, hg_35_12, hs_35_12, hg_35_13, hs_35_13, hg_35_14, hs_35_14, hg_35_15, hs_35_15, hg_35_16, hs_35_16, hc_36, hf_36_0, hf_36_1, hf_36_2, hf_36_3, hf_36_4, hf_36_5, hf_36_6, hf_36_7, hg_36_8, hs_36_8, hg_36_9, hs_36_9, hc_45, hf_45_0, hf_45_1, hf_45_2, hf_45_3, hg_45_4, hs_45_4, hg_45_5, hs_45_5, hc_50, hf_50_0, hf_50_1, hf_50_2, hf_50_3, hf_50_4, hg_50_5, hs_50_5, hc_59, hf_59_0, hf_59_1, hf_59_2, hf_59_3, hf_59_4, hf_59_5, hg_59_6, hs_59_6, hg_59_7, hs_59_7, hg_59_8, hs_59_8, hg_59_9, hs_59_9, hg_59_10, hs_59_10, hg_59_11, hs_59_11, hg_59_12, hs_59_12, hg_59_13, hs_59_13, hg_59_14, hs_59_14, hg_59_15, hs_59_15, hg_59_16, hs_59_16, hc_60, hf_60_0, hf_60_1, hf_60_2, hf_60_3, hf_60_4, hf_60_5, hf_60_6, hf_60_7, hg_60_8, hs_60_8, hg_60_9, hs_60_9, hc_69, hf_69_0, hf_69_1, hf_69_2, hf_69_3, hg_69_4, hs_69_4, hg_69_5, hs_69_5, hc_74, hf_74_0, hf_74_1, hf_74_2, hf_74_3, hf_74_4, hg_74_5, hs_74_5, hc_83, hf_83_0, hg_83_1, hs_83_1, hg_83_2, hs_83_2, hg_83_3, hs_83_3, hc_85, hg_85_0, hs_85_0, hg_85_1, hs_85_1, hg_85_2, hs_85_2, hg_85_3, hs_85_3, hc_86, hf_86_0, hf_86_1, hg_86_2, hs_86_2, hc_90, hg_90_0, hs_90_0, hf_90_1, hf_90_2, hg_90_3, hs_90_3, hf_90_4, hf_90_5, hg_90_6, hs_90_6, hg_90_7, hs_90_7, hg_90_8, hs_90_8, hg_90_9, hs_90_9, hg_90_10, hs_90_10, hg_90_11, hs_90_11, hf_90_12, hg_90_13, hs_90_13, hg_90_14, hs_90_14, hg_90_15, hs_90_15, hg_90_16, hs_90_16, hg_90_17, hs_90_17, hg_90_18, hs_90_18, hg_90_19, hs_90_19, hg_90_20, hs_90_20, hf_90_21, hb_4, hw_4, hl_4, hb_5, hw_5, hl_5, hb_6, hw_6, hl_6, hb_7, hw_7, hl_7, hb_8, hw_8, hl_8, hb_9, hw_9, hl_9, hb_10, hw_10, hl_10, hb_11, hw_11, hl_11, hb_13, hw_13, hl_13, hb_14, hw_14, hl_14, hb_15, hw_15, hl_15, hb_16, hw_16, hl_16, hb_18, hw_18, hl_18, hb_19, hw_19, hl_19, hb_20, hw_20, hl_20, hb_21, hw_21, hl_21, hb_22, hw_22, hl_22, hb_23, hw_23, hl_23, hb_24, hw_24, hl_24, hb_25, hw_25, hl_25, hb_28, hw_28, hl_28, hb_29, hw_29, hl_29, hb_30, hw_30, hl_30, hb_31, hw_31, hl_31, hb_33, hw_33, hl_33, hb_37, hw_37, hl_37, hb_38, hw_38, hl_38, hb_39, hw_39, hl_39, hb_40, hw_40, hl_40, hb_41, hw_41, hl_41, hb_42, hw_42, hl_42, hb_43, hw_43, hl_43, hb_44, hw_44, hl_44, hb_46, hw_46, hl_46, hb_47, hw_47, hl_47, hb_48, hw_48, hl_48, hb_49, hw_49, hl_49, hb_51, hw_51, hl_51, hb_52, hw_52, hl_52, hb_53, hw_53, hl_53, hb_54, hw_54, hl_54, hb_55, hw_55, hl_55, hb_56, hw_56, hl_56, hb_57, hw_57, hl_57, hb_58, hw_58, hl_58, hb_61, hw_61, hl_61, hb_62, hw_62, hl_62, hb_63, hw_63, hl_63, hb_64, hw_64, hl_64, hb_65, hw_65, hl_65, hb_66, hw_66, hl_66, hb_67, hw_67, hl_67, hb_68, hw_68, hl_68, hb_70, hw_70, hl_70, hb_71, hw_71, hl_71, hb_72, hw_72, hl_72, hb_73, hw_73, hl_73, hb_75, hw_75, hl_75, hb_76, hw_76, hl_76, hb_77, hw_77, hl_77, hb_78, hw_78, hl_78, hb_79, hw_79, hl_79, hb_80, hw_80, hl_80, hb_81, hw_81, hl_81, hb_82, hw_82, hl_82, hb_84, hw_84, hl_84, hb_87, hw_87, hl_87, hb_88, hw_88, hl_88, hb_89, hw_89, hl_89, hb_91, hw_91, hl_91, hb_92, hw_92, hl_92, hb_93, hw_93, hl_93, hb_94, hw_94, hl_94, hb_95, hw_95, hl_95, hb_96, hw_96, hl_96, Nat.reduceLeDiff, Nat.reduceLT, Nat.le_refl, Bool.false_eq_true, wn_eq, wn_lt, wn_le, wg_wrp10, wg_wrp9, m9, m8, m7, m6, h4, h6, h7, pm_b_i, and_self]
        · have h7 : lo ≤ z := Int32.not_lt.mp h6
          simp (disch := omega) only [e_160, k_160_0, k_160_1, k_160_4, k_160_5, k_160_8, k_160_9, k_160_10, k_160_11, k_160_13, k_160_16, k_160_17, k_160_18, k_160_21, k_160_22, k_160_25, k_160_27, k_160_28, k_160_29, k_160_30, k_160_31, k_160_34, k_160_36, k_160_37, k_160_40, k_160_42, k_160_43, k_160_46, k_160_48, k_160_50, k_160_51, k_160_54, k_160_55, k_160_58, k_160_60, k_160_61, k_160_64, k_160_65, k_160_67, k_160_70, k_160_72, wif_t, wz01_0, wz01_1, wz01_b, pm_op_s, wk_s, wk_n, pm_b_wn0, pm_b_wn1, wn_add, wn_mul, wg_st, and_true, true_and, and_false, false_and, not_true_eq_false, not_false_eq_true, if_true, if_false, ↓reduceIte, Nat.reduceEqDiff, Nat.reduceAdd, Nat.reduceMul, Nat.add_zero, Nat.zero_add, Classical.not_not, eq_self, hc_0, hf_0_0, hf_0_1, hf_0_2, hf_0_3, hf_0_4, hf_0_5, hf_0_6, hf_0_7, hf_0_8, hf_0_9, hg_0_10, hs_0_10, hg_0_11, hs_0_11, hc_1, hf_1_0, hc_2, hf_2_0, hf_2_1, hf_2_2, hf_2_3, hf_2_4, hf_2_5, hg_2_6, hs_2_6, hg_2_7, hs_2_7, hg_2_8, hs_2_8, hg_2_9, hs_2_9, hg_2_10, hs_2_10, hg_2_11, hs_2_11, hg_2_12, hs_2_12, hg_2_13, hs_2_13, hg_2_14, hs_2_14, hg_2_15, hs_2_15, hg_2_16, hs_2_16, hc_3, hf_3_0, hf_3_1, hf_3_2, hf_3_3, hf_3_4, hf_3_5, hf_3_6, hf_3_7, hg_3_8, hs_3_8, hg_3_9, hs_3_9, hc_12, hf_12_0, hf_12_1, hf_12_2, hf_12_3, hg_12_4, hs_12_4, hg_12_5, hs_12_5, hc_17, hf_17_0, hf_17_1, hf_17_2, hf_17_3, hf_17_4, hg_17_5, hs_17_5, hc_26, hf_26_0, hc_27, hf_27_0, hf_27_1, hf_27_2, hf_27_3, hg_27_4, hs_27_4, hg_27_5, hs_27_5, hc_32, hf_32_0, hg_32_1, hs_32_1, hg_32_2, hs_32_2, hg_32_3, hs_32_3, hc_34, hf_34_0, hf_34_1, hg_34_2, hs_34_2, hg_34_3, hs_34_3, hg_34_4, hs_34_4, hg_34_5, hs_34_5, hg_34_6, hs_34_6, hg_34_7, hs_34_7, hc_35, hf_35_0, hf_35_1, hf_35_2, hf_35_3, hf_35_4, hf_35_5, hg_35_6, hs_35_6, hg_35_7, hs_35_7, hg_35_8, hs_35_8, hg_35_9, hs_35_9, hg_35_10, hs_35_10, hg_35_11, hs_35_11, hg_35_12, hs_35_12, hg_35_13, hs_35_13, hg_35_14, hs_35_14, hg_35_15, hs_35_15, hg_35_16, hs_35_16, hc_36, hf_36_0, hf_36_1, hf_36_2, hf_36_3, hf_36_4, hf_36_5, hf_36_6, hf_36_7, hg_36_8, hs_36_8, hg_36_9, hs_36_9, hc_45, hf_45_0, hf_45_1, hf_45_2, hf_45_3, hg_45_4, hs_45_4, hg_45_5, hs_45_5, hc_50, hf_50_0, hf_50_1, hf_50_2, hf_50_3, hf_50_4, hg_50_5, hs_50_5, hc_59, hf_59_0, hf_59_1, hf_59_2, hf_59_3, hf_59_4, hf_59_5, hg_59_6, hs_59_6, hg_59_7, hs_59_7, hg_59_8, hs_59_8, hg_59_9, hs_59_9, hg_59_10, hs_59_10, hg_59_11, hs_59_11, hg_59_12, hs_59_12, hg_59_13, hs_59_13, hg_59_14, hs_59_14, hg_59_15, hs_59_15, hg_59_16, hs_59_16, hc_60, hf_60_0, hf_60_1, hf_60_2, hf_60_3, hf_60_4, hf_60_5, hf_60_6, hf_60_7, hg_60_8, hs_60_8, hg_60_9, hs_60_9, hc_69, hf_69_0, hf_69_1, hf_69_2, hf_69_3, hg_69_4, hs_69_4, hg_69_5, hs_69_5, hc_74, hf_74_0, hf_74_1, hf_74_2, hf_74_3, hf_74_4, hg_74_5, hs_74_5, hc_83, hf_83_0, hg_83_1, hs_83_1, hg_83_2, hs_83_2, hg_83_3, hs_83_3, hc_85, hg_85_0, hs_85_0, hg_85_1, hs_85_1, hg_85_2, hs_85_2, hg_85_3, hs_85_3, hc_86, hf_86_0, hf_86_1, hg_86_2, hs_86_2, hc_90, hg_90_0, hs_90_0, hf_90_1, hf_90_2, hg_90_3, hs_90_3, hf_90_4, hf_90_5, hg_90_6, hs_90_6, hg_90_7, hs_90_7, hg_90_8, hs_90_8, hg_90_9, hs_90_9, hg_90_10, hs_90_10, hg_90_11, hs_90_11, hf_90_12, hg_90_13, hs_90_13, hg_90_14, hs_90_14, hg_90_15, hs_90_15, hg_90_16, hs_90_16, hg_90_17, hs_90_17, hg_90_18, hs_90_18, hg_90_19, hs_90_19, hg_90_20, hs_90_20, hf_90_21, hb_4, hw_4, hl_4, hb_5, hw_5, hl_5, hb_6, hw_6, hl_6, hb_7, hw_7, hl_7, hb_8, hw_8, hl_8, hb_9, hw_9, hl_9, hb_10, hw_10, hl_10, hb_11, hw_11, hl_11, hb_13, hw_13, hl_13, hb_14, hw_14, hl_14, hb_15, hw_15, hl_15, hb_16, hw_16, hl_16, hb_18, hw_18, hl_18, hb_19, hw_19, hl_19, hb_20, hw_20, hl_20, hb_21, hw_21, hl_21, hb_22, hw_22, hl_22, hb_23, hw_23, hl_23, hb_24, hw_24, hl_24, hb_25, hw_25, hl_25, hb_28, hw_28, hl_28, hb_29, hw_29, hl_29, hb_30, hw_30, hl_30, hb_31, hw_31, hl_31, hb_33, hw_33, hl_33, hb_37, hw_37, hl_37, hb_38, hw_38, hl_38, hb_39, hw_39, hl_39, hb_40, hw_40, hl_40, hb_41, hw_41, hl_41, hb_42, hw_42, hl_42, hb_43, hw_43, hl_43, hb_44, hw_44, hl_44, hb_46, hw_46, hl_46, hb_47, hw_47, hl_47, hb_48, hw_48, hl_48, hb_49, hw_49, hl_49, hb_51, hw_51, hl_51, hb_52, hw_52, hl_52, hb_53, hw_53, hl_53, hb_54, hw_54, hl_54, hb_55, hw_55, hl_55, hb_56, hw_56, hl_56, hb_57, hw_57, hl_57, hb_58, hw_58, hl_58, hb_61, hw_61, hl_61, hb_62, hw_62, hl_62, hb_63, hw_63, hl_63, hb_64, hw_64, hl_64, hb_65, hw_65, hl_65, hb_66, hw_66, hl_66, hb_67, hw_67, hl_67, hb_68, hw_68, hl_68, hb_70, hw_70, hl_70, hb_71, hw_71, hl_71, hb_72, hw_72, hl_72, hb_73, hw_73, hl_73, hb_75, hw_75, hl_75, hb_76, hw_76, hl_76, hb_77, hw_77, hl_77, hb_78, hw_78, hl_78, hb_79, hw_79, hl_79, hb_80, hw_80, hl_80, hb_81, hw_81, hl_81, hb_82, hw_82, hl_82, hb_84, hw_84, hl_84, hb_87, hw_87, hl_87, hb_88, hw_88, hl_88, hb_89, hw_89, hl_89, hb_91, hw_91, hl_91, hb_92, hw_92, hl_92, hb_93, hw_93, hl_93, hb_94, hw_94, hl_94, hb_95, hw_95, hl_95, hb_96, hw_96, hl_96, Nat.reduceLeDiff, Nat.reduceLT, Nat.le_refl, Bool.false_eq_true, wn_eq, wn_lt, wn_le, wg_wrp10, wg_wrp9, m9, m8, m7, m6, h4, h6, h7, pm_b_i]
    · cases h4 : rW T n 2043 p with
      | true => simp (disch := omega) only [e_160, k_160_0, k_160_1, k_160_4, k_160_5, k_160_8, k_160_9, k_160_10, k_160_11, k_160_13, k_160_16, k_160_17, k_160_18, k_160_21, k_160_22, k_160_25, k_160_27, k_160_28, k_160_29, k_160_30, k_160_31, k_160_34, k_160_36, k_160_37, k_160_40, k_160_42, k_160_43, k_160_46, k_160_48, k_160_50, k_160_51, k_160_54, k_160_55, k_160_58, k_160_60, k_160_61, k_160_64, k_160_65, k_160_67, k_160_70, k_160_72, wif_t, wz01_0, wz01_1, wz01_b, pm_op_s, wk_s, wk_n, pm_b_wn0, pm_b_wn1, wn_add, wn_mul, wg_st, and_true, true_and, and_false, false_and, not_true_eq_false, not_false_eq_true, if_true, if_false, ↓reduceIte, Nat.reduceEqDiff, Nat.reduceAdd, Nat.reduceMul, Nat.add_zero, Nat.zero_add, Classical.not_not, eq_self, hc_0, hf_0_0, hf_0_1, hf_0_2, hf_0_3, hf_0_4, hf_0_5, hf_0_6, hf_0_7, hf_0_8, hf_0_9, hg_0_10, hs_0_10, hg_0_11, hs_0_11, hc_1, hf_1_0, hc_2, hf_2_0, hf_2_1, hf_2_2, hf_2_3, hf_2_4, hf_2_5, hg_2_6, hs_2_6, hg_2_7, hs_2_7, hg_2_8, hs_2_8, hg_2_9, hs_2_9, hg_2_10, hs_2_10, hg_2_11, hs_2_11, hg_2_12, hs_2_12, hg_2_13, hs_2_13, hg_2_14, hs_2_14, hg_2_15, hs_2_15, hg_2_16, hs_2_16, hc_3, hf_3_0, hf_3_1, hf_3_2, hf_3_3, hf_3_4, hf_3_5, hf_3_6, hf_3_7, hg_3_8, hs_3_8, hg_3_9, hs_3_9, hc_12, hf_12_0, hf_12_1, hf_12_2, hf_12_3, hg_12_4, hs_12_4, hg_12_5, hs_12_5, hc_17, hf_17_0, hf_17_1, hf_17_2, hf_17_3, hf_17_4, hg_17_5, hs_17_5, hc_26, hf_26_0, hc_27, hf_27_0, hf_27_1, hf_27_2, hf_27_3, hg_27_4, hs_27_4, hg_27_5, hs_27_5, hc_32, hf_32_0, hg_32_1, hs_32_1, hg_32_2, hs_32_2, hg_32_3, hs_32_3, hc_34, hf_34_0, hf_34_1, hg_34_2, hs_34_2, hg_34_3, hs_34_3, hg_34_4, hs_34_4, hg_34_5, hs_34_5, hg_34_6, hs_34_6, hg_34_7, hs_34_7, hc_35, hf_35_0, hf_35_1, hf_35_2, hf_35_3, hf_35_4, hf_35_5, hg_35_6, hs_35_6, hg_35_7, hs_35_7, hg_35_8, hs_35_8, hg_35_9, hs_35_9, hg_35_10, hs_35_10, hg_35_11, hs_35_11, hg_35_12, hs_35_12, hg_35_13, hs_35_13, hg_35_14, hs_35_14, hg_35_15, hs_35_15, hg_35_16, hs_35_16, hc_36, hf_36_0, hf_36_1, hf_36_2, hf_36_3, hf_36_4, hf_36_5, hf_36_6, hf_36_7, hg_36_8, hs_36_8, hg_36_9, hs_36_9, hc_45, hf_45_0, hf_45_1, hf_45_2, hf_45_3, hg_45_4, hs_45_4, hg_45_5, hs_45_5, hc_50, hf_50_0, hf_50_1, hf_50_2, hf_50_3, hf_50_4, hg_50_5, hs_50_5, hc_59, hf_59_0, hf_59_1, hf_59_2, hf_59_3, hf_59_4, hf_59_5, hg_59_6, hs_59_6, hg_59_7, hs_59_7, hg_59_8, hs_59_8, hg_59_9, hs_59_9, hg_59_10, hs_59_10, hg_59_11, hs_59_11, hg_59_12, hs_59_12, hg_59_13, hs_59_13, hg_59_14, hs_59_14, hg_59_15, hs_59_15, hg_59_16, hs_59_16, hc_60, hf_60_0, hf_60_1, hf_60_2, hf_60_3, hf_60_4, hf_60_5, hf_60_6, hf_60_7, hg_60_8, hs_60_8, hg_60_9, hs_60_9, hc_69, hf_69_0, hf_69_1, hf_69_2, hf_69_3, hg_69_4, hs_69_4, hg_69_5, hs_69_5, hc_74, hf_74_0, hf_74_1, hf_74_2, hf_74_3, hf_74_4, hg_74_5, hs_74_5, hc_83, hf_83_0, hg_83_1, hs_83_1, hg_83_2, hs_83_2, hg_83_3, hs_83_3, hc_85, hg_85_0, hs_85_0, hg_85_1, hs_85_1, hg_85_2, hs_85_2, hg_85_3, hs_85_3, hc_86, hf_86_0, hf_86_1, hg_86_2, hs_86_2, hc_90, hg_90_0, hs_90_0, hf_90_1, hf_90_2, hg_90_3, hs_90_3, hf_90_4, hf_90_5, hg_90_6, hs_90_6, hg_90_7, hs_90_7, hg_90_8, hs_90_8, hg_90_9, hs_90_9, hg_90_10, hs_90_10, hg_90_11, hs_90_11, hf_90_12, hg_90_13, hs_90_13, hg_90_14, hs_90_14, hg_90_15, hs_90_15, hg_90_16, hs_90_16, hg_90_17, hs_90_17, hg_90_18, hs_90_18, hg_90_19, hs_90_19, hg_90_20, hs_90_20, hf_90_21, hb_4, hw_4, hl_4, hb_5, hw_5, hl_5, hb_6, hw_6, hl_6, hb_7, hw_7, hl_7, hb_8, hw_8, hl_8, hb_9, hw_9, hl_9, hb_10, hw_10, hl_10, hb_11, hw_11, hl_11, hb_13, hw_13, hl_13, hb_14, hw_14, hl_14, hb_15, hw_15, hl_15, hb_16, hw_16, hl_16, hb_18, hw_18, hl_18, hb_19, hw_19, hl_19, hb_20, hw_20, hl_20, hb_21, hw_21, hl_21, hb_22, hw_22, hl_22, hb_23, hw_23, hl_23, hb_24, hw_24, hl_24, hb_25, hw_25, hl_25, hb_28, hw_28, hl_28, hb_29, hw_29, hl_29, hb_30, hw_30, hl_30, hb_31, hw_31, hl_31, hb_33, hw_33, hl_33, hb_37, hw_37, hl_37, hb_38, hw_38, hl_38, hb_39, hw_39, hl_39, hb_40, hw_40, hl_40, hb_41, hw_41, hl_41, hb_42, hw_42, hl_42, hb_43, hw_43, hl_43, hb_44, hw_44, hl_44, hb_46, hw_46, hl_46, hb_47, hw_47, hl_47, hb_48, hw_48, hl_48, hb_49, hw_49, hl_49, hb_51, hw_51, hl_51, hb_52, hw_52, hl_52, hb_53, hw_53, hl_53, hb_54, hw_54, hl_54, hb_55, hw_55, hl_55, hb_56, hw_56, hl_56, hb_57, hw_57, hl_57, hb_58, hw_58, hl_58, hb_61, hw_61, hl_61, hb_62, hw_62, hl_62, hb_63, hw_63, hl_63, hb_64, hw_64, hl_64, hb_65, hw_65, hl_65, hb_66, hw_66, hl_66, hb_67, hw_67, hl_67, hb_68, hw_68, hl_68, hb_70, hw_70, hl_70, hb_71, hw_71, hl_71, hb_72, hw_72, hl_72, hb_73, hw_73, hl_73, hb_75, hw_75, hl_75, hb_76, hw_76, hl_76, hb_77, hw_77, hl_77, hb_78, hw_78, hl_78, hb_79, hw_79, hl_79, hb_80, hw_80, hl_80, hb_81, hw_81, hl_81, hb_82, hw_82, hl_82, hb_84, hw_84, hl_84, hb_87, hw_87, hl_87, hb_88, hw_88, hl_88, hb_89, hw_89, hl_89, hb_91, hw_91, hl_91, hb_92, hw_92, hl_92, hb_93, hw_93, hl_93, hb_94, hw_94, hl_94, hb_95, hw_95, hl_95, hb_96, hw_96, hl_96, Nat.reduceLeDiff, Nat.reduceLT, Nat.le_refl, Bool.false_eq_true, wn_eq, wn_lt, wn_le, wg_wrp10, wg_wrp9, m9, m8, m7, h4, h5, pm_b_i]
      | false => simp (disch := omega) only [e_160, k_160_0, k_160_1, k_160_4, k_160_5, k_160_8, k_160_9, k_160_10, k_160_11, k_160_13, k_160_16, k_160_17, k_160_18, k_160_21, k_160_22, k_160_25, k_160_27, k_160_28, k_160_29, k_160_30, k_160_31, k_160_34, k_160_36, k_160_37, k_160_40, k_160_42, k_160_43, k_160_46, k_160_48, k_160_50, k_160_51, k_160_54, k_160_55, k_160_58, k_160_60, k_160_61, k_160_64, k_160_65, k_160_67, k_160_70, k_160_72, wif_t, wz01_0, wz01_1, wz01_b, pm_op_s, wk_s, wk_n, pm_b_wn0, pm_b_wn1, wn_add, wn_mul, wg_st, and_true, true_and, and_false, false_and, not_true_eq_false, not_false_eq_true, if_true, if_false, ↓reduceIte, Nat.reduceEqDiff, Nat.reduceAdd, Nat.reduceMul, Nat.add_zero, Nat.zero_add, Classical.not_not, eq_self, hc_0, hf_0_0, hf_0_1, hf_0_2, hf_0_3, hf_0_4, hf_0_5, hf_0_6, hf_0_7, hf_0_8, hf_0_9, hg_0_10, hs_0_10, hg_0_11, hs_0_11, hc_1, hf_1_0, hc_2, hf_2_0, hf_2_1, hf_2_2, hf_2_3, hf_2_4, hf_2_5, hg_2_6, hs_2_6, hg_2_7, hs_2_7, hg_2_8, hs_2_8, hg_2_9, hs_2_9, hg_2_10, hs_2_10, hg_2_11, hs_2_11, hg_2_12, hs_2_12, hg_2_13, hs_2_13, hg_2_14, hs_2_14, hg_2_15, hs_2_15, hg_2_16, hs_2_16, hc_3, hf_3_0, hf_3_1, hf_3_2, hf_3_3, hf_3_4, hf_3_5, hf_3_6, hf_3_7, hg_3_8, hs_3_8, hg_3_9, hs_3_9, hc_12, hf_12_0, hf_12_1, hf_12_2, hf_12_3, hg_12_4, hs_12_4, hg_12_5, hs_12_5, hc_17, hf_17_0, hf_17_1, hf_17_2, hf_17_3, hf_17_4, hg_17_5, hs_17_5, hc_26, hf_26_0, hc_27, hf_27_0, hf_27_1, hf_27_2, hf_27_3, hg_27_4, hs_27_4, hg_27_5, hs_27_5, hc_32, hf_32_0, hg_32_1, hs_32_1, hg_32_2, hs_32_2, hg_32_3, hs_32_3, hc_34, hf_34_0, hf_34_1, hg_34_2, hs_34_2, hg_34_3, hs_34_3, hg_34_4, hs_34_4, hg_34_5, hs_34_5, hg_34_6, hs_34_6, hg_34_7, hs_34_7, hc_35, hf_35_0, hf_35_1, hf_35_2, hf_35_3, hf_35_4, hf_35_5, hg_35_6, hs_35_6, hg_35_7, hs_35_7, hg_35_8, hs_35_8, hg_35_9, hs_35_9, hg_35_10, hs_35_10, hg_35_11, hs_35_11, hg_35_12, hs_35_12, hg_35_13, hs_35_13, hg_35_14, hs_35_14, hg_35_15, hs_35_15, hg_35_16, hs_35_16, hc_36, hf_36_0, hf_36_1, hf_36_2, hf_36_3, hf_36_4, hf_36_5, hf_36_6, hf_36_7, hg_36_8, hs_36_8, hg_36_9, hs_36_9, hc_45, hf_45_0, hf_45_1, hf_45_2, hf_45_3, hg_45_4, hs_45_4, hg_45_5, hs_45_5, hc_50, hf_50_0, hf_50_1, hf_50_2, hf_50_3, hf_50_4, hg_50_5, hs_50_5, hc_59, hf_59_0, hf_59_1, hf_59_2, hf_59_3, hf_59_4, hf_59_5, hg_59_6, hs_59_6, hg_59_7, hs_59_7, hg_59_8, hs_59_8, hg_59_9, hs_59_9, hg_59_10, hs_59_10, hg_59_11, hs_59_11, hg_59_12, hs_59_12, hg_59_13, hs_59_13, hg_59_14, hs_59_14, hg_59_15, hs_59_15, hg_59_16, hs_59_16, hc_60, hf_60_0, hf_60_1, hf_60_2, hf_60_3, hf_60_4, hf_60_5, hf_60_6, hf_60_7, hg_60_8, hs_60_8, hg_60_9, hs_60_9, hc_69, hf_69_0, hf_69_1, hf_69_2, hf_69_3, hg_69_4, hs_69_4, hg_69_5, hs_69_5, hc_74, hf_74_0, hf_74_1, hf_74_2, hf_74_3, hf_74_4, hg_74_5, hs_74_5, hc_83, hf_83_0, hg_83_1, hs_83_1, hg_83_2, hs_83_2, hg_83_3, hs_83_3, hc_85, hg_85_0, hs_85_0, hg_85_1, hs_85_1, hg_85_2, hs_85_2, hg_85_3, hs_85_3, hc_86, hf_86_0, hf_86_1, hg_86_2, hs_86_2, hc_90, hg_90_0, hs_90_0, hf_90_1, hf_90_2, hg_90_3, hs_90_3, hf_90_4, hf_90_5, hg_90_6, hs_90_6, hg_90_7, hs_90_7, hg_90_8, hs_90_8, hg_90_9, hs_90_9, hg_90_10, hs_90_10, hg_90_11, hs_90_11, hf_90_12, hg_90_13, hs_90_13, hg_90_14, hs_90_14, hg_90_15, hs_90_15, hg_90_16, hs_90_16, hg_90_17, hs_90_17, hg_90_18, hs_90_18, hg_90_19, hs_90_19, hg_90_20, hs_90_20, hf_90_21, hb_4, hw_4, hl_4, hb_5, hw_5, hl_5, hb_6, hw_6, hl_6, hb_7, hw_7, hl_7, hb_8, hw_8, hl_8, hb_9, hw_9, hl_9, hb_10, hw_10, hl_10, hb_11, hw_11, hl_11, hb_13, hw_13, hl_13, hb_14, hw_14, hl_14, hb_15, hw_15, hl_15, hb_16, hw_16, hl_16, hb_18, hw_18, hl_18, hb_19, hw_19, hl_19, hb_20, hw_20, hl_20, hb_21, hw_21, hl_21, hb_22, hw_22, hl_22, hb_23, hw_23, hl_23, hb_24, hw_24, hl_24, hb_25, hw_25, hl_25, hb_28, hw_28, hl_28, hb_29, hw_29, hl_29, hb_30, hw_30, hl_30, hb_31, hw_31, hl_31, hb_33, hw_33, hl_33, hb_37, hw_37, hl_37, hb_38, hw_38, hl_38, hb_39, hw_39, hl_39, hb_40, hw_40, hl_40, hb_41, hw_41, hl_41, hb_42, hw_42, hl_42, hb_43, hw_43, hl_43, hb_44, hw_44, hl_44, hb_46, hw_46, hl_46, hb_47, hw_47, hl_47, hb_48, hw_48, hl_48, hb_49, hw_49, hl_49, hb_51, hw_51, hl_51, hb_52, hw_52, hl_52, hb_53, hw_53, hl_53, hb_54, hw_54, hl_54, hb_55, hw_55, hl_55, hb_56, hw_56, hl_56, hb_57, hw_57, hl_57, hb_58, hw_58, hl_58, hb_61, hw_61, hl_61, hb_62, hw_62, hl_62, hb_63, hw_63, hl_63, hb_64, hw_64, hl_64, hb_65, hw_65, hl_65, hb_66, hw_66, hl_66, hb_67, hw_67, hl_67, hb_68, hw_68, hl_68, hb_70, hw_70, hl_70, hb_71, hw_71, hl_71, hb_72, hw_72, hl_72, hb_73, hw_73, hl_73, hb_75, hw_75, hl_75, hb_76, hw_76, hl_76, hb_77, hw_77, hl_77, hb_78, hw_78, hl_78, hb_79, hw_79, hl_79, hb_80, hw_80, hl_80, hb_81, hw_81, hl_81, hb_82, hw_82, hl_82, hb_84, hw_84, hl_84, hb_87, hw_87, hl_87, hb_88, hw_88, hl_88, hb_89, hw_89, hl_89, hb_91, hw_91, hl_91, hb_92, hw_92, hl_92, hb_93, hw_93, hl_93, hb_94, hw_94, hl_94, hb_95, hw_95, hl_95, hb_96, hw_96, hl_96, Nat.reduceLeDiff, Nat.reduceLT, Nat.le_refl, Bool.false_eq_true, wn_eq, wn_lt, wn_le, wg_wrp10, wg_wrp9, m9, m8, m7, h4, h5, pm_b_i]
  · simp (disch := omega) only [e_160, k_160_0, k_160_1, k_160_4, k_160_5, k_160_8, k_160_9, k_160_10, k_160_11, k_160_13, k_160_16, k_160_17, k_160_18, k_160_21, k_160_22, k_160_25, k_160_27, k_160_28, k_160_29, k_160_30, k_160_31, k_160_34, k_160_36, k_160_37, k_160_40, k_160_42, k_160_43, k_160_46, k_160_48, k_160_50, k_160_51, k_160_54, k_160_55, k_160_58, k_160_60, k_160_61, k_160_64, k_160_65, k_160_67, k_160_70, k_160_72, wif_t, wz01_0, wz01_1, wz01_b, pm_op_s, wk_s, wk_n, pm_b_wn0, pm_b_wn1, wn_add, wn_mul, wg_st, and_true, true_and, and_false, false_and, not_true_eq_false, not_false_eq_true, if_true, if_false, ↓reduceIte, Nat.reduceEqDiff, Nat.reduceAdd, Nat.reduceMul, Nat.add_zero, Nat.zero_add, Classical.not_not, eq_self, hc_0, hf_0_0, hf_0_1, hf_0_2, hf_0_3, hf_0_4, hf_0_5, hf_0_6, hf_0_7, hf_0_8, hf_0_9, hg_0_10, hs_0_10, hg_0_11, hs_0_11, hc_1, hf_1_0, hc_2, hf_2_0, hf_2_1, hf_2_2, hf_2_3, hf_2_4, hf_2_5, hg_2_6, hs_2_6, hg_2_7, hs_2_7, hg_2_8, hs_2_8, hg_2_9, hs_2_9, hg_2_10, hs_2_10, hg_2_11, hs_2_11, hg_2_12, hs_2_12, hg_2_13, hs_2_13, hg_2_14, hs_2_14, hg_2_15, hs_2_15, hg_2_16, hs_2_16, hc_3, hf_3_0, hf_3_1, hf_3_2, hf_3_3, hf_3_4, hf_3_5, hf_3_6, hf_3_7, hg_3_8, hs_3_8, hg_3_9, hs_3_9, hc_12, hf_12_0, hf_12_1, hf_12_2, hf_12_3, hg_12_4, hs_12_4, hg_12_5, hs_12_5, hc_17, hf_17_0, hf_17_1, hf_17_2, hf_17_3, hf_17_4, hg_17_5, hs_17_5, hc_26, hf_26_0, hc_27, hf_27_0, hf_27_1, hf_27_2, hf_27_3, hg_27_4, hs_27_4, hg_27_5, hs_27_5, hc_32, hf_32_0, hg_32_1, hs_32_1, hg_32_2, hs_32_2, hg_32_3, hs_32_3, hc_34, hf_34_0, hf_34_1, hg_34_2, hs_34_2, hg_34_3, hs_34_3, hg_34_4, hs_34_4, hg_34_5, hs_34_5, hg_34_6, hs_34_6, hg_34_7, hs_34_7, hc_35, hf_35_0, hf_35_1, hf_35_2, hf_35_3, hf_35_4, hf_35_5, hg_35_6, hs_35_6, hg_35_7, hs_35_7, hg_35_8, hs_35_8, hg_35_9, hs_35_9, hg_35_10, hs_35_10, hg_35_11, hs_35_11, hg_35_12, hs_35_12, hg_35_13, hs_35_13, hg_35_14, hs_35_14, hg_35_15, hs_35_15, hg_35_16, hs_35_16, hc_36, hf_36_0, hf_36_1, hf_36_2, hf_36_3, hf_36_4, hf_36_5, hf_36_6, hf_36_7, hg_36_8, hs_36_8, hg_36_9, hs_36_9, hc_45, hf_45_0, hf_45_1, hf_45_2, hf_45_3, hg_45_4, hs_45_4, hg_45_5, hs_45_5, hc_50, hf_50_0, hf_50_1, hf_50_2, hf_50_3, hf_50_4, hg_50_5, hs_50_5, hc_59, hf_59_0, hf_59_1, hf_59_2, hf_59_3, hf_59_4, hf_59_5, hg_59_6, hs_59_6, hg_59_7, hs_59_7, hg_59_8, hs_59_8, hg_59_9, hs_59_9, hg_59_10, hs_59_10, hg_59_11, hs_59_11, hg_59_12, hs_59_12, hg_59_13, hs_59_13, hg_59_14, hs_59_14, hg_59_15, hs_59_15, hg_59_16, hs_59_16, hc_60, hf_60_0, hf_60_1, hf_60_2, hf_60_3, hf_60_4, hf_60_5, hf_60_6, hf_60_7, hg_60_8, hs_60_8, hg_60_9, hs_60_9, hc_69, hf_69_0, hf_69_1, hf_69_2, hf_69_3, hg_69_4, hs_69_4, hg_69_5, hs_69_5, hc_74, hf_74_0, hf_74_1, hf_74_2, hf_74_3, hf_74_4, hg_74_5, hs_74_5, hc_83, hf_83_0, hg_83_1, hs_83_1, hg_83_2, hs_83_2, hg_83_3, hs_83_3, hc_85, hg_85_0, hs_85_0, hg_85_1, hs_85_1, hg_85_2, hs_85_2, hg_85_3, hs_85_3, hc_86, hf_86_0, hf_86_1, hg_86_2, hs_86_2, hc_90, hg_90_0, hs_90_0, hf_90_1, hf_90_2, hg_90_3, hs_90_3, hf_90_4, hf_90_5, hg_90_6, hs_90_6, hg_90_7, hs_90_7, hg_90_8, hs_90_8, hg_90_9, hs_90_9, hg_90_10, hs_90_10, hg_90_11, hs_90_11, hf_90_12, hg_90_13, hs_90_13, hg_90_14, hs_90_14, hg_90_15, hs_90_15, hg_90_16, hs_90_16, hg_90_17, hs_90_17, hg_90_18, hs_90_18, hg_90_19, hs_90_19, hg_90_20, hs_90_20, hf_90_21, hb_4, hw_4, hl_4, hb_5, hw_5, hl_5, hb_6, hw_6, hl_6, hb_7, hw_7, hl_7, hb_8, hw_8, hl_8, hb_9, hw_9, hl_9, hb_10, hw_10, hl_10, hb_11, hw_11, hl_11, hb_13, hw_13, hl_13, hb_14, hw_14, hl_14, hb_15, hw_15, hl_15, hb_16, hw_16, hl_16, hb_18, hw_18, hl_18, hb_19, hw_19, hl_19, hb_20, hw_20, hl_20, hb_21, hw_21, hl_21, hb_22, hw_22, hl_22, hb_23, hw_23, hl_23, hb_24, hw_24, hl_24, hb_25, hw_25, hl_25, hb_28, hw_28, hl_28, hb_29, hw_29, hl_29, hb_30, hw_30, hl_30, hb_31, hw_31, hl_31, hb_33, hw_33, hl_33, hb_37, hw_37, hl_37, hb_38, hw_38, hl_38, hb_39, hw_39, hl_39, hb_40, hw_40, hl_40, hb_41, hw_41, hl_41, hb_42, hw_42, hl_42, hb_43, hw_43, hl_43, hb_44, hw_44, hl_44, hb_46, hw_46, hl_46, hb_47, hw_47, hl_47, hb_48, hw_48, hl_48, hb_49, hw_49, hl_49, hb_51, hw_51, hl_51, hb_52, hw_52, hl_52, hb_53, hw_53, hl_53, hb_54, hw_54, hl_54, hb_55, hw_55, hl_55, hb_56, hw_56, hl_56, hb_57, hw_57, hl_57, hb_58, hw_58, hl_58, hb_61, hw_61, hl_61, hb_62, hw_62, hl_62, hb_63, hw_63, hl_63, hb_64, hw_64, hl_64, hb_65, hw_65, hl_65, hb_66, hw_66, hl_66, hb_67, hw_67, hl_67, hb_68, hw_68, hl_68, hb_70, hw_70, hl_70, hb_71, hw_71, hl_71, hb_72, hw_72, hl_72, hb_73, hw_73, hl_73, hb_75, hw_75, hl_75, hb_76, hw_76, hl_76, hb_77, hw_77, hl_77, hb_78, hw_78, hl_78, hb_79, hw_79, hl_79, hb_80, hw_80, hl_80, hb_81, hw_81, hl_81, hb_82, hw_82, hl_82, hb_84, hw_84, hl_84, hb_87, hw_87, hl_87, hb_88, hw_88, hl_88, hb_89, hw_89, hl_89, hb_91, hw_91, hl_91, hb_92, hw_92, hl_92, hb_93, hw_93, hl_93, hb_94, hw_94, hl_94, hb_95, hw_95, hl_95, hb_96, hw_96, hl_96, Nat.reduceLeDiff, Nat.reduceLT, Nat.le_refl, Bool.false_eq_true, wn_eq, wn_lt, wn_le, wg_wrp10, h3]
end LNK
