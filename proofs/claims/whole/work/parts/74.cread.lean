/-! ===== texts: the class' line of the harbour ===== -/
/-- the tape that is read -/
def wTT (D : wD) (T : Nat → Int32) (n : Nat) : Prop := n ≤ 400 ∧ wg D 32 1 = wn n ∧ wg D 33 = T
/-- the draft's row -/
def wdr (D : wD) : Nat → Int32 := wtb D 2 3 17 23 24 25
section CRD
variable {X : pm_X} {d : Nat} {D D' : wD} {o : Nat → Int64} {c : Nat × Nat} {Φ : pm_O → pm_H → Prop} {a k j n p q f dg row b w : Nat} {lo hi x y v sg : Int32} {s : wP} {T : Nat → Int32}
theorem wTT_st (h : wTT D T n) (h1 : a ≠ 32) (h2 : a ≠ 33) : wTT (wst D a k v) T n := by
  obtain ⟨e1, e2, e3⟩ := h
  exact ⟨e1, by rw [wg_ne (by omega)]; exact e2, by rw [← e3]; funext k'; exact wg_ne (by omega)⟩
theorem t_88 (h : wTT D T n) (hs : s.1 ≤ n) (hdg : dg ≤ 9) : WC X (d + 1) 88 [.ref 32, .int sg, .int (wn dg), .int lo, .int hi] (hp (wpp D s) o c) Φ ↔ Φ (.inl (some (.int (tNv T n sg dg lo hi s)))) (hp (wpp D (tNs T n sg dg lo hi s)) o c) := by
  obtain ⟨e1, e2, e3⟩ := h
  rw [← e3]
  exact m_88 e2 e1 hs hdg
theorem t_87 (h : wTT D T n) (hs : s.1 ≤ n) (hdg : dg ≤ 9) : WC X (d + 5) 87 [.ref 32, .int (wn dg), .int lo, .int hi] (hp (wpp D s) o c) Φ ↔ Φ (.inl (some (.int (tNv T n (tVg T n s) dg lo hi (tWs T n 2042 s))))) (hp (wpp D (tNs T n (tVg T n s) dg lo hi (tWs T n 2042 s))) o c) := by
  obtain ⟨e1, e2, e3⟩ := h
  rw [← e3]
  exact m_87 e2 e1 hs hdg
theorem t_84 (h : wTT D T n) (hs : s.1 ≤ n) (h1 : 2015 ≤ q) (h2 : q < 2070) : WC X (d + 4) 84 [.ref 32, .ref q] (hp (wpp D s) o c) Φ ↔ Φ (.inl (some (.int (pm_b (tWb T n q s = true))))) (hp (wpp D (tWs T n q s)) o c) := by
  obtain ⟨e1, e2, e3⟩ := h
  rw [← e3]
  exact m_84 e2 e1 hs h1 h2
theorem t_85 (h : wTT D T n) (hs : s.1 ≤ n) (h1 : 2015 ≤ q) (h2 : q < 2070) : WC X (d + 5) 85 [.ref 32, .ref q] (hp (wpp D s) o c) Φ ↔ Φ (.inl none) (hp (wpp D (nWs T n q s)) o c) := by
  obtain ⟨e1, e2, e3⟩ := h
  rw [← e3]
  exact m_85 e2 e1 hs h1 h2
theorem t_86 (h : wTT D T n) (hs : s.1 ≤ n) : WC X (d + 1) 86 [.ref 32] (hp (wpp D s) o c) Φ ↔ Φ (.inl (some (.int (pm_b (s.2 = false ∧ s.1 < wD9 T n s.1))))) (hp (wpp D s) o c) := by
  obtain ⟨e1, e2, e3⟩ := h
  rw [← e3]
  exact m_86 e2 e1 hs
theorem t_82 (h : wTT D T n) (hs : s.1 ≤ n) : WC X (d + 1) 82 [.ref 32, .int x] (hp (wpp D s) o c) Φ ↔ Φ (.inl (some (.int (pm_b (tSb T n x s = true))))) (hp (wpp D (tSs T n x s)) o c) := by
  obtain ⟨e1, e2, e3⟩ := h
  rw [← e3]
  exact m_82 e2 e1 hs
theorem t_83 (h : wTT D T n) (hs : s.1 ≤ n) : WC X (d + 2) 83 [.ref 32, .int x] (hp (wpp D s) o c) Φ ↔ Φ (.inl none) (hp (wpp D (nSs T n x s)) o c) := by
  obtain ⟨e1, e2, e3⟩ := h
  rw [← e3]
  exact m_83 e2 e1 hs
theorem t_80 (h : wTT D T n) (hs : s.1 ≤ n) : WC X d 80 [.ref 32] (hp (wpp D s) o c) Φ ↔ Φ (.inl (some (.int (pm_b (n ≤ s.1))))) (hp (wpp D s) o c) := by
  obtain ⟨e1, e2, e3⟩ := h
  exact m_80 e2 e1 hs
theorem t_81 (h : wTT D T n) (hs : s.1 ≤ n) : WC X (d + 1) 81 [.ref 32] (hp (wpp D s) o c) Φ ↔ Φ (.inl none) (hp (wpp D (if n ≤ s.1 then s else (s.1, true))) o c) := by
  obtain ⟨e1, e2, e3⟩ := h
  exact m_81 e2 e1 hs
/-! the draft's row, when a cell of it is set -/
theorem wdr_big (hk : ¬ k < 34) (h : ∀ a' k', (4 ≤ a' ∧ a' ≤ 11) ∨ (18 ≤ a' ∧ a' ≤ 22) → wg D' a' k' = wg D a' k') : wdr D' k = wdr D k := by
  unfold wdr wtb
  simp only [if_neg hk]
  by_cases h2 : k < 162
  · simp only [if_pos h2]
    apply h
    have := Nat.mod_lt (k - 34) (show 0 < 8 by decide)
    split
    · omega
    · split
      · omega
      · omega
  · simp only [if_neg h2]
    by_cases h3 : k < 362
    · simp only [if_pos h3]
      apply h
      have := Nat.mod_lt (k - 162) (show 0 < 5 by decide)
      omega
    · simp only [if_neg h3]
theorem wdr_lit {A B K : Nat} (hA : A ≤ 3) (hK : K < 34) (h : ∀ k, k < 34 → wtb (wst D A B v) 2 3 17 23 24 25 k = if k = K then v else wtb D 2 3 17 23 24 25 k) : wdr (wst D A B v) = upd (wdr D) K v := by
  funext k
  by_cases hk : k < 34
  · exact h k hk
  · rw [wdr_big (D := D) hk (fun a' k' h9 => by rw [wg_st, if_neg (by omega)])]
    unfold upd
    rw [if_neg (by omega)]
/-- a body's number -/
theorem wdr_row (hr : row < 16) (hw : w < 8) : wdr (wst D (if w = 0 then 4 else if w = 7 then 5 else 5 + w) row v) = upd (wdr D) (34 + 8 * row + w) v := by
  funext k
  unfold upd
  have hc : 4 ≤ (if w = 0 then 4 else if w = 7 then 5 else 5 + w) ∧ (if w = 0 then 4 else if w = 7 then 5 else 5 + w) ≤ 11 := by
    split
    · omega
    · split <;> omega
  generalize hcc : (if w = 0 then 4 else if w = 7 then 5 else 5 + w) = cc at *
  by_cases hk : k < 34
  · rw [if_neg (by omega)]
    have h1 : ∀ a' k', (a' ≤ 3 ∨ 12 ≤ a') → wg (wst D cc row v) a' k' = wg D a' k' := fun a' k' h => by rw [wg_st, if_neg (by omega)]
    unfold wdr wtb
    simp only [if_pos hk, h1 2 _ (by omega), h1 3 _ (by omega), h1 17 _ (by omega), h1 23 _ (by omega), h1 24 _ (by omega), h1 25 _ (by omega)]
  · by_cases h2 : k < 162
    · unfold wdr wtb
      simp only [if_neg hk, if_pos h2, wg_st]
      have := Nat.mod_lt (k - 34) (show 0 < 8 by decide)
      by_cases h4 : k = 34 + 8 * row + w
      · have e1 : (k - 34) % 8 = w := by omega
        have e2 : (k - 34) / 8 = row := by omega
        rw [if_pos h4, e1, e2, if_pos ⟨by rw [← hcc], rfl⟩]
      · rw [if_neg h4, if_neg]
        rintro ⟨h5, h6⟩
        rw [← hcc] at h5
        split at h5 <;> split at h5 <;> (try split at h5) <;> (try split at h5) <;> omega
    · have h1 : ∀ a' k', (a' ≤ 3 ∨ 12 ≤ a') → wg (wst D cc row v) a' k' = wg D a' k' := fun a' k' h => by rw [wg_st, if_neg (by omega)]
      rw [if_neg (by omega)]
      unfold wdr wtb
      simp only [if_neg hk, if_neg h2]
      by_cases h3 : k < 362
      · simp only [if_pos h3]
        have := Nat.mod_lt (k - 162) (show 0 < 5 by decide)
        exact h1 _ _ (by omega)
      · simp only [if_neg h3]
theorem wdr_x (hr : row < 16) : wdr (wst D 4 row v) = upd (wdr D) (34 + 8 * row + 0) v := wdr_row (w := 0) hr (by decide)
theorem wdr_pc (hr : row < 16) : wdr (wst D 5 row v) = upd (wdr D) (34 + 8 * row + 7) v := wdr_row (w := 7) hr (by decide)
theorem wdr_y (hr : row < 16) : wdr (wst D 6 row v) = upd (wdr D) (34 + 8 * row + 1) v := wdr_row (w := 1) hr (by decide)
theorem wdr_wd (hr : row < 16) : wdr (wst D 7 row v) = upd (wdr D) (34 + 8 * row + 2) v := wdr_row (w := 2) hr (by decide)
theorem wdr_lo (hr : row < 16) : wdr (wst D 8 row v) = upd (wdr D) (34 + 8 * row + 3) v := wdr_row (w := 3) hr (by decide)
theorem wdr_hi (hr : row < 16) : wdr (wst D 9 row v) = upd (wdr D) (34 + 8 * row + 4) v := wdr_row (w := 4) hr (by decide)
theorem wdr_fr (hr : row < 16) : wdr (wst D 10 row v) = upd (wdr D) (34 + 8 * row + 5) v := wdr_row (w := 5) hr (by decide)
theorem wdr_to (hr : row < 16) : wdr (wst D 11 row v) = upd (wdr D) (34 + 8 * row + 6) v := wdr_row (w := 6) hr (by decide)
theorem wdr_nh : wdr (wst D 2 6 v) = upd (wdr D) 3 v := by
  refine wdr_lit (by decide) (by decide) fun k hk => ?_
  by_cases h6 : k = 3
  · subst h6; rfl
  · simp [wtb, hk, h6, wg_st]
theorem wdr_ndp : wdr (wst D 2 7 v) = upd (wdr D) 12 v := by
  refine wdr_lit (by decide) (by decide) fun k hk => ?_
  by_cases h6 : k = 12
  · subst h6; rfl
  · simp [wtb, hk, h6, wg_st]
theorem wdr_nlf : wdr (wst D 2 8 v) = upd (wdr D) 13 v := by
  refine wdr_lit (by decide) (by decide) fun k hk => ?_
  by_cases h6 : k = 13
  · subst h6; rfl
  · simp [wtb, hk, h6, wg_st]
theorem wdr_nrt : wdr (wst D 2 9 v) = upd (wdr D) 14 v := by
  refine wdr_lit (by decide) (by decide) fun k hk => ?_
  by_cases h6 : k = 14
  · subst h6; rfl
  · simp [wtb, hk, h6, wg_st]
theorem wdr_ntp : wdr (wst D 2 10 v) = upd (wdr D) 15 v := by
  refine wdr_lit (by decide) (by decide) fun k hk => ?_
  by_cases h6 : k = 15
  · subst h6; rfl
  · simp [wtb, hk, h6, wg_st]
theorem wdr_ncl : wdr (wst D 2 11 v) = upd (wdr D) 9 v := by
  refine wdr_lit (by decide) (by decide) fun k hk => ?_
  by_cases h6 : k = 9
  · subst h6; rfl
  · simp [wtb, hk, h6, wg_st]
theorem wdr_nfg : wdr (wst D 2 12 v) = upd (wdr D) 10 v := by
  refine wdr_lit (by decide) (by decide) fun k hk => ?_
  by_cases h6 : k = 10
  · subst h6; rfl
  · simp [wtb, hk, h6, wg_st]
theorem wdr_nmo : wdr (wst D 2 13 v) = upd (wdr D) 11 v := by
  refine wdr_lit (by decide) (by decide) fun k hk => ?_
  by_cases h6 : k = 11
  · subst h6; rfl
  · simp [wtb, hk, h6, wg_st]
theorem wdr_ntx : wdr (wst D 2 14 v) = upd (wdr D) 0 v := by
  refine wdr_lit (by decide) (by decide) fun k hk => ?_
  by_cases h6 : k = 0
  · subst h6; rfl
  · simp [wtb, hk, h6, wg_st]
theorem wdr_nth : wdr (wst D 3 8 v) = upd (wdr D) 1 v := by
  refine wdr_lit (by decide) (by decide) fun k hk => ?_
  by_cases h6 : k = 1
  · subst h6; rfl
  · simp [wtb, hk, h6, wg_st]
theorem wdr_nsh : wdr (wst D 3 9 v) = upd (wdr D) 2 v := by
  refine wdr_lit (by decide) (by decide) fun k hk => ?_
  by_cases h6 : k = 2
  · subst h6; rfl
  · simp [wtb, hk, h6, wg_st]
theorem wdr_arr {A i K : Nat} (hA : 12 ≤ A ∧ (A < 18 ∨ 22 < A)) (hK : K < 34) (h : ∀ k, k < 34 → wtb (wst D A i v) 2 3 17 23 24 25 k = if k = K then v else wtb D 2 3 17 23 24 25 k) : wdr (wst D A i v) = upd (wdr D) K v := by
  funext k
  by_cases hk : k < 34
  · exact h k hk
  · rw [wdr_big (D := D) hk (fun a' k' h9 => by rw [wg_st, if_neg (by omega)])]
    unfold upd
    rw [if_neg (by omega)]
theorem wdr_low {A i K : Nat} (hA : A = 23 ∨ A = 24 ∨ A = 25) : wtb (wst D A i v) 2 3 17 23 24 25 K = if K < 16 then wtb D 2 3 17 23 24 25 K else wtb (wst D A i v) 2 3 17 23 24 25 K := by
  split
  · rename_i h
    have h1 : ∀ a' k', a' ≤ 17 → wg (wst D A i v) a' k' = wg D a' k' := fun a' k' h => by rw [wg_st, if_neg (by omega)]
    unfold wtb
    simp only [if_pos (show K < 34 by omega), if_pos h, h1 2 _ (by omega), h1 3 _ (by omega), h1 17 _ (by omega)]
  · rfl
theorem wtb_hi {E : wD} (h : ¬ k < 16) (h2 : k < 34) : wtb E 2 3 17 23 24 25 k = if k < 28 then wg E 25 (k - 16) else if k % 2 = 0 then wg E 23 ((k - 28) / 2) else wg E 24 ((k - 28) / 2) := by
  unfold wtb
  rw [if_pos h2, if_neg (by omega), if_neg (by omega), if_neg (by omega), if_neg (by omega), if_neg (by omega), if_neg (by omega), if_neg (by omega), if_neg (by omega), if_neg (by omega), if_neg (by omega), if_neg (by omega), if_neg (by omega), if_neg (by omega), if_neg (by omega), if_neg (by omega)]
theorem wdr_hx (hk : k < 3) : wdr (wst D 23 k v) = upd (wdr D) (28 + 2 * k) v := by
  refine wdr_arr (by omega) (by omega) fun j hj => ?_
  rw [wdr_low (Or.inl rfl)]
  by_cases h1 : j < 16
  · rw [if_pos h1, if_neg (by omega)]
  · rw [if_neg h1, wtb_hi h1 hj, wtb_hi h1 hj]
    by_cases h2 : j < 28
    · rw [if_pos h2, if_pos h2, if_neg (by omega), wg_ne (by omega)]
    · rw [if_neg h2, if_neg h2]
      by_cases h3 : j % 2 = 0
      · rw [if_pos h3, if_pos h3, wg_st]
        by_cases h4 : j = 28 + 2 * k
        · rw [if_pos h4, if_pos (by omega)]
        · rw [if_neg h4, if_neg (by omega)]
      · rw [if_neg h3, if_neg h3, if_neg (by omega), wg_ne (by omega)]
theorem wdr_hz (hk : k < 3) : wdr (wst D 24 k v) = upd (wdr D) (28 + 2 * k + 1) v := by
  refine wdr_arr (by omega) (by omega) fun j hj => ?_
  rw [wdr_low (Or.inr (Or.inl rfl))]
  by_cases h1 : j < 16
  · rw [if_pos h1, if_neg (by omega)]
  · rw [if_neg h1, wtb_hi h1 hj, wtb_hi h1 hj]
    by_cases h2 : j < 28
    · rw [if_pos h2, if_pos h2, if_neg (by omega), wg_ne (by omega)]
    · rw [if_neg h2, if_neg h2]
      by_cases h3 : j % 2 = 0
      · rw [if_pos h3, if_pos h3, if_neg (by omega), wg_ne (by omega)]
      · rw [if_neg h3, if_neg h3, wg_st]
        by_cases h4 : j = 28 + 2 * k + 1
        · rw [if_pos h4, if_pos (by omega)]
        · rw [if_neg h4, if_neg (by omega)]
theorem wdr_ti (hk : k < 12) : wdr (wst D 25 k v) = upd (wdr D) (16 + k) v := by
  refine wdr_arr (by omega) (by omega) fun j hj => ?_
  rw [wdr_low (Or.inr (Or.inr rfl))]
  by_cases h1 : j < 16
  · rw [if_pos h1, if_neg (by omega)]
  · rw [if_neg h1, wtb_hi h1 hj, wtb_hi h1 hj]
    by_cases h2 : j < 28
    · rw [if_pos h2, if_pos h2, wg_st]
      by_cases h4 : j = 16 + k
      · rw [if_pos h4, if_pos (by omega)]
      · rw [if_neg h4, if_neg (by omega)]
    · rw [if_neg h2, if_neg h2, wg_ne (by omega), wg_ne (by omega), if_neg (show ¬ j = 16 + k by omega)]
end CRD
