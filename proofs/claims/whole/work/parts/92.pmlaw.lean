/-! ===== the law, from its calls ===== -/
section PML
variable {LW : wLT} {a j k : Nat}
theorem wD0_z (h : (37 ≤ a ∧ a ≤ 44) ∨ (51 ≤ a ∧ a ≤ 55)) : wg wD0 a j = 0 := by
  unfold wg wD0
  rw [if_neg (by omega), if_neg (by omega), if_neg (by omega), if_neg (by omega), if_neg (by omega), if_neg (by omega), if_neg (by omega), if_neg (by omega), if_neg (by omega), if_neg (by omega)]
theorem wr0_z (h : 16 ≤ j) : wr wD0 j = 0 := by
  unfold wr wrg
  split
  · show wmf0 j = 0
    unfold wmf0 upd
    rw [if_neg (by omega), if_neg (by omega), if_neg (by omega), if_neg (by omega), if_neg (by omega), if_neg (by omega)]
  · rfl
theorem wm0 : wm wD0 = wr wD0 := by
  have h : ∀ k, k < 34 → wm wD0 k = wr wD0 k := by decide +kernel
  funext k
  by_cases h1 : k < 34
  · exact h k h1
  · rw [wr0_z (by omega)]
    unfold wm wtb
    simp only [if_neg h1]
    by_cases h2 : k < 162
    · simp only [if_pos h2]
      have := Nat.mod_lt (k - 34) (show 0 < 8 by decide)
      apply wD0_z
      split
      · omega
      · split
        · omega
        · omega
    · simp only [if_neg h2]
      by_cases h3 : k < 362
      · simp only [if_pos h3]
        have := Nat.mod_lt (k - 162) (show 0 < 5 by decide)
        exact wD0_z (by omega)
      · simp only [if_neg h3]
theorem wI0 : wI (wr wD0) := by
  have z0 : (0 : Int32).toInt = 0 := rfl
  refine ⟨⟨by unfold wrg_; decide, by unfold wrg_; decide, by unfold wrg_; decide, by unfold wrg_; decide, by unfold wrg_; decide, by unfold wrg_; decide, by unfold wrg_; decide, by unfold wrg_; decide, by unfold wrg_; decide, by unfold wrg_; decide, by unfold wrg_; decide, by unfold wrg_; decide⟩, fun b hb => ?_, fun b hb hbd => ?_, fun k hk => ?_, fun k hk => ?_, fun k hk => ?_⟩
  · have h : ∀ w, wof (wr wD0) b w = 0 := fun w => wr0_z (by omega)
    unfold wIb wrg_
    simp only [h, z0]
    refine ⟨by omega, by omega, by omega, by omega, by omega, by omega, fun _ => rfl⟩
  · exfalso
    have e1 : wr wD0 1 = wn 0 := rfl
    have e2 : wr wD0 2 = wn 0 := rfl
    simp only [wbd, e1, e2, Bool.or_eq_true, Bool.and_eq_true, decide_eq_true_eq, wn_add] at hbd
    rw [wn_lt (by omega) (by omega), wn_le (by omega) (by omega), wn_le (by omega) (by omega), wn_lt (by omega) (by omega)] at hbd
    omega
  · exfalso
    have e1 : (wr wD0 8).toInt = 0 := rfl
    rw [e1] at hk
    omega
  · rw [wr0_z (by omega), wr0_z (by omega)]
    unfold wrg_
    rw [z0]
    omega
  · rw [wr0_z (by omega)]
    unfold wrg_
    rw [z0]
    omega
theorem w_inv0 (hL0 : ∀ am en co sz T, LW (wi (-1)) am en co (wi (-1)) sz T) : wInv LW wD0 :=
  ⟨wI0, wm0, ⟨⟨0, by decide, rfl, rfl⟩, fun k _ => rfl⟩, rfl, ⟨hL0 _ _ _ _ _, Or.inl rfl, Or.inl rfl⟩, Or.inl ⟨rfl, rfl⟩⟩
/-- pm_law, when each call holds -/
theorem pm_law_of (hL0 : ∀ am en co sz T, LW (wi (-1)) am en co (wi (-1)) sz T) (hLW : ∀ ln am en co lr sz T, LW ln am en co lr sz T → ln = lr) (hLX : wLX LW) (g2 : ∀ X : pm_X, X.1 ≤ 3072 → wOpS LW X 266) (g3 : ∀ X : pm_X, X.1 ≤ 3072 → wOpS LW X 310) (g10 : ∀ X : pm_X, X.1 ≤ 3072 → wOpS LW X 754) (g11 : ∀ X : pm_X, X.1 ≤ 3072 → wOpS LW X 810) (g18 : ∀ X : pm_X, X.1 ≤ 3072 → wOpS LW X 1188) (g20 : ∀ X : pm_X, X.1 ≤ 3072 → wOpS LW X 1364) (g22 : ∀ X : pm_X, X.1 ≤ 3072 → wOpS LW X 1576) : pm_law := by
  intro L xs hL
  show WP (L, xs) (940 + 60) 258 0 (pm_pad 258 [.ref 1000]) [] ([], (0, 0)) (fun o _ => o = .inl (some (.int 1)))
  refine w_start (fun v5 v6 => ?_)
  exact l_258 (X := (L, xs)) hL hLW hLX (g2 _ hL) (g3 _ hL) (g10 _ hL) (g11 _ hL) (g18 _ hL) (g20 _ hL) (g22 _ hL) 512 0 wD0 _ _ v5 v6 (Nat.zero_le _) (by show L ≤ _; omega) (by decide) (by decide) (w_inv0 hL0)
end PML
