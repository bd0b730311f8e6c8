/-! ===== the law's loop ===== -/
/-- a call of the law, as wanted -/
def wOpS (LW : wLT) (X : pm_X) (pc : Nat) : Prop := ∀ (d i : Nat) (D : wD) (o : Nat → Int64) (c : Nat × Nat) (Φ : pm_O → pm_H → Prop) (v5 v6 : Value), i + 5 < X.1 → wok c → wInv LW D → wNx LW X d i c Φ → WP X (d + 60) 258 pc [.ref 1000, .ref 0, .ref 90, .ref 97, .int (wn i), v5, v6] [] (hp D o c) Φ
section LOO
variable {LW : wLT} {X : pm_X} {d i : Nat} {D : wD} {o : Nat → Int64} {c : Nat × Nat} {Φ : pm_O → pm_H → Prop} {x : Int32}
theorem w_and31 : ∃ k : Nat, k < 32 ∧ x &&& wn 31 = wn k := by
  refine ⟨x.toBitVec.toNat % 32, Nat.mod_lt _ (by decide), ?_⟩
  apply Int32.toBitVec.inj
  show x.toBitVec &&& BitVec.ofNat 32 31 = BitVec.ofNat 32 (x.toBitVec.toNat % 32)
  apply BitVec.eq_of_toNat_eq
  rw [BitVec.toNat_and, BitVec.toNat_ofNat, BitVec.toNat_ofNat]
  have h : ∀ y : Nat, y &&& 31 = y % 32 := fun y => Nat.and_two_pow_sub_one_eq_mod y 5
  rw [Nat.mod_eq_of_lt (show 31 < 2 ^ 32 by decide), h, Nat.mod_eq_of_lt (a := x.toBitVec.toNat % 32) (by omega)]
theorem l_258 (hX : X.1 ≤ 3072) (hLW : ∀ ln am en co lr sz T, LW ln am en co lr sz T → ln = lr) (hLX : wLX LW) (g2 : wOpS LW X 266) (g3 : wOpS LW X 310) (g10 : wOpS LW X 754) (g11 : wOpS LW X 810) (g18 : wOpS LW X 1188) (g20 : wOpS LW X 1364) (g22 : wOpS LW X 1576) : ∀ (n i : Nat) (D : wD) (o : Nat → Int64) (c : Nat × Nat) (v5 v6 : Value), i ≤ X.1 → X.1 ≤ i + 6 * n + 5 → c.1 + n ≤ 601000 → c.2 + 6 * n ≤ 7290000 → wInv LW D → WP X (d + 60) 258 23 [.ref 1000, .ref 0, .ref 90, .ref 97, .int (wn i), v5, v6] [] (hp D o c) (fun o _ => o = .inl (some (.int 1))) := by
  have fin : ∀ (i : Nat) (D : wD) (o : Nat → Int64) (c : Nat × Nat) (v5 v6 : Value), X.1 ≤ i + 5 → i ≤ X.1 → WP X (d + 60) 258 23 [.ref 1000, .ref 0, .ref 90, .ref 97, .int (wn i), v5, v6] [] (hp D o c) (fun o _ => o = .inl (some (.int 1))) := by
    intro i D o c v5 v6 h1 h2
    have h3 : (wn i ≤ wn X.1 - wn 6) = False := by
      rw [wt_le, wt_sub (by rw [wn_toInt (by omega), wn_toInt (by omega)]; omega) (by rw [wn_toInt (by omega), wn_toInt (by omega)]; omega), wn_toInt (by omega), wn_toInt (by omega), wn_toInt (by omega)]
      exact eq_false (by omega)
    have h4 : (wn X.1 - wn 6 < wn i) = True := by
      rw [wt_lt, wt_sub (by rw [wn_toInt (by omega), wn_toInt (by omega)]; omega) (by rw [wn_toInt (by omega), wn_toInt (by omega)]; omega), wn_toInt (by omega), wn_toInt (by omega), wn_toInt (by omega)]
      exact eq_true (by omega)
    rw [k_258_23]
    simp (disch := omega) only [k_258_25, k_258_26, whp_lenS, pm_op_s, k_258_27, k_258_29, k_258_30, h3, h4, if_true, if_false, k_258_1847, k_258_1848, wz01_1]
    rfl
  intro n
  induction n with
  | zero =>
    intro i D o c v5 v6 h1 h2 h3 h4 hV
    exact fin i D o c v5 v6 (by omega) h1
  | succ n ih =>
    intro i D o c v5 v6 h1 h2 h3 h4 hV
    by_cases h5 : X.1 ≤ i + 5
    · exact fin i D o c v5 v6 h5 h1
    · have hi : i + 5 < X.1 := by omega
      have hc : wok c := by unfold wok; omega
      have hN : wNx LW X d i c (fun o _ => o = .inl (some (.int 1))) := by
        intro D' o' c' v5' v6' hV' hc'
        have hcc : c'.1 ≤ c.1 + 1 ∧ c'.2 ≤ c.2 + 6 := by
          rcases hc' with rfl | rfl
          · omega
          · unfold wup; omega
        have := ih (i + 6) D' o' c' v5' v6' (by omega) (by omega) (by omega) (by omega) hV'
        rw [k_258_1841, k_258_1844, wn_add]
        exact this
      have h6 : (wn X.1 - wn 6 < wn i) = False := by
        rw [wn_sub (by omega), wn_lt (by omega) (by omega)]
        exact eq_false (by omega)
      have h7 : (wn i ≤ wn X.1 - wn 6) = True := by
        rw [wn_sub (by omega), wn_le (by omega) (by omega)]
        exact eq_true (by omega)
      obtain ⟨k, hk, ek⟩ := w_and31 (x := X.2 i)
      have hL := fun (h : pm_H) => hw_ms (X := X) (h := h) (k := i) (by omega) hX
      rw [k_258_23]
      simp (disch := omega) only [k_258_25, k_258_26, whp_lenS, pm_op_s, k_258_27, k_258_29, k_258_30, h6, h7, if_true, if_false, k_258_33, k_258_34, k_258_36, hL, k_258_37, k_258_39, ek, k_258_40]
      by_cases h8 : k < 28
      · have h9 : k = 0 ∨ k = 1 ∨ k = 2 ∨ k = 3 ∨ k = 4 ∨ k = 5 ∨ k = 6 ∨ k = 7 ∨ k = 8 ∨ k = 9 ∨ k = 10 ∨ k = 11 ∨ k = 12 ∨ k = 13 ∨ k = 14 ∨ k = 15 ∨ k = 16 ∨ k = 17 ∨ k = 18 ∨ k = 19 ∨ k = 20 ∨ k = 21 ∨ k = 22 ∨ k = 23 ∨ k = 24 ∨ k = 25 ∨ k = 26 ∨ k = 27 := by omega
        rcases h9 with rfl | rfl | rfl | rfl | rfl | rfl | rfl | rfl | rfl | rfl | rfl | rfl | rfl | rfl | rfl | rfl | rfl | rfl | rfl | rfl | rfl | rfl | rfl | rfl | rfl | rfl | rfl | rfl
        · rw [sw_258_0]
          exact op_0 hi hX hc hV hN
        · rw [sw_258_1]
          exact op_1 hi hX hc hV hN
        · rw [sw_258_2]
          exact g2 d i D o c _ v5 v6 hi hc hV hN
        · rw [sw_258_3]
          exact g3 d i D o c _ v5 v6 hi hc hV hN
        · rw [sw_258_4]
          exact op_4 hi hX hc hV hN
        · rw [sw_258_5]
          exact op_5 hi hX hc hV hN
        · rw [sw_258_6]
          exact op_6 hi hX hc hV hN
        · rw [sw_258_7]
          exact op_7 hi hX hc hV hN
        · rw [sw_258_8]
          exact op_8 hi hX hc hV hN
        · rw [sw_258_9]
          exact op_9 hi hX hc hV hN
        · rw [sw_258_10]
          exact g10 d i D o c _ v5 v6 hi hc hV hN
        · rw [sw_258_11]
          exact g11 d i D o c _ v5 v6 hi hc hV hN
        · rw [sw_258_12]
          exact op_12 hi hX hc hV hN
        · rw [sw_258_13]
          exact op_13 hi hX hc hV hN
        · rw [sw_258_14]
          exact op_14 hi hX hc hV hN
        · rw [sw_258_15]
          exact op_15 hi hX hc hV hN
        · rw [sw_258_16]
          exact op_16 hi hX hc hV hN
        · rw [sw_258_17]
          exact op_17 hi hX hc hV hN
        · rw [sw_258_18]
          exact g18 d i D o c _ v5 v6 hi hc hV hN
        · rw [sw_258_19]
          exact op_19 hi hX hc hV hN
        · rw [sw_258_20]
          exact g20 d i D o c _ v5 v6 hi hc hV hN
        · rw [sw_258_21]
          exact op_21 hi hX hc hV hN
        · rw [sw_258_22]
          exact g22 d i D o c _ v5 v6 hi hc hV hN
        · rw [sw_258_23]
          exact op_23 hi hX hc hV hN
        · rw [sw_258_24]
          exact op_24 hi hX hc hV hN
        · rw [sw_258_25]
          exact op_25 hLX hi hX hc hV hN
        · rw [sw_258_26]
          exact op_26 hLX hi hX hc hV hN
        · rw [sw_258_27]
          exact op_27 hLW hi hX hc hV hN
      · have h9 : (wn k).toInt = k := wn_toInt (by omega)
        rw [sw_258_d (by omega)]
        exact hN D o c v5 v6 hV (Or.inl rfl)
end LOO
