/-! ===== reading a cell; what the class' state says, as the reference's row of numbers ===== -/
def wg (D : wD) (a k : Nat) : Int32 := D a k
theorem wg_st (D : wD) (a k : Nat) (v : Int32) (a' k' : Nat) : wg (wst D a k v) a' k' = if a' = a ∧ k' = k then v else wg D a' k' := rfl
theorem wg_cp (D : wD) (a b n : Nat) (a' k' : Nat) : wg (wcp D a b n) a' k' = if a' = b ∧ k' < n then wg D a k' else wg D a' k' := rfl
theorem pm_b_i (p : Prop) [Decidable p] : pm_b p = if p then wn 1 else wn 0 := rfl
/-- of a state's cell s, bodies b (rows behind it), tracings t (rows behind it), holes x and z, tides i: the reference's row but its numbers 4 and 5 -/
def wtb (D : wD) (s b t x z i : Nat) (k : Nat) : Int32 :=
  if k < 34 then
    if k = 0 then wg D s 14 else if k = 1 then wg D b 8 else if k = 2 then wg D b 9 else if k = 3 then wg D s 6
    else if k = 6 then wg D s 15 else if k = 7 then wg D s 16 else if k = 8 then wg D t 5 else if k = 9 then wg D s 11
    else if k = 10 then wg D s 12 else if k = 11 then wg D s 13 else if k = 12 then wg D s 7 else if k = 13 then wg D s 8
    else if k = 14 then wg D s 9 else if k = 15 then wg D s 10
    else if k < 16 then 0 else if k < 28 then wg D i (k - 16)
    else if k % 2 = 0 then wg D x ((k - 28) / 2) else wg D z ((k - 28) / 2)
  else if k < 162 then wg D (if (k - 34) % 8 = 0 then b + 1 else if (k - 34) % 8 = 7 then b + 2 else b + 2 + (k - 34) % 8) ((k - 34) / 8)
  else if k < 362 then wg D (t + 1 + (k - 162) % 5) ((k - 162) / 5)
  else 0
/-- the class' state now -/
def wm (D : wD) : Nat → Int32 := wtb D 35 36 50 56 57 58
/-- the reference's -/
def wrg (D : wD) (a : Nat) (k : Nat) : Int32 := if k < 362 ∧ k ≠ 4 ∧ k ≠ 5 then wg D a k else 0
def wr (D : wD) : Nat → Int32 := wrg D 91
/-- a number of a body, a tracing, a hole -/
def wof (m : Nat → Int32) (b w : Nat) : Int32 := m (34 + 8 * b + w)
def wtr (m : Nat → Int32) (k w : Nat) : Int32 := m (162 + 5 * k + w)
section WMG
variable {D : wD} {s b t x z i k j : Nat}
theorem wtb_b0 (h : j < 16) : wtb D s b t x z i (34 + 8 * j + 0) = wg D (b + 1) j := by
  unfold wtb
  rw [if_neg (by omega), if_pos (by omega), if_pos (by omega)]
  congr 1
  omega
theorem wtb_b7 (h : j < 16) : wtb D s b t x z i (34 + 8 * j + 7) = wg D (b + 2) j := by
  unfold wtb
  rw [if_neg (by omega), if_pos (by omega), if_neg (by omega), if_pos (by omega)]
  congr 1
  omega
theorem wtb_bk (h : j < 16) (h1 : 1 ≤ k) (h2 : k < 7) : wtb D s b t x z i (34 + 8 * j + k) = wg D (b + 2 + k) j := by
  unfold wtb
  rw [if_neg (by omega), if_pos (by omega), if_neg (by omega), if_neg (by omega)]
  congr 1
  · omega
  · omega
theorem wtb_t (h : j < 40) (h2 : k < 5) : wtb D s b t x z i (162 + 5 * j + k) = wg D (t + 1 + k) j := by
  unfold wtb
  rw [if_neg (by omega), if_neg (by omega), if_pos (by omega), show (162 + 5 * j + k - 162) % 5 = k by omega, show (162 + 5 * j + k - 162) / 5 = j by omega]
theorem wtb_hx (h : j < 3) : wtb D s b t x z i (28 + 2 * j) = wg D x j := by
  unfold wtb
  rw [if_pos (by omega), if_neg (by omega), if_neg (by omega), if_neg (by omega), if_neg (by omega), if_neg (by omega), if_neg (by omega), if_neg (by omega), if_neg (by omega), if_neg (by omega), if_neg (by omega), if_neg (by omega), if_neg (by omega), if_neg (by omega), if_neg (by omega), if_neg (by omega), if_neg (by omega), if_pos (by omega)]
  congr 1
  omega
theorem wtb_hz (h : j < 3) : wtb D s b t x z i (28 + 2 * j + 1) = wg D z j := by
  unfold wtb
  rw [if_pos (by omega), if_neg (by omega), if_neg (by omega), if_neg (by omega), if_neg (by omega), if_neg (by omega), if_neg (by omega), if_neg (by omega), if_neg (by omega), if_neg (by omega), if_neg (by omega), if_neg (by omega), if_neg (by omega), if_neg (by omega), if_neg (by omega), if_neg (by omega), if_neg (by omega), if_neg (by omega)]
  congr 1
  omega
theorem wtb_ti (h : j < 12) : wtb D s b t x z i (16 + j) = wg D i j := by
  unfold wtb
  rw [if_pos (by omega), if_neg (by omega), if_neg (by omega), if_neg (by omega), if_neg (by omega), if_neg (by omega), if_neg (by omega), if_neg (by omega), if_neg (by omega), if_neg (by omega), if_neg (by omega), if_neg (by omega), if_neg (by omega), if_neg (by omega), if_neg (by omega), if_neg (by omega), if_pos (by omega)]
  congr 1
  omega
theorem wrg_k (h : k < 362) (h4 : k ≠ 4) (h5 : k ≠ 5) : wrg D s k = wg D s k := if_pos ⟨h, h4, h5⟩
end WMG
/-! the class' numbers by the table -/
section CG
variable {D : wD} {b k : Nat}
theorem cg_37 (h : b < 16) : wg D 37 b = wof (wm D) b 0 := (wtb_b0 h).symm
theorem cg_38 (h : b < 16) : wg D 38 b = wof (wm D) b 7 := (wtb_b7 h).symm
theorem cg_39 (h : b < 16) : wg D 39 b = wof (wm D) b 1 := (wtb_bk (k := 1) h (by decide) (by decide)).symm
theorem cg_40 (h : b < 16) : wg D 40 b = wof (wm D) b 2 := (wtb_bk (k := 2) h (by decide) (by decide)).symm
theorem cg_41 (h : b < 16) : wg D 41 b = wof (wm D) b 3 := (wtb_bk (k := 3) h (by decide) (by decide)).symm
theorem cg_42 (h : b < 16) : wg D 42 b = wof (wm D) b 4 := (wtb_bk (k := 4) h (by decide) (by decide)).symm
theorem cg_43 (h : b < 16) : wg D 43 b = wof (wm D) b 5 := (wtb_bk (k := 5) h (by decide) (by decide)).symm
theorem cg_44 (h : b < 16) : wg D 44 b = wof (wm D) b 6 := (wtb_bk (k := 6) h (by decide) (by decide)).symm
theorem cg_51 (h : k < 40) : wg D 51 k = wtr (wm D) k 0 := (wtb_t (k := 0) h (by decide)).symm
theorem cg_52 (h : k < 40) : wg D 52 k = wtr (wm D) k 1 := (wtb_t (k := 1) h (by decide)).symm
theorem cg_53 (h : k < 40) : wg D 53 k = wtr (wm D) k 2 := (wtb_t (k := 2) h (by decide)).symm
theorem cg_54 (h : k < 40) : wg D 54 k = wtr (wm D) k 3 := (wtb_t (k := 3) h (by decide)).symm
theorem cg_55 (h : k < 40) : wg D 55 k = wtr (wm D) k 4 := (wtb_t (k := 4) h (by decide)).symm
theorem cg_56 (h : k < 3) : wg D 56 k = wm D (28 + 2 * k) := (wtb_hx h).symm
theorem cg_57 (h : k < 3) : wg D 57 k = wm D (28 + 2 * k + 1) := (wtb_hz h).symm
theorem cg_58 (h : k < 12) : wg D 58 k = wm D (16 + k) := (wtb_ti h).symm
theorem cg_35_14 : wg D 35 14 = wm D 0 := rfl
theorem cg_36_8 : wg D 36 8 = wm D 1 := rfl
theorem cg_36_9 : wg D 36 9 = wm D 2 := rfl
theorem cg_35_6 : wg D 35 6 = wm D 3 := rfl
theorem cg_35_15 : wg D 35 15 = wm D 6 := rfl
theorem cg_35_16 : wg D 35 16 = wm D 7 := rfl
theorem cg_50_5 : wg D 50 5 = wm D 8 := rfl
theorem cg_35_11 : wg D 35 11 = wm D 9 := rfl
theorem cg_35_12 : wg D 35 12 = wm D 10 := rfl
theorem cg_35_13 : wg D 35 13 = wm D 11 := rfl
theorem cg_35_7 : wg D 35 7 = wm D 12 := rfl
theorem cg_35_8 : wg D 35 8 = wm D 13 := rfl
theorem cg_35_9 : wg D 35 9 = wm D 14 := rfl
theorem cg_35_10 : wg D 35 10 = wm D 15 := rfl
/-! the reference's -/
theorem rg_b (h : b < 16) (hk : k < 8) : wg D 91 (34 + 8 * b + k) = wof (wr D) b k := (wrg_k (by omega) (by omega) (by omega)).symm
theorem rg_t (h : b < 40) (hk : k < 5) : wg D 91 (162 + 5 * b + k) = wtr (wr D) b k := (wrg_k (by omega) (by omega) (by omega)).symm
theorem rg_hx (h : k < 3) : wg D 91 (28 + 2 * k) = wr D (28 + 2 * k) := (wrg_k (by omega) (by omega) (by omega)).symm
theorem rg_hz (h : k < 3) : wg D 91 (28 + 2 * k + 1) = wr D (28 + 2 * k + 1) := (wrg_k (by omega) (by omega) (by omega)).symm
theorem rg_ti (h : k < 12) : wg D 91 (16 + k) = wr D (16 + k) := (wrg_k (by omega) (by omega) (by omega)).symm
theorem rg_0 : wg D 91 0 = wr D 0 := rfl
theorem rg_1 : wg D 91 1 = wr D 1 := rfl
theorem rg_2 : wg D 91 2 = wr D 2 := rfl
theorem rg_3 : wg D 91 3 = wr D 3 := rfl
theorem rg_6 : wg D 91 6 = wr D 6 := rfl
theorem rg_7 : wg D 91 7 = wr D 7 := rfl
theorem rg_8 : wg D 91 8 = wr D 8 := rfl
theorem rg_9 : wg D 91 9 = wr D 9 := rfl
theorem rg_10 : wg D 91 10 = wr D 10 := rfl
theorem rg_11 : wg D 91 11 = wr D 11 := rfl
theorem rg_12 : wg D 91 12 = wr D 12 := rfl
theorem rg_13 : wg D 91 13 = wr D 13 := rfl
theorem rg_14 : wg D 91 14 = wr D 14 := rfl
theorem rg_15 : wg D 91 15 = wr D 15 := rfl
/-! what doesn't touch the state -/
theorem wm_st {a : Nat} {v : Int32} (h : a < 35 ∨ (44 < a ∧ a < 50) ∨ 58 < a) : wm (wst D a k v) = wm D := by
  have : ∀ a' k', (35 ≤ a' ∧ a' ≤ 44 ∨ 50 ≤ a' ∧ a' ≤ 58) → wg (wst D a k v) a' k' = wg D a' k' := by
    intro a' k' ha
    rw [wg_st, if_neg (by omega)]
  funext j
  unfold wm wtb
  by_cases h1 : j < 34
  · simp only [if_pos h1]
    simp only [this _ _ (show 35 ≤ 35 ∧ 35 ≤ 44 ∨ 50 ≤ 35 ∧ 35 ≤ 58 by decide), this _ _ (show 35 ≤ 36 ∧ 36 ≤ 44 ∨ 50 ≤ 36 ∧ 36 ≤ 58 by decide), this _ _ (show 35 ≤ 50 ∧ 50 ≤ 44 ∨ 50 ≤ 50 ∧ 50 ≤ 58 by decide), this _ _ (show 35 ≤ 56 ∧ 56 ≤ 44 ∨ 50 ≤ 56 ∧ 56 ≤ 58 by decide), this _ _ (show 35 ≤ 57 ∧ 57 ≤ 44 ∨ 50 ≤ 57 ∧ 57 ≤ 58 by decide), this _ _ (show 35 ≤ 58 ∧ 58 ≤ 44 ∨ 50 ≤ 58 ∧ 58 ≤ 58 by decide)]
  · simp only [if_neg h1]
    by_cases h2 : j < 162
    · simp only [if_pos h2]
      apply this
      have := Nat.mod_lt (j - 34) (show 0 < 8 by decide)
      split
      · omega
      · split
        · omega
        · omega
    · simp only [if_neg h2]
      by_cases h3 : j < 362
      · simp only [if_pos h3]
        apply this
        have := Nat.mod_lt (j - 162) (show 0 < 5 by decide)
        omega
      · simp only [if_neg h3]
theorem wr_st {a : Nat} {v : Int32} (h : a ≠ 91) : wr (wst D a k v) = wr D := by
  funext j
  unfold wr wrg
  rw [wg_st, if_neg (c := 91 = a ∧ j = k) (fun h9 => h h9.1.symm)]
end CG

section HPG
variable {X : pm_X} {D : wD} {o : Nat → Int64} {c : Nat × Nat} {v : Int32} {i : Nat} {n : Int32}
theorem hg_0_10 : pm_fld (hp D o c) 0 11 10 = some (.int (wg D 0 10)) := hf_0_10
theorem hg_0_11 : pm_fld (hp D o c) 0 11 11 = some (.int (wg D 0 11)) := hf_0_11
theorem hg_2_6 : pm_fld (hp D o c) 2 7 6 = some (.int (wg D 2 6)) := hf_2_6
theorem hg_2_7 : pm_fld (hp D o c) 2 7 7 = some (.int (wg D 2 7)) := hf_2_7
theorem hg_2_8 : pm_fld (hp D o c) 2 7 8 = some (.int (wg D 2 8)) := hf_2_8
theorem hg_2_9 : pm_fld (hp D o c) 2 7 9 = some (.int (wg D 2 9)) := hf_2_9
theorem hg_2_10 : pm_fld (hp D o c) 2 7 10 = some (.int (wg D 2 10)) := hf_2_10
theorem hg_2_11 : pm_fld (hp D o c) 2 7 11 = some (.int (wg D 2 11)) := hf_2_11
theorem hg_2_12 : pm_fld (hp D o c) 2 7 12 = some (.int (wg D 2 12)) := hf_2_12
theorem hg_2_13 : pm_fld (hp D o c) 2 7 13 = some (.int (wg D 2 13)) := hf_2_13
theorem hg_2_14 : pm_fld (hp D o c) 2 7 14 = some (.int (wg D 2 14)) := hf_2_14
theorem hg_2_15 : pm_fld (hp D o c) 2 7 15 = some (.int (wg D 2 15)) := hf_2_15
theorem hg_2_16 : pm_fld (hp D o c) 2 7 16 = some (.int (wg D 2 16)) := hf_2_16
theorem hg_3_8 : pm_fld (hp D o c) 3 0 8 = some (.int (wg D 3 8)) := hf_3_8
theorem hg_3_9 : pm_fld (hp D o c) 3 0 9 = some (.int (wg D 3 9)) := hf_3_9
theorem hb_4 (hi : i < 16) : pm_ald X (hp D o c) 4 (wn i) = some (wg D 4 i) := ha_4 hi
theorem hb_5 (hi : i < 16) : pm_ald X (hp D o c) 5 (wn i) = some (wg D 5 i) := ha_5 hi
theorem hb_6 (hi : i < 16) : pm_ald X (hp D o c) 6 (wn i) = some (wg D 6 i) := ha_6 hi
theorem hb_7 (hi : i < 16) : pm_ald X (hp D o c) 7 (wn i) = some (wg D 7 i) := ha_7 hi
theorem hb_8 (hi : i < 16) : pm_ald X (hp D o c) 8 (wn i) = some (wg D 8 i) := ha_8 hi
theorem hb_9 (hi : i < 16) : pm_ald X (hp D o c) 9 (wn i) = some (wg D 9 i) := ha_9 hi
theorem hb_10 (hi : i < 16) : pm_ald X (hp D o c) 10 (wn i) = some (wg D 10 i) := ha_10 hi
theorem hb_11 (hi : i < 16) : pm_ald X (hp D o c) 11 (wn i) = some (wg D 11 i) := ha_11 hi
theorem hg_12_4 : pm_fld (hp D o c) 12 3 4 = some (.int (wg D 12 4)) := hf_12_4
theorem hg_12_5 : pm_fld (hp D o c) 12 3 5 = some (.int (wg D 12 5)) := hf_12_5
theorem hb_13 (hi : i < 12) : pm_ald X (hp D o c) 13 (wn i) = some (wg D 13 i) := ha_13 hi
theorem hb_14 (hi : i < 12) : pm_ald X (hp D o c) 14 (wn i) = some (wg D 14 i) := ha_14 hi
theorem hb_15 (hi : i < 400) : pm_ald X (hp D o c) 15 (wn i) = some (wg D 15 i) := ha_15 hi
theorem hb_16 (hi : i < 40) : pm_ald X (hp D o c) 16 (wn i) = some (wg D 16 i) := ha_16 hi
theorem hg_17_5 : pm_fld (hp D o c) 17 9 5 = some (.int (wg D 17 5)) := hf_17_5
theorem hb_18 (hi : i < 40) : pm_ald X (hp D o c) 18 (wn i) = some (wg D 18 i) := ha_18 hi
theorem hb_19 (hi : i < 40) : pm_ald X (hp D o c) 19 (wn i) = some (wg D 19 i) := ha_19 hi
theorem hb_20 (hi : i < 40) : pm_ald X (hp D o c) 20 (wn i) = some (wg D 20 i) := ha_20 hi
theorem hb_21 (hi : i < 40) : pm_ald X (hp D o c) 21 (wn i) = some (wg D 21 i) := ha_21 hi
theorem hb_22 (hi : i < 40) : pm_ald X (hp D o c) 22 (wn i) = some (wg D 22 i) := ha_22 hi
theorem hb_23 (hi : i < 3) : pm_ald X (hp D o c) 23 (wn i) = some (wg D 23 i) := ha_23 hi
theorem hb_24 (hi : i < 3) : pm_ald X (hp D o c) 24 (wn i) = some (wg D 24 i) := ha_24 hi
theorem hb_25 (hi : i < 12) : pm_ald X (hp D o c) 25 (wn i) = some (wg D 25 i) := ha_25 hi
theorem hg_27_4 : pm_fld (hp D o c) 27 3 4 = some (.int (wg D 27 4)) := hf_27_4
theorem hg_27_5 : pm_fld (hp D o c) 27 3 5 = some (.int (wg D 27 5)) := hf_27_5
theorem hb_28 (hi : i < 12) : pm_ald X (hp D o c) 28 (wn i) = some (wg D 28 i) := ha_28 hi
theorem hb_29 (hi : i < 12) : pm_ald X (hp D o c) 29 (wn i) = some (wg D 29 i) := ha_29 hi
theorem hb_30 (hi : i < 400) : pm_ald X (hp D o c) 30 (wn i) = some (wg D 30 i) := ha_30 hi
theorem hb_31 (hi : i < 40) : pm_ald X (hp D o c) 31 (wn i) = some (wg D 31 i) := ha_31 hi
theorem hg_32_1 : pm_fld (hp D o c) 32 8 1 = some (.int (wg D 32 1)) := hf_32_1
theorem hg_32_2 : pm_fld (hp D o c) 32 8 2 = some (.int (wg D 32 2)) := hf_32_2
theorem hg_32_3 : pm_fld (hp D o c) 32 8 3 = some (.int (wg D 32 3)) := hf_32_3
theorem hb_33 (hi : i < 400) : pm_ald X (hp D o c) 33 (wn i) = some (wg D 33 i) := ha_33 hi
theorem hg_34_2 : pm_fld (hp D o c) 34 6 2 = some (.int (wg D 34 2)) := hf_34_2
theorem hg_34_3 : pm_fld (hp D o c) 34 6 3 = some (.int (wg D 34 3)) := hf_34_3
theorem hg_34_4 : pm_fld (hp D o c) 34 6 4 = some (.int (wg D 34 4)) := hf_34_4
theorem hg_34_5 : pm_fld (hp D o c) 34 6 5 = some (.int (wg D 34 5)) := hf_34_5
theorem hg_34_6 : pm_fld (hp D o c) 34 6 6 = some (.int (wg D 34 6)) := hf_34_6
theorem hg_34_7 : pm_fld (hp D o c) 34 6 7 = some (.int (wg D 34 7)) := hf_34_7
theorem hg_35_6 : pm_fld (hp D o c) 35 7 6 = some (.int (wg D 35 6)) := hf_35_6
theorem hg_35_7 : pm_fld (hp D o c) 35 7 7 = some (.int (wg D 35 7)) := hf_35_7
theorem hg_35_8 : pm_fld (hp D o c) 35 7 8 = some (.int (wg D 35 8)) := hf_35_8
theorem hg_35_9 : pm_fld (hp D o c) 35 7 9 = some (.int (wg D 35 9)) := hf_35_9
theorem hg_35_10 : pm_fld (hp D o c) 35 7 10 = some (.int (wg D 35 10)) := hf_35_10
theorem hg_35_11 : pm_fld (hp D o c) 35 7 11 = some (.int (wg D 35 11)) := hf_35_11
theorem hg_35_12 : pm_fld (hp D o c) 35 7 12 = some (.int (wg D 35 12)) := hf_35_12
theorem hg_35_13 : pm_fld (hp D o c) 35 7 13 = some (.int (wg D 35 13)) := hf_35_13
theorem hg_35_14 : pm_fld (hp D o c) 35 7 14 = some (.int (wg D 35 14)) := hf_35_14
theorem hg_35_15 : pm_fld (hp D o c) 35 7 15 = some (.int (wg D 35 15)) := hf_35_15
theorem hg_35_16 : pm_fld (hp D o c) 35 7 16 = some (.int (wg D 35 16)) := hf_35_16
theorem hg_36_8 : pm_fld (hp D o c) 36 0 8 = some (.int (wg D 36 8)) := hf_36_8
theorem hg_36_9 : pm_fld (hp D o c) 36 0 9 = some (.int (wg D 36 9)) := hf_36_9
theorem hb_37 (hi : i < 16) : pm_ald X (hp D o c) 37 (wn i) = some (wg D 37 i) := ha_37 hi
theorem hb_38 (hi : i < 16) : pm_ald X (hp D o c) 38 (wn i) = some (wg D 38 i) := ha_38 hi
theorem hb_39 (hi : i < 16) : pm_ald X (hp D o c) 39 (wn i) = some (wg D 39 i) := ha_39 hi
theorem hb_40 (hi : i < 16) : pm_ald X (hp D o c) 40 (wn i) = some (wg D 40 i) := ha_40 hi
theorem hb_41 (hi : i < 16) : pm_ald X (hp D o c) 41 (wn i) = some (wg D 41 i) := ha_41 hi
theorem hb_42 (hi : i < 16) : pm_ald X (hp D o c) 42 (wn i) = some (wg D 42 i) := ha_42 hi
theorem hb_43 (hi : i < 16) : pm_ald X (hp D o c) 43 (wn i) = some (wg D 43 i) := ha_43 hi
theorem hb_44 (hi : i < 16) : pm_ald X (hp D o c) 44 (wn i) = some (wg D 44 i) := ha_44 hi
theorem hg_45_4 : pm_fld (hp D o c) 45 3 4 = some (.int (wg D 45 4)) := hf_45_4
theorem hg_45_5 : pm_fld (hp D o c) 45 3 5 = some (.int (wg D 45 5)) := hf_45_5
theorem hb_46 (hi : i < 12) : pm_ald X (hp D o c) 46 (wn i) = some (wg D 46 i) := ha_46 hi
theorem hb_47 (hi : i < 12) : pm_ald X (hp D o c) 47 (wn i) = some (wg D 47 i) := ha_47 hi
theorem hb_48 (hi : i < 400) : pm_ald X (hp D o c) 48 (wn i) = some (wg D 48 i) := ha_48 hi
theorem hb_49 (hi : i < 40) : pm_ald X (hp D o c) 49 (wn i) = some (wg D 49 i) := ha_49 hi
theorem hg_50_5 : pm_fld (hp D o c) 50 9 5 = some (.int (wg D 50 5)) := hf_50_5
theorem hb_51 (hi : i < 40) : pm_ald X (hp D o c) 51 (wn i) = some (wg D 51 i) := ha_51 hi
theorem hb_52 (hi : i < 40) : pm_ald X (hp D o c) 52 (wn i) = some (wg D 52 i) := ha_52 hi
theorem hb_53 (hi : i < 40) : pm_ald X (hp D o c) 53 (wn i) = some (wg D 53 i) := ha_53 hi
theorem hb_54 (hi : i < 40) : pm_ald X (hp D o c) 54 (wn i) = some (wg D 54 i) := ha_54 hi
theorem hb_55 (hi : i < 40) : pm_ald X (hp D o c) 55 (wn i) = some (wg D 55 i) := ha_55 hi
theorem hb_56 (hi : i < 3) : pm_ald X (hp D o c) 56 (wn i) = some (wg D 56 i) := ha_56 hi
theorem hb_57 (hi : i < 3) : pm_ald X (hp D o c) 57 (wn i) = some (wg D 57 i) := ha_57 hi
theorem hb_58 (hi : i < 12) : pm_ald X (hp D o c) 58 (wn i) = some (wg D 58 i) := ha_58 hi
theorem hg_59_6 : pm_fld (hp D o c) 59 7 6 = some (.int (wg D 59 6)) := hf_59_6
theorem hg_59_7 : pm_fld (hp D o c) 59 7 7 = some (.int (wg D 59 7)) := hf_59_7
theorem hg_59_8 : pm_fld (hp D o c) 59 7 8 = some (.int (wg D 59 8)) := hf_59_8
theorem hg_59_9 : pm_fld (hp D o c) 59 7 9 = some (.int (wg D 59 9)) := hf_59_9
theorem hg_59_10 : pm_fld (hp D o c) 59 7 10 = some (.int (wg D 59 10)) := hf_59_10
theorem hg_59_11 : pm_fld (hp D o c) 59 7 11 = some (.int (wg D 59 11)) := hf_59_11
theorem hg_59_12 : pm_fld (hp D o c) 59 7 12 = some (.int (wg D 59 12)) := hf_59_12
theorem hg_59_13 : pm_fld (hp D o c) 59 7 13 = some (.int (wg D 59 13)) := hf_59_13
theorem hg_59_14 : pm_fld (hp D o c) 59 7 14 = some (.int (wg D 59 14)) := hf_59_14
theorem hg_59_15 : pm_fld (hp D o c) 59 7 15 = some (.int (wg D 59 15)) := hf_59_15
theorem hg_59_16 : pm_fld (hp D o c) 59 7 16 = some (.int (wg D 59 16)) := hf_59_16
theorem hg_60_8 : pm_fld (hp D o c) 60 0 8 = some (.int (wg D 60 8)) := hf_60_8
theorem hg_60_9 : pm_fld (hp D o c) 60 0 9 = some (.int (wg D 60 9)) := hf_60_9
theorem hb_61 (hi : i < 16) : pm_ald X (hp D o c) 61 (wn i) = some (wg D 61 i) := ha_61 hi
theorem hb_62 (hi : i < 16) : pm_ald X (hp D o c) 62 (wn i) = some (wg D 62 i) := ha_62 hi
theorem hb_63 (hi : i < 16) : pm_ald X (hp D o c) 63 (wn i) = some (wg D 63 i) := ha_63 hi
theorem hb_64 (hi : i < 16) : pm_ald X (hp D o c) 64 (wn i) = some (wg D 64 i) := ha_64 hi
theorem hb_65 (hi : i < 16) : pm_ald X (hp D o c) 65 (wn i) = some (wg D 65 i) := ha_65 hi
theorem hb_66 (hi : i < 16) : pm_ald X (hp D o c) 66 (wn i) = some (wg D 66 i) := ha_66 hi
theorem hb_67 (hi : i < 16) : pm_ald X (hp D o c) 67 (wn i) = some (wg D 67 i) := ha_67 hi
theorem hb_68 (hi : i < 16) : pm_ald X (hp D o c) 68 (wn i) = some (wg D 68 i) := ha_68 hi
theorem hg_69_4 : pm_fld (hp D o c) 69 3 4 = some (.int (wg D 69 4)) := hf_69_4
theorem hg_69_5 : pm_fld (hp D o c) 69 3 5 = some (.int (wg D 69 5)) := hf_69_5
theorem hb_70 (hi : i < 12) : pm_ald X (hp D o c) 70 (wn i) = some (wg D 70 i) := ha_70 hi
theorem hb_71 (hi : i < 12) : pm_ald X (hp D o c) 71 (wn i) = some (wg D 71 i) := ha_71 hi
theorem hb_72 (hi : i < 400) : pm_ald X (hp D o c) 72 (wn i) = some (wg D 72 i) := ha_72 hi
theorem hb_73 (hi : i < 40) : pm_ald X (hp D o c) 73 (wn i) = some (wg D 73 i) := ha_73 hi
theorem hg_74_5 : pm_fld (hp D o c) 74 9 5 = some (.int (wg D 74 5)) := hf_74_5
theorem hb_75 (hi : i < 40) : pm_ald X (hp D o c) 75 (wn i) = some (wg D 75 i) := ha_75 hi
theorem hb_76 (hi : i < 40) : pm_ald X (hp D o c) 76 (wn i) = some (wg D 76 i) := ha_76 hi
theorem hb_77 (hi : i < 40) : pm_ald X (hp D o c) 77 (wn i) = some (wg D 77 i) := ha_77 hi
theorem hb_78 (hi : i < 40) : pm_ald X (hp D o c) 78 (wn i) = some (wg D 78 i) := ha_78 hi
theorem hb_79 (hi : i < 40) : pm_ald X (hp D o c) 79 (wn i) = some (wg D 79 i) := ha_79 hi
theorem hb_80 (hi : i < 3) : pm_ald X (hp D o c) 80 (wn i) = some (wg D 80 i) := ha_80 hi
theorem hb_81 (hi : i < 3) : pm_ald X (hp D o c) 81 (wn i) = some (wg D 81 i) := ha_81 hi
theorem hb_82 (hi : i < 12) : pm_ald X (hp D o c) 82 (wn i) = some (wg D 82 i) := ha_82 hi
theorem hg_83_1 : pm_fld (hp D o c) 83 1 1 = some (.int (wg D 83 1)) := hf_83_1
theorem hg_83_2 : pm_fld (hp D o c) 83 1 2 = some (.int (wg D 83 2)) := hf_83_2
theorem hg_83_3 : pm_fld (hp D o c) 83 1 3 = some (.int (wg D 83 3)) := hf_83_3
theorem hb_84 (hi : i < 200) : pm_ald X (hp D o c) 84 (wn i) = some (wg D 84 i) := ha_84 hi
theorem hg_85_0 : pm_fld (hp D o c) 85 5 0 = some (.int (wg D 85 0)) := hf_85_0
theorem hg_85_1 : pm_fld (hp D o c) 85 5 1 = some (.int (wg D 85 1)) := hf_85_1
theorem hg_85_2 : pm_fld (hp D o c) 85 5 2 = some (.int (wg D 85 2)) := hf_85_2
theorem hg_85_3 : pm_fld (hp D o c) 85 5 3 = some (.int (wg D 85 3)) := hf_85_3
theorem hg_86_2 : pm_fld (hp D o c) 86 10 2 = some (.int (wg D 86 2)) := hf_86_2
theorem hb_87 (hi : i < 78) : pm_ald X (hp D o c) 87 (wn i) = some (wg D 87 i) := ha_87 hi
theorem hb_88 (hi : i < 13) : pm_ald X (hp D o c) 88 (wn i) = some (wg D 88 i) := ha_88 hi
theorem hb_89 (hi : i < 8) : pm_ald X (hp D o c) 89 (wn i) = some (wg D 89 i) := ha_89 hi
theorem hg_90_0 : pm_fld (hp D o c) 90 12 0 = some (.int (wg D 90 0)) := hf_90_0
theorem hg_90_3 : pm_fld (hp D o c) 90 12 3 = some (.int (wg D 90 3)) := hf_90_3
theorem hg_90_6 : pm_fld (hp D o c) 90 12 6 = some (.int (wg D 90 6)) := hf_90_6
theorem hg_90_7 : pm_fld (hp D o c) 90 12 7 = some (.int (wg D 90 7)) := hf_90_7
theorem hg_90_8 : pm_fld (hp D o c) 90 12 8 = some (.int (wg D 90 8)) := hf_90_8
theorem hg_90_9 : pm_fld (hp D o c) 90 12 9 = some (.int (wg D 90 9)) := hf_90_9
theorem hg_90_10 : pm_fld (hp D o c) 90 12 10 = some (.int (wg D 90 10)) := hf_90_10
theorem hg_90_11 : pm_fld (hp D o c) 90 12 11 = some (.int (wg D 90 11)) := hf_90_11
theorem hg_90_13 : pm_fld (hp D o c) 90 12 13 = some (.int (wg D 90 13)) := hf_90_13
theorem hg_90_14 : pm_fld (hp D o c) 90 12 14 = some (.int (wg D 90 14)) := hf_90_14
theorem hg_90_15 : pm_fld (hp D o c) 90 12 15 = some (.int (wg D 90 15)) := hf_90_15
theorem hg_90_16 : pm_fld (hp D o c) 90 12 16 = some (.int (wg D 90 16)) := hf_90_16
theorem hg_90_17 : pm_fld (hp D o c) 90 12 17 = some (.int (wg D 90 17)) := hf_90_17
theorem hg_90_18 : pm_fld (hp D o c) 90 12 18 = some (.int (wg D 90 18)) := hf_90_18
theorem hg_90_19 : pm_fld (hp D o c) 90 12 19 = some (.int (wg D 90 19)) := hf_90_19
theorem hg_90_20 : pm_fld (hp D o c) 90 12 20 = some (.int (wg D 90 20)) := hf_90_20
theorem hb_91 (hi : i < 762) : pm_ald X (hp D o c) 91 (wn i) = some (wg D 91 i) := ha_91 hi
theorem hb_92 (hi : i < 762) : pm_ald X (hp D o c) 92 (wn i) = some (wg D 92 i) := ha_92 hi
theorem hb_93 (hi : i < 362) : pm_ald X (hp D o c) 93 (wn i) = some (wg D 93 i) := ha_93 hi
theorem hb_94 (hi : i < 400) : pm_ald X (hp D o c) 94 (wn i) = some (wg D 94 i) := ha_94 hi
theorem hb_95 (hi : i < 6) : pm_ald X (hp D o c) 95 (wn i) = some (wg D 95 i) := ha_95 hi
theorem hb_96 (hi : i < 78) : pm_ald X (hp D o c) 96 (wn i) = some (wg D 96 i) := ha_96 hi
end HPG
