/-! ===== the checks ===== -/
theorem sd_ca0 : (List.range' 0 20).all (fun mi => (pm_tab.getD mi []).all fun x => sd_ck mi x.1 x.2) = true := by decide +kernel
theorem sd_ca20 : (List.range' 20 20).all (fun mi => (pm_tab.getD mi []).all fun x => sd_ck mi x.1 x.2) = true := by decide +kernel
theorem sd_ca40 : (List.range' 40 20).all (fun mi => (pm_tab.getD mi []).all fun x => sd_ck mi x.1 x.2) = true := by decide +kernel
theorem sd_ca60 : (List.range' 60 20).all (fun mi => (pm_tab.getD mi []).all fun x => sd_ck mi x.1 x.2) = true := by decide +kernel
theorem sd_ca80 : (List.range' 80 20).all (fun mi => (pm_tab.getD mi []).all fun x => sd_ck mi x.1 x.2) = true := by decide +kernel
theorem sd_ca100 : (List.range' 100 20).all (fun mi => (pm_tab.getD mi []).all fun x => sd_ck mi x.1 x.2) = true := by decide +kernel
theorem sd_ca120 : (List.range' 120 20).all (fun mi => (pm_tab.getD mi []).all fun x => sd_ck mi x.1 x.2) = true := by decide +kernel
theorem sd_ca140 : (List.range' 140 20).all (fun mi => (pm_tab.getD mi []).all fun x => sd_ck mi x.1 x.2) = true := by decide +kernel
theorem sd_ca160 : (List.range' 160 20).all (fun mi => (pm_tab.getD mi []).all fun x => sd_ck mi x.1 x.2) = true := by decide +kernel
theorem sd_ca180 : (List.range' 180 20).all (fun mi => (pm_tab.getD mi []).all fun x => sd_ck mi x.1 x.2) = true := by decide +kernel
theorem sd_ca200 : (List.range' 200 20).all (fun mi => (pm_tab.getD mi []).all fun x => sd_ck mi x.1 x.2) = true := by decide +kernel
theorem sd_ca220 : (List.range' 220 20).all (fun mi => (pm_tab.getD mi []).all fun x => sd_ck mi x.1 x.2) = true := by decide +kernel
theorem sd_ca240 : (List.range' 240 18).all (fun mi => (pm_tab.getD mi []).all fun x => sd_ck mi x.1 x.2) = true := by decide +kernel
theorem sd_cl0 : (pmc_258_0.all fun x => sd_ck 258 x.1 x.2) = true := by decide +kernel
theorem sd_cl1 : (pmc_258_1.all fun x => sd_ck 258 x.1 x.2) = true := by decide +kernel
theorem sd_cl2 : (pmc_258_2.all fun x => sd_ck 258 x.1 x.2) = true := by decide +kernel
theorem sd_cl3 : (pmc_258_3.all fun x => sd_ck 258 x.1 x.2) = true := by decide +kernel
theorem sd_cl4 : (pmc_258_4.all fun x => sd_ck 258 x.1 x.2) = true := by decide +kernel
theorem sd_cl5 : (pmc_258_5.all fun x => sd_ck 258 x.1 x.2) = true := by decide +kernel
theorem sd_cl6 : (pmc_258_6.all fun x => sd_ck 258 x.1 x.2) = true := by decide +kernel
theorem sd_cl7 : (pmc_258_7.all fun x => sd_ck 258 x.1 x.2) = true := by decide +kernel
theorem sd_cl8 : (pmc_258_8.all fun x => sd_ck 258 x.1 x.2) = true := by decide +kernel
theorem sd_cl9 : (pmc_258_9.all fun x => sd_ck 258 x.1 x.2) = true := by decide +kernel
theorem sd_tab258 : pm_tab.getD 258 [] = pmc_258 := rfl
theorem sd_cl : (pmc_258.all fun x => sd_ck 258 x.1 x.2) = true := by
  simp only [pmc_258, List.all_append, sd_cl0, sd_cl1, sd_cl2, sd_cl3, sd_cl4, sd_cl5, sd_cl6, sd_cl7, sd_cl8, sd_cl9, Bool.and_self]
theorem sd_tabN {mi : Nat} (h : 259 ≤ mi) : pm_tab.getD mi [] = [] := by
  have hl : pm_tab.length = 259 := by decide +kernel
  rw [List.getD_eq_getElem?_getD, List.getElem?_eq_none (by omega)]
  rfl
theorem sd_all_ck (mi : Nat) : ((pm_tab.getD mi []).all fun x => sd_ck mi x.1 x.2) = true := by
  by_cases h0 : mi < 20
  · exact List.all_eq_true.mp sd_ca0 mi (List.mem_range'_1.mpr ⟨by omega, by omega⟩)
  by_cases h20 : mi < 40
  · exact List.all_eq_true.mp sd_ca20 mi (List.mem_range'_1.mpr ⟨by omega, by omega⟩)
  by_cases h40 : mi < 60
  · exact List.all_eq_true.mp sd_ca40 mi (List.mem_range'_1.mpr ⟨by omega, by omega⟩)
  by_cases h60 : mi < 80
  · exact List.all_eq_true.mp sd_ca60 mi (List.mem_range'_1.mpr ⟨by omega, by omega⟩)
  by_cases h80 : mi < 100
  · exact List.all_eq_true.mp sd_ca80 mi (List.mem_range'_1.mpr ⟨by omega, by omega⟩)
  by_cases h100 : mi < 120
  · exact List.all_eq_true.mp sd_ca100 mi (List.mem_range'_1.mpr ⟨by omega, by omega⟩)
  by_cases h120 : mi < 140
  · exact List.all_eq_true.mp sd_ca120 mi (List.mem_range'_1.mpr ⟨by omega, by omega⟩)
  by_cases h140 : mi < 160
  · exact List.all_eq_true.mp sd_ca140 mi (List.mem_range'_1.mpr ⟨by omega, by omega⟩)
  by_cases h160 : mi < 180
  · exact List.all_eq_true.mp sd_ca160 mi (List.mem_range'_1.mpr ⟨by omega, by omega⟩)
  by_cases h180 : mi < 200
  · exact List.all_eq_true.mp sd_ca180 mi (List.mem_range'_1.mpr ⟨by omega, by omega⟩)
  by_cases h200 : mi < 220
  · exact List.all_eq_true.mp sd_ca200 mi (List.mem_range'_1.mpr ⟨by omega, by omega⟩)
  by_cases h220 : mi < 240
  · exact List.all_eq_true.mp sd_ca220 mi (List.mem_range'_1.mpr ⟨by omega, by omega⟩)
  by_cases h240 : mi < 258
  · exact List.all_eq_true.mp sd_ca240 mi (List.mem_range'_1.mpr ⟨by omega, by omega⟩)
  by_cases h258 : mi = 258
  · subst h258
    rw [sd_tab258]
    exact sd_cl
  · rw [sd_tabN (by omega)]
    rfl
theorem pm_as_mem : ∀ {l : List (Nat × pm_I)} {pc : Nat} {i : pm_I}, pm_as l pc = some i → (pc, i) ∈ l
  | [], _, _, h => by cases h
  | (q, i') :: l, pc, i, h => by
    rw [pm_as] at h
    split at h
    · rename_i e
      cases h
      rw [Nat.eq_of_beq_eq_true e]
      exact List.mem_cons_self
    · exact List.mem_cons_of_mem _ (pm_as_mem h)
theorem sd_code_ck {mi pc : Nat} {i : pm_I} (h : pm_code mi pc = some i) : sd_ck mi pc i = true := List.all_eq_true.mp (sd_all_ck mi) (pc, i) (pm_as_mem h)
