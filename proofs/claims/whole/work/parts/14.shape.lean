/-! ===== what an instruction of the pure machine may do ===== -/
def pm_shp (op : Nat) (h : pm_H) (r : pm_S) : Prop := match r with
  | .inl (_, _, _, h') => (op ≠ 40 ∧ op ≠ 41 ∧ op ≠ 42 ∧ op ≠ 45 ∧ op ≠ 60 ∧ op ≠ 61) ∧ (h'.2 = h.2 ∨ ∃ z, h'.2 = (h.2.1 + 1, h.2.2 + z) ∧ h.2.1 + 1 ≤ pm_mc ∧ h.2.2 + z ≤ pm_ms)
  | .inr (.inl (_, h')) => (op = 60 ∨ op = 61) ∧ h' = h
  | .inr (.inr (.inl _)) => op = 45 ∧ h.2.1 + 1 ≤ pm_mc ∧ h.2.2 + 6 ≤ pm_ms
  | .inr (.inr (.inr _)) => op = 40 ∨ op = 41 ∨ op = 42
section SHP
variable {X : pm_X} {ls st : List Value} {h : pm_H}
theorem pm_shN {op nx : Nat} {r : pm_S} {l k : List Value} {h2 : pm_H} (ho : op ≠ 40 ∧ op ≠ 41 ∧ op ≠ 42 ∧ op ≠ 45 ∧ op ≠ 60 ∧ op ≠ 61) (hh : h2.2 = h.2) (hs : pm_nx nx l k h2 = some r) : pm_shp op h r := by
  cases hs
  exact ⟨ho, Or.inl hh⟩
theorem pm_shM {op nx z : Nat} {r : pm_S} {l k : List Value} {h2 : pm_H} (ho : op ≠ 40 ∧ op ≠ 41 ∧ op ≠ 42 ∧ op ≠ 45 ∧ op ≠ 60 ∧ op ≠ 61) (hh : h2.2 = (h.2.1 + 1, h.2.2 + z) ∧ h.2.1 + 1 ≤ pm_mc ∧ h.2.2 + z ≤ pm_ms) (hs : pm_nx nx l k h2 = some r) : pm_shp op h r := by
  cases hs
  exact ⟨ho, Or.inr ⟨z, hh⟩⟩
theorem pm_sh2 {nx a : Nat} {r : pm_S} (hs : pm_s2 nx a ls st h = some r) : pm_shp 2 h r := by
  unfold pm_s2 at hs
  split at hs
  · exact pm_shN (by decide) rfl hs
  · cases hs
theorem pm_sh3 {nx a : Nat} {r : pm_S} (hs : pm_s3 nx a ls st h = some r) : pm_shp 3 h r := by
  unfold pm_s3 at hs
  split at hs
  · exact pm_shN (by decide) rfl hs
  · cases hs
theorem pm_sh6 {nx a : Nat} {v : Int} {r : pm_S} (hs : pm_s6 nx a v ls st h = some r) : pm_shp 6 h r := by
  unfold pm_s6 at hs
  split at hs
  · exact pm_shN (by decide) rfl hs
  · cases hs
theorem pm_sh20 {nx : Nat} {r : pm_S} (hs : pm_s20 nx ls st h = some r) : pm_shp 20 h r := by
  unfold pm_s20 at hs
  split at hs
  · exact pm_shN (by decide) rfl hs
  · cases hs
theorem pm_sh27 {nx : Nat} {r : pm_S} (hs : pm_s27 nx ls st h = some r) : pm_shp 27 h r := by
  unfold pm_s27 at hs
  split at hs
  · exact pm_shN (by decide) rfl hs
  · cases hs
theorem pm_sh28 {nx : Nat} {r : pm_S} (hs : pm_s28 nx ls st h = some r) : pm_shp 28 h r := by
  unfold pm_s28 at hs
  split at hs
  · exact pm_shN (by decide) rfl hs
  · cases hs
theorem pm_sh29 {nx : Nat} {r : pm_S} (hs : pm_s29 nx ls st h = some r) : pm_shp 29 h r := by
  unfold pm_s29 at hs
  split at hs
  · exact pm_shN (by decide) rfl hs
  · cases hs
theorem pm_sh31 {nx a b : Nat} {r : pm_S} (hs : pm_s31 nx a b ls st h = some r) : pm_shp 31 h r := by
  unfold pm_s31 at hs
  split at hs
  · exact pm_shN (by decide) rfl hs
  · cases hs
theorem pm_sh32 {nx a b : Nat} {r : pm_S} (hs : pm_s32 nx a b ls st h = some r) : pm_shp 32 h r := by
  unfold pm_s32 at hs
  split at hs
  · exact pm_shN (by decide) rfl hs
  · cases hs
theorem pm_sh34 {b : Nat} {v : Int} {ts : List Nat} {r : pm_S} (hs : pm_s34 b v ts ls st h = some r) : pm_shp 34 h r := by
  unfold pm_s34 at hs
  split at hs
  · exact pm_shN (by decide) rfl hs
  · cases hs
theorem pm_sh35 {nx : Nat} {r : pm_S} (hs : pm_s35 nx ls st h = some r) : pm_shp 35 h r := by
  unfold pm_s35 at hs
  split at hs
  · split at hs
    · exact pm_shN (by decide) rfl hs
    · cases hs
  · cases hs
theorem pm_sh36 {nx : Nat} {r : pm_S} (hs : pm_s36 nx ls st h = some r) : pm_shp 36 h r := by
  unfold pm_s36 at hs
  split at hs
  · split at hs
    · exact pm_shN (by decide) rfl hs
    · cases hs
  · cases hs
theorem pm_sh37 {nx : Nat} {r : pm_S} (hs : pm_s37 nx ls st h = some r) : pm_shp 37 h r := by
  unfold pm_s37 at hs
  split at hs
  · split at hs
    · exact pm_shN (by decide) rfl hs
    · cases hs
  · cases hs
theorem pm_sh4 {nx a : Nat} {r : pm_S} (hs : pm_s4 nx a ls st h = some r) : pm_shp 4 h r := by
  unfold pm_s4 at hs
  split at hs
  · split at hs
    · exact pm_shN (by decide) rfl hs
    · cases hs
  · cases hs
theorem pm_sh43 {nx : Nat} {r : pm_S} (hs : pm_s43 nx ls st h = some r) : pm_shp 43 h r := by
  unfold pm_s43 at hs
  split at hs
  · split at hs
    · exact pm_shN (by decide) rfl hs
    · cases hs
  · cases hs
theorem pm_sh50 {nx : Nat} {r : pm_S} (hs : pm_s50 nx ls st h = some r) : pm_shp 50 h r := by
  unfold pm_s50 at hs
  split at hs
  · split at hs
    · exact pm_shN (by decide) rfl hs
    · cases hs
  · cases hs
theorem pm_sh51 {nx : Nat} {r : pm_S} (hs : pm_s51 nx ls st h = some r) : pm_shp 51 h r := by
  unfold pm_s51 at hs
  split at hs
  · split at hs
    · exact pm_shN (by decide) rfl hs
    · cases hs
  · cases hs
theorem pm_sh5 {nx a : Nat} {r : pm_S} (hs : pm_s5 nx a ls st h = some r) : pm_shp 5 h r := by
  unfold pm_s5 at hs
  split at hs
  · split at hs
    · exact pm_shN (by decide) rfl hs
    · cases hs
  · split at hs
    · exact pm_shN (by decide) rfl hs
    · cases hs
  · cases hs
theorem pm_sh7 {nx a b : Nat} {r : pm_S} (hs : pm_s7 nx a b ls st h = some r) : pm_shp 7 h r := by
  unfold pm_s7 at hs
  split at hs
  · obtain ⟨w, hw, hs⟩ := Option.bind_eq_some_iff.mp hs
    exact pm_shN (by decide) rfl hs
  · cases hs
theorem pm_sh9 {nx : Nat} {r : pm_S} (hs : pm_s9 X nx ls st h = some r) : pm_shp 9 h r := by
  unfold pm_s9 at hs
  split at hs
  · obtain ⟨w, hw, hs⟩ := Option.bind_eq_some_iff.mp hs
    exact pm_shN (by decide) rfl hs
  · cases hs
theorem pm_sh11 {nx : Nat} {r : pm_S} (hs : pm_s11 nx ls st h = some r) : pm_shp 11 h r := by
  unfold pm_s11 at hs
  split at hs
  · obtain ⟨w, hw, hs⟩ := Option.bind_eq_some_iff.mp hs
    exact pm_shN (by decide) rfl hs
  · cases hs
theorem pm_sh13 {nx : Nat} {r : pm_S} (hs : pm_s13 nx ls st h = some r) : pm_shp 13 h r := by
  unfold pm_s13 at hs
  split at hs
  · obtain ⟨w, hw, hs⟩ := Option.bind_eq_some_iff.mp hs
    exact pm_shN (by decide) rfl hs
  · cases hs
theorem pm_sh14 {nx : Nat} {r : pm_S} (hs : pm_s14 X nx ls st h = some r) : pm_shp 14 h r := by
  unfold pm_s14 at hs
  split at hs
  · obtain ⟨w, hw, hs⟩ := Option.bind_eq_some_iff.mp hs
    exact pm_shN (by decide) rfl hs
  · cases hs
theorem pm_put_2 {q a k : Nat} {w : Value} {h' : pm_H} (hf : pm_put h q a k w = some h') : h'.2 = h.2 := by
  obtain ⟨fs, -, -, rfl⟩ := pm_put_inv hf
  rfl
theorem pm_ast_2 {q : Nat} {j x : Int32} {h' : pm_H} (hf : pm_ast h q j x = some h') : h'.2 = h.2 := by
  unfold pm_ast at hf
  split at hf
  · obtain ⟨w, -, rfl⟩ := Option.map_eq_some_iff.mp hf
    rfl
  · cases hf
theorem pm_last_2 {q : Nat} {j : Int32} {x : Int64} {h' : pm_H} (hf : pm_last h q j x = some h') : h'.2 = h.2 := by
  unfold pm_last at hf
  split at hf
  · obtain ⟨w, -, rfl⟩ := Option.map_eq_some_iff.mp hf
    rfl
  · cases hf
theorem pm_acp_2 {x y : Nat} {sp dp n : Int32} {h' : pm_H} (hf : pm_acp h x sp y dp n = some h') : h'.2 = h.2 := by
  obtain ⟨na, f, nb, g, -, -, -, -, -, -, -, rfl⟩ := pm_acp_inv hf
  rfl
theorem pm_sh8 {nx a b : Nat} {v : Int} {r : pm_S} (hs : pm_s8 nx a b v ls st h = some r) : pm_shp 8 h r := by
  unfold pm_s8 at hs
  split at hs
  · split at hs
    · obtain ⟨w, hw, hs⟩ := Option.bind_eq_some_iff.mp hs
      exact pm_shN (by decide) (pm_put_2 hw) hs
    · cases hs
  · split at hs
    · obtain ⟨w, hw, hs⟩ := Option.bind_eq_some_iff.mp hs
      exact pm_shN (by decide) (pm_put_2 hw) hs
    · cases hs
  · cases hs
theorem pm_sh10 {nx : Nat} {r : pm_S} (hs : pm_s10 nx ls st h = some r) : pm_shp 10 h r := by
  unfold pm_s10 at hs
  split at hs
  · obtain ⟨w, hw, hs⟩ := Option.bind_eq_some_iff.mp hs
    exact pm_shN (by decide) (pm_ast_2 hw) hs
  · cases hs
theorem pm_sh12 {nx : Nat} {r : pm_S} (hs : pm_s12 nx ls st h = some r) : pm_shp 12 h r := by
  unfold pm_s12 at hs
  split at hs
  · obtain ⟨w, hw, hs⟩ := Option.bind_eq_some_iff.mp hs
    exact pm_shN (by decide) (pm_last_2 hw) hs
  · cases hs
theorem pm_sh44 {nx : Nat} {r : pm_S} (hs : pm_s44 nx ls st h = some r) : pm_shp 44 h r := by
  unfold pm_s44 at hs
  split at hs
  · split at hs
    · obtain ⟨w, hw, hs⟩ := Option.bind_eq_some_iff.mp hs
      exact pm_shN (by decide) (pm_acp_2 hw) hs
    · cases hs
  · cases hs
theorem pm_shb {op nx : Nat} (ho : op ≠ 40 ∧ op ≠ 41 ∧ op ≠ 42 ∧ op ≠ 45 ∧ op ≠ 60 ∧ op ≠ 61) {r : pm_S} (hs : pm_sb op nx ls st h = some r) : pm_shp op h r := by
  unfold pm_sb at hs
  split at hs
  · obtain ⟨w, hw, hs⟩ := Option.bind_eq_some_iff.mp hs
    exact pm_shN ho rfl hs
  · cases hs
theorem pm_sh46 {nx a : Nat} {r : pm_S} (hs : pm_s46 nx a ls st h = some r) : pm_shp 46 h r := by
  unfold pm_s46 at hs
  obtain ⟨w, hw, hs⟩ := Option.bind_eq_some_iff.mp hs
  obtain ⟨q, hq, hs⟩ := Option.bind_eq_some_iff.mp hs
  obtain ⟨m1, m2, m3, rfl⟩ := pm_mk_inv hq
  exact pm_shM (by decide) ⟨rfl, m1, m2⟩ hs
theorem pm_sh47 {nx : Nat} {r : pm_S} (hs : pm_s47 nx ls st h = some r) : pm_shp 47 h r := by
  unfold pm_s47 at hs
  split at hs
  · split at hs
    · cases hs
    · obtain ⟨q, hq, hs⟩ := Option.bind_eq_some_iff.mp hs
      obtain ⟨m1, m2, m3, rfl⟩ := pm_mk_inv hq
      exact pm_shM (by decide) ⟨rfl, m1, m2⟩ hs
  · cases hs
theorem pm_sh48 {nx : Nat} {r : pm_S} (hs : pm_s48 nx ls st h = some r) : pm_shp 48 h r := by
  unfold pm_s48 at hs
  split at hs
  · split at hs
    · cases hs
    · obtain ⟨q, hq, hs⟩ := Option.bind_eq_some_iff.mp hs
      obtain ⟨m1, m2, m3, rfl⟩ := pm_mk_inv hq
      exact pm_shM (by decide) ⟨rfl, m1, m2⟩ hs
  · cases hs
theorem pm_sh40 {a b : Nat} {r : pm_S} (hs : pm_s40 a b st h = some r) : pm_shp 40 h r := by
  unfold pm_s40 at hs
  split at hs
  · rename_i q r9 hq
    generalize ((if b = 100 then decide (2000 ≤ q ∧ q < 2000 + pm_str.length) else pm_isC h q b) && pm_w8 r9 8) = B at hs
    cases B with
    | false => cases hs
    | true => cases hs; exact Or.inl rfl
  · cases hs
theorem pm_sh41 {a : Nat} {r : pm_S} (hs : pm_s41 a st = some r) : pm_shp 41 h r := by
  unfold pm_s41 at hs
  split at hs
  · cases hs
    exact Or.inr (Or.inl rfl)
  · cases hs
theorem pm_sh42 {a : Nat} {r : pm_S} (hs : pm_s42 a st h = some r) : pm_shp 42 h r := by
  unfold pm_s42 at hs
  split at hs
  · split at hs
    · cases hs
      exact Or.inr (Or.inr rfl)
    · cases hs
  · cases hs
theorem pm_sh45 {a : Nat} {r : pm_S} (hs : pm_s45 a st h = some r) : pm_shp 45 h r := by
  unfold pm_s45 at hs
  split at hs
  · rename_i hc
    simp only [Bool.and_eq_true, decide_eq_true_eq] at hc
    cases hs
    exact ⟨rfl, hc.1.2, hc.2⟩
  · cases hs
theorem pm_sh60 {a : Nat} {r : pm_S} (hs : pm_s60 a st h = some r) : pm_shp 60 h r := by
  unfold pm_s60 at hs
  split at hs
  · split at hs
    · cases hs
      exact ⟨Or.inl rfl, rfl⟩
    · cases hs
  · cases hs
theorem pm_sh61  {r : pm_S} (hs : pm_s61 st h = some r) : pm_shp 61 h r := by
  unfold pm_s61 at hs
  split at hs
  · cases hs
    exact ⟨Or.inr rfl, rfl⟩
  · cases hs
theorem pm_stp_shp {op nx a b : Nat} {v : Int} {ts : List Nat} {r : pm_S} (hk : op ∈ [1, 2, 3, 4, 5, 6, 7, 8, 9, 10, 11, 12, 13, 14, 15, 16, 17, 18, 19, 20, 21, 22, 23, 24, 25, 26, 27, 28, 29, 30, 31, 32, 33, 34, 35, 36, 37, 40, 41, 42, 43, 44, 45, 46, 47, 48, 49, 50, 51, 52, 53, 60, 61]) (hs : pm_stp X (op, nx, a, b, v, ts) ls st h = some r) : pm_shp op h r := by
  simp only [List.mem_cons, List.not_mem_nil, or_false] at hk
  rcases hk with rfl | rfl | rfl | rfl | rfl | rfl | rfl | rfl | rfl | rfl | rfl | rfl | rfl | rfl | rfl | rfl | rfl | rfl | rfl | rfl | rfl | rfl | rfl | rfl | rfl | rfl | rfl | rfl | rfl | rfl | rfl | rfl | rfl | rfl | rfl | rfl | rfl | rfl | rfl | rfl | rfl | rfl | rfl | rfl | rfl | rfl | rfl | rfl | rfl | rfl | rfl | rfl | rfl
  · exact pm_shN (by decide) rfl hs
  · exact pm_sh2 hs
  · exact pm_sh3 hs
  · exact pm_sh4 hs
  · exact pm_sh5 hs
  · exact pm_sh6 hs
  · exact pm_sh7 hs
  · exact pm_sh8 hs
  · exact pm_sh9 hs
  · exact pm_sh10 hs
  · exact pm_sh11 hs
  · exact pm_sh12 hs
  · exact pm_sh13 hs
  · exact pm_sh14 hs
  · exact pm_shb (by decide) hs
  · exact pm_shb (by decide) hs
  · exact pm_shb (by decide) hs
  · exact pm_shb (by decide) hs
  · exact pm_shb (by decide) hs
  · exact pm_sh20 hs
  · exact pm_shb (by decide) hs
  · exact pm_shb (by decide) hs
  · exact pm_shb (by decide) hs
  · exact pm_shb (by decide) hs
  · exact pm_shb (by decide) hs
  · exact pm_shb (by decide) hs
  · exact pm_sh27 hs
  · exact pm_sh28 hs
  · exact pm_sh29 hs
  · exact pm_shN (by decide) rfl hs
  · exact pm_sh31 hs
  · exact pm_sh32 hs
  · exact pm_shN (by decide) rfl hs
  · exact pm_sh34 hs
  · exact pm_sh35 hs
  · exact pm_sh36 hs
  · exact pm_sh37 hs
  · exact pm_sh40 hs
  · exact pm_sh41 hs
  · exact pm_sh42 hs
  · exact pm_sh43 hs
  · exact pm_sh44 hs
  · exact pm_sh45 hs
  · exact pm_sh46 hs
  · exact pm_sh47 hs
  · exact pm_sh48 hs
  · exact pm_shN (by decide) rfl hs
  · exact pm_sh50 hs
  · exact pm_sh51 hs
  · exact pm_shN (by decide) rfl hs
  · exact pm_shN (by decide) rfl hs
  · exact pm_sh60 hs
  · exact pm_sh61 hs
end SHP
theorem sd_ck_op {mi pc op nx a b : Nat} {v : Int} {ts : List Nat} (h : sd_ck mi pc (op, nx, a, b, v, ts) = true) : op ∈ [1, 2, 3, 4, 5, 6, 7, 8, 9, 10, 11, 12, 13, 14, 15, 16, 17, 18, 19, 20, 21, 22, 23, 24, 25, 26, 27, 28, 29, 30, 31, 32, 33, 34, 35, 36, 37, 40, 41, 42, 43, 44, 45, 46, 47, 48, 49, 50, 51, 52, 53, 60, 61] := by
  simp only [sd_ck, sd_g0, sd_g1, sd_g2, sd_g3, sd_g4, sd_g5, Bool.or_eq_true, Bool.and_eq_true, Nat.beq_eq] at h
  simp only [List.mem_cons, List.not_mem_nil, or_false]
  rcases h with (((((((((((((h | h) | h) | h) | h) | h) | h) | h) | h) | ((((((((h | h) | h) | h) | h) | h) | h) | h) | h)) | ((((((((h | h) | h) | h) | h) | h) | h) | h) | h)) | ((((((((h | h) | h) | h) | h) | h) | h) | h) | h)) | ((((((((h | h) | h) | h) | h) | h) | h) | h) | h)) | (((((((h | h) | h) | h) | h) | h) | h) | h))
  all_goals simp [h.1]
