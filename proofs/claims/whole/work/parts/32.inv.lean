/-! ===== what stands between two calls ===== -/
abbrev wLT : Type := Int32 → (Nat → Int32) → (Nat → Int32) → (Nat → Int32) → Int32 → Int32 → (Nat → Int32) → Prop
def wTp (D : wD) : Prop := (∃ n, n ≤ 400 ∧ wg D 32 1 = wn n ∧ wg D 90 6 = wn n) ∧ ∀ k, k < 400 → wg D 33 k = wg D 94 k
def wB1 (x : Int32) : Prop := x = wn 0 ∨ x = wn 1
def wLs (LW : wLT) (D : wD) : Prop := LW (wg D 45 4) (wg D 46) (wg D 47) (wg D 48) (wg D 91 4) (wg D 91 5) (fun k => wg D 91 (362 + k)) ∧ wB1 (wg D 90 13) ∧ wB1 (wg D 90 14)
def wmk (D : wD) : Nat → Int32 := wtb D 59 60 74 80 81 82
def wrk (D : wD) : Nat → Int32 := wrg D 92
def wKp (LW : wLT) (D : wD) : Prop := (wg D 0 10 = wn 0 ∧ wg D 90 3 = wn 0) ∨ (wg D 0 10 = wn 1 ∧ wg D 90 3 = wn 1 ∧ wI (wrk D) ∧ wmk D = wrk D ∧ LW (wg D 69 4) (wg D 70) (wg D 71) (wg D 72) (wg D 92 4) (wg D 92 5) (fun k => wg D 92 (362 + k)))
def wInv (LW : wLT) (D : wD) : Prop := wI (wr D) ∧ wm D = wr D ∧ wTp D ∧ wg D 0 11 = wg D 90 10 ∧ wLs LW D ∧ wKp LW D
/-- the cells that bear it -/
def wre (a k : Nat) : Prop := (a = 32 ∧ k = 1) ∨ a = 33 ∨ (a = 90 ∧ (k = 3 ∨ k = 6 ∨ k = 10 ∨ k = 13 ∨ k = 14)) ∨ a = 94 ∨ a = 0 ∨ (35 ≤ a ∧ a ≤ 82 ∧ a ≠ 49 ∧ a ≠ 73) ∨ a = 91 ∨ a = 92
def wnre (a k : Nat) : Prop := ¬ ((a = 32 ∧ k = 1) ∨ a = 33 ∨ (a = 90 ∧ (k = 3 ∨ k = 6 ∨ k = 10 ∨ k = 13 ∨ k = 14)) ∨ a = 94 ∨ a = 0 ∨ (35 ≤ a ∧ a ≤ 82 ∧ a ≠ 49 ∧ a ≠ 73) ∨ a = 91 ∨ a = 92)
section INV2
variable {LW : wLT} {D D' : wD} {a k j n b s t x z i : Nat} {v u : Int32}
theorem wtb_congr (h : ∀ a k, (a = s ∨ (b ≤ a ∧ a ≤ b + 8) ∨ (t ≤ a ∧ a ≤ t + 5) ∨ a = x ∨ a = z ∨ a = i) → wg D' a k = wg D a k) : wtb D' s b t x z i = wtb D s b t x z i := by
  funext j
  unfold wtb
  have hs : ∀ k, wg D' s k = wg D s k := fun k => h s k (Or.inl rfl)
  have hb : ∀ k, wg D' b k = wg D b k := fun k => h b k (by omega)
  have ht : ∀ k, wg D' t k = wg D t k := fun k => h t k (by omega)
  have hx : ∀ k, wg D' x k = wg D x k := fun k => h x k (by omega)
  have hz : ∀ k, wg D' z k = wg D z k := fun k => h z k (by omega)
  have hi : ∀ k, wg D' i k = wg D i k := fun k => h i k (by omega)
  by_cases h1 : j < 34
  · simp only [if_pos h1, hs, hb, ht, hx, hz, hi]
  · simp only [if_neg h1]
    by_cases h2 : j < 162
    · simp only [if_pos h2]
      apply h
      have := Nat.mod_lt (j - 34) (show 0 < 8 by decide)
      split
      · omega
      · split
        · omega
        · omega
    · simp only [if_neg h2]
      by_cases h3 : j < 362
      · simp only [if_pos h3]
        apply h
        have := Nat.mod_lt (j - 162) (show 0 < 5 by decide)
        omega
      · simp only [if_neg h3]
theorem wrg_congr (h : ∀ k, wg D' a k = wg D a k) : wrg D' a = wrg D a := by
  funext j
  unfold wrg
  rw [h]
theorem wm_congr (h : ∀ a k, wre a k → wg D' a k = wg D a k) : wm D' = wm D := wtb_congr fun a k ha => h a k (by unfold wre; omega)
theorem wmk_congr (h : ∀ a k, wre a k → wg D' a k = wg D a k) : wmk D' = wmk D := wtb_congr fun a k ha => h a k (by unfold wre; omega)
theorem wr_congr (h : ∀ a k, wre a k → wg D' a k = wg D a k) : wr D' = wr D := wrg_congr fun k => h 91 k (by unfold wre; omega)
theorem wrk_congr (h : ∀ a k, wre a k → wg D' a k = wg D a k) : wrk D' = wrk D := wrg_congr fun k => h 92 k (by unfold wre; omega)
theorem wrow (h : ∀ a k, wre a k → wg D' a k = wg D a k) (a : Nat) (ha : ∀ k, wre a k) : wg D' a = wg D a := funext fun k => h a k (ha k)
theorem wLs_congr (h : ∀ a k, wre a k → wg D' a k = wg D a k) : wLs LW D' = wLs LW D := by
  have f : (fun k => wg D' 91 (362 + k)) = fun k => wg D 91 (362 + k) := funext fun k => h 91 _ (by unfold wre; omega)
  unfold wLs
  rw [h 45 4 (by unfold wre; omega), wrow h 46 (fun k => by unfold wre; omega), wrow h 47 (fun k => by unfold wre; omega), wrow h 48 (fun k => by unfold wre; omega), h 91 4 (by unfold wre; omega), h 91 5 (by unfold wre; omega), f, h 90 13 (by unfold wre; omega), h 90 14 (by unfold wre; omega)]
theorem wKp_congr (h : ∀ a k, wre a k → wg D' a k = wg D a k) : wKp LW D' = wKp LW D := by
  have f : (fun k => wg D' 92 (362 + k)) = fun k => wg D 92 (362 + k) := funext fun k => h 92 _ (by unfold wre; omega)
  unfold wKp
  rw [h 69 4 (by unfold wre; omega), wrow h 70 (fun k => by unfold wre; omega), wrow h 71 (fun k => by unfold wre; omega), wrow h 72 (fun k => by unfold wre; omega), h 92 4 (by unfold wre; omega), h 92 5 (by unfold wre; omega), f, wmk_congr h, wrk_congr h, h 0 10 (by unfold wre; omega), h 90 3 (by unfold wre; omega)]
theorem wTp_congr (h : ∀ a k, wre a k → wg D' a k = wg D a k) : wTp D' = wTp D := by
  have f : (∀ k, k < 400 → wg D' 33 k = wg D' 94 k) = ∀ k, k < 400 → wg D 33 k = wg D 94 k := by
    apply forall_congr; intro k
    rw [h 33 k (by unfold wre; omega), h 94 k (by unfold wre; omega)]
  unfold wTp
  rw [h 32 1 (by unfold wre; omega), h 90 6 (by unfold wre; omega), f]
theorem wInv_congr (h : ∀ a k, wre a k → wg D' a k = wg D a k) : wInv LW D' = wInv LW D := by
  unfold wInv
  rw [wm_congr h, wr_congr h, wTp_congr h, wLs_congr h, wKp_congr h, h 0 11 (by unfold wre; omega), h 90 10 (by unfold wre; omega)]
theorem wInv_st (hn : ¬ ((a = 32 ∧ k = 1) ∨ a = 33 ∨ (a = 90 ∧ (k = 3 ∨ k = 6 ∨ k = 10 ∨ k = 13 ∨ k = 14)) ∨ a = 94 ∨ a = 0 ∨ (35 ≤ a ∧ a ≤ 82 ∧ a ≠ 49 ∧ a ≠ 73) ∨ a = 91 ∨ a = 92)) : wInv LW (wst D a k v) = wInv LW D := wInv_congr fun a' k' h' => by
  rw [wg_st, if_neg]
  rintro ⟨rfl, rfl⟩
  exact hn h'
theorem wInv_wgo {x y : Int32} : wInv LW (wgo D x y) = wInv LW D := by unfold wgo; rw [wInv_st (by omega), wInv_st (by omega), wInv_st (by omega)]
theorem wInv_wlh : wInv LW (wlh D k) = wInv LW D := by unfold wlh wlk; rw [wInv_st (by omega), wInv_st (by omega), wInv_st (by omega)]
theorem wInv_wlr : wInv LW (wlr D k) = wInv LW D := by unfold wlr; rw [wInv_st (by omega), wInv_st (by omega), wInv_st (by omega)]
theorem wInv_wrn {x y : Int32} : wInv LW (wrn D x y) = wInv LW D := by unfold wrn; rw [wInv_st (by omega), wInv_st (by omega)]
theorem wInv_wrf : wInv LW (wrf D k j) = wInv LW D := by unfold wrf; rw [wInv_wlr, wInv_wrn]
theorem wInv_wfD : wInv LW (wfD D k j) = wInv LW D := by unfold wfD; rw [wInv_wlh, wInv_wgo]
theorem wInv_wsD {x y z : Int32} : ∀ (n k : Nat) (D : wD), wInv LW (wsD x y z n k D) = wInv LW D
  | 0, _, _ => rfl
  | n + 1, k, D => by
    rw [wsD]
    split
    · exact wInv_wlh
    · rw [wInv_wsD n, wInv_wlh]
theorem wInv_wqD {x y z : Int32} : ∀ (n k : Nat) (D : wD), wInv LW (wqD x y z n k D) = wInv LW D
  | 0, _, _ => rfl
  | n + 1, k, D => by
    rw [wqD]
    split
    · exact wInv_wlr
    · rw [wInv_wqD n, wInv_wlr]
/-- a number of both states is set alike -/
theorem wr_put (h : j < 362) (h4 : j ≠ 4) (h5 : j ≠ 5) : wr (wst D 91 j v) = upd (wr D) j v := by
  funext k
  unfold wr wrg upd
  rw [wg_st]
  by_cases hk : k = j
  · subst hk
    rw [if_pos ⟨h, h4, h5⟩, if_pos ⟨rfl, rfl⟩, if_pos rfl]
  · rw [if_neg (c := 91 = 91 ∧ k = j) (fun h9 => hk h9.2), if_neg hk]
theorem wm_put {e f : Nat} (h : ∀ k, wm (wst D e f v) k = if k = j then v else wm D k) : wm (wst D e f v) = upd (wm D) j v := funext h
/-- the script and the long -/
theorem wL_self (l : Int64) : lg_cmp l l = wn 0 := by
  unfold lg_cmp
  simp
  rfl
theorem wL_upd (o : Nat → Int64) (l : Int64) : vp_updL o 0 l 0 = l := rfl
theorem hw_ms {X : pm_X} {h : pm_H} (hi : k < X.1) (hX : X.1 ≤ 3072) : pm_ald X h 1000 (wn k) = some (X.2 k) := whp_scr hi (by omega)
end INV2
