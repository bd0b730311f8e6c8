/-! ===== the pure machine by what it comes to: WP holds if the run from here ends with Φ ===== -/
section WPS
variable {X : pm_X} {d mi pc : Nat} {ls st : List Value} {h : pm_H} {Φ : pm_O → pm_H → Prop}
def WP (X : pm_X) (d mi pc : Nat) (ls st : List Value) (h : pm_H) (Φ : pm_O → pm_H → Prop) : Prop := ∃ n r, pm_rn X n d mi pc ls st h = some r ∧ Φ r.1 r.2
/-- a call of method mj -/
def WC (X : pm_X) (d mj : Nat) (args : List Value) (h : pm_H) (Φ : pm_O → pm_H → Prop) : Prop := WP X d mj 0 (pm_pad mj args) [] h Φ
theorem pm_rn_up : ∀ (n : Nat) {d mi pc : Nat} {ls st : List Value} {h : pm_H} {r : pm_O × pm_H}, pm_rn X n d mi pc ls st h = some r → pm_rn X (n + 1) d mi pc ls st h = some r := by
  intro n
  induction n with
  | zero => intro d mi pc ls st h r hr; cases hr
  | succ n ih =>
    intro d mi pc ls st h r hr
    rw [pm_rn] at hr ⊢
    cases hcode : pm_code mi pc with
    | none => rw [hcode] at hr; cases hr
    | some i =>
      rw [hcode] at hr
      simp only at hr ⊢
      cases hs : pm_stp X i ls st h with
      | none => rw [hs] at hr; cases hr
      | some y =>
        rw [hs] at hr
        rcases y with ⟨pc', ls', st', h'⟩ | ⟨w, h'⟩ | k | ⟨mj, av, rest⟩
        · exact ih hr
        · exact hr
        · exact hr
        · simp only at hr ⊢
          split at hr
          · cases hr
          · rename_i haw
            rw [if_neg haw]
            cases d with
            | zero => cases hr
            | succ d =>
              simp only at hr ⊢
              cases hc : pm_rn X n d mj 0 (pm_pad mj av) [] h with
              | none => rw [hc] at hr; cases hr
              | some y =>
                rw [ih hc]
                rw [hc] at hr
                obtain ⟨y1, y2⟩ := y
                rcases y1 with w | k
                · exact ih hr
                · simp only at hr ⊢
                  split at hr
                  · rename_i h0
                    rw [if_pos h0]
                    exact hr
                  · rename_i h0
                    rw [if_neg h0]
                    split at hr
                    · cases hr
                    · exact ih hr
theorem pm_rn_le {n k : Nat} {r : pm_O × pm_H} (hr : pm_rn X n d mi pc ls st h = some r) (hk : n ≤ k) : pm_rn X k d mi pc ls st h = some r := by
  induction hk with
  | refl => exact hr
  | step _ ih => exact pm_rn_up _ ih
theorem pm_rn_det {n k : Nat} {r r' : pm_O × pm_H} (hr : pm_rn X n d mi pc ls st h = some r) (hr' : pm_rn X k d mi pc ls st h = some r') : r = r' := by
  have h1 := pm_rn_le hr (Nat.le_max_left n k)
  have h2 := pm_rn_le hr' (Nat.le_max_right n k)
  exact Option.some.inj (h1.symm.trans h2)
theorem WP_nx {i : pm_I} {pc' : Nat} {ls' st' : List Value} {h' : pm_H} (hc : pm_code mi pc = some i) (hs : pm_stp X i ls st h = some (.inl (pc', ls', st', h'))) : WP X d mi pc ls st h Φ ↔ WP X d mi pc' ls' st' h' Φ := by
  constructor
  · rintro ⟨n, r, hr, hΦ⟩
    cases n with
    | zero => cases hr
    | succ n =>
      rw [pm_rn, hc] at hr
      simp only [hs] at hr
      exact ⟨n, r, hr, hΦ⟩
  · rintro ⟨n, r, hr, hΦ⟩
    refine ⟨n + 1, r, ?_, hΦ⟩
    rw [pm_rn, hc]
    simp only [hs]
    exact hr
theorem WP_no {i : pm_I} (hc : pm_code mi pc = some i) (hs : pm_stp X i ls st h = none) : WP X d mi pc ls st h Φ ↔ False := by
  constructor
  · rintro ⟨n, r, hr, hΦ⟩
    cases n with
    | zero => cases hr
    | succ n =>
      rw [pm_rn, hc] at hr
      simp only [hs] at hr
      cases hr
  · exact False.elim
theorem WP_re {i : pm_I} {v : Option Value} {h' : pm_H} (hc : pm_code mi pc = some i) (hs : pm_stp X i ls st h = some (.inr (.inl (v, h')))) : WP X d mi pc ls st h Φ ↔ Φ (.inl v) h' := by
  constructor
  · rintro ⟨n, r, hr, hΦ⟩
    cases n with
    | zero => cases hr
    | succ n =>
      rw [pm_rn, hc] at hr
      simp only [hs, Option.some.injEq] at hr
      subst hr
      exact hΦ
  · intro hΦ
    refine ⟨1, (.inl v, h'), ?_, hΦ⟩
    rw [pm_rn, hc]
    simp only [hs]
theorem WP_th {i : pm_I} {k : Nat} (hc : pm_code mi pc = some i) (hs : pm_stp X i ls st h = some (.inr (.inr (.inl k)))) : WP X d mi pc ls st h Φ ↔ Φ (.inr k) (h.1, (h.2.1 + 1, h.2.2 + 6)) := by
  constructor
  · rintro ⟨n, r, hr, hΦ⟩
    cases n with
    | zero => cases hr
    | succ n =>
      rw [pm_rn, hc] at hr
      simp only [hs, Option.some.injEq] at hr
      subst hr
      exact hΦ
  · intro hΦ
    refine ⟨1, (.inr k, (h.1, (h.2.1 + 1, h.2.2 + 6))), ?_, hΦ⟩
    rw [pm_rn, hc]
    simp only [hs]
/-- how a caller goes on -/
def WK (X : pm_X) (d mi pc nx : Nat) (ls rest : List Value) (Φ : pm_O → pm_H → Prop) : pm_O → pm_H → Prop := fun o h' => match o with
  | .inl v => WP X d mi nx ls (v.toList ++ rest) h' Φ
  | .inr e => if pm_hs mi = [] then Φ (.inr e) h' else match pm_hnd (pm_hs mi) pc e with
    | none => False
    | some pc' => WP X d mi pc' ls [.float 0] h' Φ
theorem WP_ca {op nx : Nat} {i : Nat × (Nat × (Int × List Nat))} {mj : Nat} {av rest : List Value} (hc : pm_code mi pc = some (op, nx, i)) (hs : pm_stp X (op, nx, i) ls st h = some (.inr (.inr (.inr (mj, av, rest))))) (ha : av.all pm_w1 = true) :
    WP X (d + 1) mi pc ls st h Φ ↔ WC X d mj av h (WK X (d + 1) mi pc nx ls rest Φ) := by
  have hna : ¬ av.all pm_w1 = false := by rw [ha]; decide
  constructor
  · rintro ⟨n, r, hr, hΦ⟩
    cases n with
    | zero => cases hr
    | succ n =>
      rw [pm_rn, hc] at hr
      simp only [hs] at hr
      rw [if_neg hna] at hr
      cases hcl : pm_rn X n d mj 0 (pm_pad mj av) [] h with
      | none => rw [hcl] at hr; cases hr
      | some y =>
        rw [hcl] at hr
        obtain ⟨y1, y2⟩ := y
        refine ⟨n, (y1, y2), hcl, ?_⟩
        rcases y1 with w | k
        · exact ⟨n, r, hr, hΦ⟩
        · simp only at hr
          simp only [WK]
          split at hr
          · rename_i h0
            rw [if_pos h0]
            cases hr
            exact hΦ
          · rename_i h0
            rw [if_neg h0]
            split at hr
            · cases hr
            · rename_i pc9 hpc9
              rw [hpc9]
              exact ⟨n, r, hr, hΦ⟩
  · rintro ⟨n, y, hcl, hk⟩
    obtain ⟨y1, y2⟩ := y
    rcases y1 with w | k
    · obtain ⟨k2, r, hr, hΦ⟩ := hk
      refine ⟨max n k2 + 1, r, ?_, hΦ⟩
      rw [pm_rn, hc]
      simp only [hs]
      rw [if_neg hna, pm_rn_le hcl (Nat.le_max_left n k2)]
      exact pm_rn_le hr (Nat.le_max_right n k2)
    · simp only [WK] at hk
      split at hk
      · rename_i h0
        refine ⟨n + 1, (.inr k, y2), ?_, hk⟩
        rw [pm_rn, hc]
        simp only [hs]
        rw [if_neg hna, hcl]
        simp only
        rw [if_pos h0]
      · rename_i h0
        split at hk
        · cases hk
        · rename_i pc9 hpc9
          obtain ⟨k2, r, hr, hΦ⟩ := hk
          refine ⟨max n k2 + 1, r, ?_, hΦ⟩
          rw [pm_rn, hc]
          simp only [hs]
          rw [if_neg hna, pm_rn_le hcl (Nat.le_max_left n k2)]
          simp only
          rw [if_neg h0, hpc9]
          exact pm_rn_le hr (Nat.le_max_right n k2)
/-- a summary: the outcome is this one -/
theorem WC_iff {mj : Nat} {av : List Value} {o : pm_O} {h' : pm_H} (hs : WC X d mj av h (fun o2 h2 => o2 = o ∧ h2 = h')) : WC X d mj av h Φ ↔ Φ o h' := by
  obtain ⟨n, r, hr, rfl, rfl⟩ := hs
  constructor
  · rintro ⟨k, r', hr', hΦ⟩
    rw [pm_rn_det hr hr']
    exact hΦ
  · intro hΦ
    exact ⟨n, r, hr, hΦ⟩
theorem WP_mono {Ψ : pm_O → pm_H → Prop} (hw : WP X d mi pc ls st h Φ) (hq : ∀ o h', Φ o h' → Ψ o h') : WP X d mi pc ls st h Ψ := by
  obtain ⟨n, r, hr, hΦ⟩ := hw
  exact ⟨n, r, hr, hq _ _ hΦ⟩
end WPS
