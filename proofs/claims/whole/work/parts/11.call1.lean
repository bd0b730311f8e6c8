def sd_xi : List Nat := [109, 110, 111, 113]
def sd_KD : List (Nat × (Nat × Nat)) := [(2, 0, 0), (1, 0, 1), (1, 0, 1), (2, 1, 0), (1, 1, 4), (1, 1, 4), (1, 1, 2), (1, 1, 4), (1, 1, 3), (1, 1, 2), (2, 2, 0), (1, 2, 2), (1, 2, 1), (1, 2, 2), (1, 2, 2), (1, 2, 2), (1, 2, 2), (1, 2, 1), (1, 2, 1), (1, 2, 1), (2, 3, 0), (1, 3, 0), (1, 3, 1), (1, 3, 1), (1, 3, 1), (1, 3, 1), (1, 3, 3), (1, 3, 2), (1, 3, 2), (0, 0, 3), (1, 3, 1), (2, 4, 0), (1, 4, 1), (1, 4, 2), (1, 4, 2), (1, 4, 1), (1, 4, 1), (2, 5, 0), (1, 5, 3), (1, 5, 4), (1, 5, 2), (1, 5, 2), (1, 5, 2), (2, 6, 0), (1, 6, 0), (1, 6, 2), (1, 6, 1), (1, 6, 3), (1, 6, 1), (1, 6, 1), (1, 6, 1), (1, 6, 1), (1, 6, 2), (1, 6, 2), (1, 6, 1), (1, 6, 1), (1, 6, 3), (1, 6, 1), (1, 6, 1), (1, 6, 4), (1, 6, 2), (1, 6, 3), (1, 6, 1), (1, 6, 3), (1, 6, 1), (1, 6, 3), (1, 6, 1), (1, 6, 2), (1, 6, 2), (1, 6, 2), (2, 7, 0), (1, 7, 1), (1, 7, 2), (1, 7, 1), (2, 8, 0), (1, 8, 1), (1, 8, 1), (1, 8, 0), (1, 8, 0), (1, 8, 1), (1, 8, 0), (1, 8, 0), (1, 8, 1), (1, 8, 1), (1, 8, 1), (1, 8, 1), (1, 8, 0), (1, 8, 3), (1, 8, 4), (1, 8, 2), (1, 8, 1), (2, 9, 0), (1, 9, 5), (1, 9, 1), (2, 10, 0), (1, 10, 1), (1, 10, 2), (1, 10, 3), (1, 10, 2), (1, 10, 1), (2, 11, 0), (1, 11, 5), (1, 11, 1), (1, 11, 0), (1, 11, 0), (1, 11, 0), (1, 11, 2), (1, 11, 2), (1, 11, 4), (1, 11, 2), (1, 11, 2), (1, 11, 1), (1, 11, 1), (1, 11, 2), (1, 11, 5), (1, 11, 2), (1, 11, 0), (1, 11, 1), (1, 11, 0), (1, 11, 4), (1, 11, 2), (1, 11, 4), (1, 11, 5), (1, 11, 3), (1, 11, 1), (1, 11, 3), (1, 11, 0), (1, 11, 0), (1, 11, 1), (1, 11, 1), (1, 11, 1), (1, 11, 1), (1, 11, 2), (1, 11, 0), (1, 11, 1), (1, 11, 1), (0, 0, 1), (0, 0, 1), (0, 0, 2), (0, 0, 2), (2, 12, 0), (1, 12, 0), (0, 0, 3), (1, 12, 2), (1, 12, 1), (1, 12, 1), (1, 12, 1), (1, 12, 1), (1, 12, 2), (0, 0, 2), (1, 12, 5), (1, 12, 1), (1, 12, 1), (1, 12, 0), (1, 12, 1), (1, 12, 0), (1, 12, 1), (1, 12, 1), (1, 12, 1), (1, 12, 3), (1, 12, 2), (1, 12, 2), (1, 12, 0), (1, 12, 0), (1, 12, 0), (1, 12, 1), (1, 12, 0), (1, 12, 0), (1, 12, 0), (1, 12, 0), (1, 12, 0), (1, 12, 0), (1, 12, 0), (1, 12, 0), (1, 12, 0), (1, 12, 0), (1, 12, 0), (1, 12, 1), (1, 12, 0), (1, 12, 1), (1, 12, 1), (1, 12, 1), (1, 12, 1), (1, 12, 0), (1, 12, 4), (1, 12, 4), (1, 12, 4), (1, 12, 3), (1, 12, 4), (1, 12, 1), (1, 12, 1), (1, 12, 2), (1, 12, 2), (0, 0, 2), (1, 12, 4), (1, 12, 2), (1, 12, 2), (1, 12, 1), (1, 12, 1), (1, 12, 1), (1, 12, 2), (1, 12, 5), (1, 12, 5), (1, 12, 2), (1, 12, 0), (1, 12, 5), (1, 12, 2), (1, 12, 1), (1, 12, 1), (1, 12, 0), (1, 12, 4), (1, 12, 2), (1, 12, 4), (1, 12, 5), (1, 12, 3), (1, 12, 2), (1, 12, 1), (1, 12, 3), (1, 12, 0), (1, 12, 0), (1, 12, 1), (0, 0, 1), (0, 0, 2), (0, 0, 2), (0, 0, 2), (0, 0, 2), (1, 100, 0), (1, 100, 1), (1, 100, 0), (1, 100, 0), (0, 0, 2), (0, 0, 2), (0, 0, 2), (0, 0, 1), (0, 0, 2), (0, 0, 2), (0, 0, 2), (0, 0, 3), (0, 0, 2), (0, 0, 2), (0, 0, 4), (0, 0, 4), (0, 0, 6), (0, 0, 4), (0, 0, 4), (0, 0, 3), (0, 0, 3), (0, 0, 4), (0, 0, 7), (0, 0, 4), (0, 0, 3), (0, 0, 6), (0, 0, 4), (0, 0, 6), (0, 0, 7), (0, 0, 5), (0, 0, 3), (0, 0, 5)]
/-! ===== calls, returns, throws, catches ===== -/
def sd_xn : List String := ["java/lang/RuntimeException", "java/lang/Exception"]
def sd_ex (k : Nat) : String := sd_EX.getD k ""
def sd_ic (k : Nat) : Nat := [102, 112, 280, 186].getD k 0
theorem sd_tl_ok : ∀ q ∈ sd_tl, (sd_is q.2.2.2.2.2.2 (.classLink (sd_o q.1) q.2.1 (sd_ex q.2.2.2.2.1)) && decide (q.2.2.2.2.1 < 4) && decide (q.1 = 11) && decide (q.2.2.2.1 = sd_ic q.2.2.2.2.1)) = true := by decide +kernel
theorem sd_at0 : ((vx_atS (sd_o 11) 102 (sd_ex 0) sd_xn).all fun w => decide (w ∈ lw_tbl) && sd_gw w && vx_ot w) = true := by decide +kernel
theorem sd_at1 : ((vx_atS (sd_o 11) 112 (sd_ex 1) sd_xn).all fun w => decide (w ∈ lw_tbl) && sd_gw w && vx_ot w) = true := by decide +kernel
theorem sd_at2 : ((vx_atS (sd_o 11) 280 (sd_ex 2) sd_xn).all fun w => decide (w ∈ lw_tbl) && sd_gw w && vx_ot w) = true := by decide +kernel
theorem sd_at3 : (((sd_nw (sd_o 11) 186 (sd_ex 3)).filter vx_no).all fun w => decide (w ∈ lw_tbl) && sd_gw w && vx_ot w) = true := by decide +kernel
def sd_wa (k : Nat) : List Cond := if k = 3 then (sd_nw (sd_o 11) (sd_ic k) (sd_ex k)).filter vx_no else vx_atS (sd_o 11) (sd_ic k) (sd_ex k) sd_xn
theorem sd_at_ok : ∀ k, k < 4 → ((sd_wa k).all fun w => decide (w ∈ lw_tbl) && sd_gw w && vx_ot w) = true := by
  intro k hk
  rcases (show k = 0 ∨ k = 1 ∨ k = 2 ∨ k = 3 by omega) with rfl | rfl | rfl | rfl
  · exact sd_at0
  · exact sd_at1
  · exact sd_at2
  · exact sd_at3
theorem sd_xi_ok : ∀ k, k < 4 → sd_is (sd_xi.getD k 0) (.initialized (sd_ex k)) = true ∧ Bundle.fit (sd_ex k) = true := by decide +kernel
theorem sd_xn_ok : ∀ n ∈ sd_xn, Bundle.fit n = true := by decide +kernel
def sd_kd (a : Nat) : Nat × (Nat × Nat) := sd_KD.getD a (9, 0, 0)
def sd_cn (b : Nat) : String := if b = 100 then "java/lang/String" else (sd_k b).1
theorem sd_pd0 : ((List.range' 0 20).all fun a => decide ((parseMethodDescriptor (sd_y a).desc).map (fun q => q.parameters.length) = some (sd_kd a).2.2)) = true := by decide +kernel
theorem sd_pd20 : ((List.range' 20 20).all fun a => decide ((parseMethodDescriptor (sd_y a).desc).map (fun q => q.parameters.length) = some (sd_kd a).2.2)) = true := by decide +kernel
theorem sd_pd40 : ((List.range' 40 20).all fun a => decide ((parseMethodDescriptor (sd_y a).desc).map (fun q => q.parameters.length) = some (sd_kd a).2.2)) = true := by decide +kernel
theorem sd_pd60 : ((List.range' 60 20).all fun a => decide ((parseMethodDescriptor (sd_y a).desc).map (fun q => q.parameters.length) = some (sd_kd a).2.2)) = true := by decide +kernel
theorem sd_pd80 : ((List.range' 80 20).all fun a => decide ((parseMethodDescriptor (sd_y a).desc).map (fun q => q.parameters.length) = some (sd_kd a).2.2)) = true := by decide +kernel
theorem sd_pd100 : ((List.range' 100 20).all fun a => decide ((parseMethodDescriptor (sd_y a).desc).map (fun q => q.parameters.length) = some (sd_kd a).2.2)) = true := by decide +kernel
theorem sd_pd120 : ((List.range' 120 20).all fun a => decide ((parseMethodDescriptor (sd_y a).desc).map (fun q => q.parameters.length) = some (sd_kd a).2.2)) = true := by decide +kernel
theorem sd_pd140 : ((List.range' 140 20).all fun a => decide ((parseMethodDescriptor (sd_y a).desc).map (fun q => q.parameters.length) = some (sd_kd a).2.2)) = true := by decide +kernel
theorem sd_pd160 : ((List.range' 160 20).all fun a => decide ((parseMethodDescriptor (sd_y a).desc).map (fun q => q.parameters.length) = some (sd_kd a).2.2)) = true := by decide +kernel
theorem sd_pd180 : ((List.range' 180 20).all fun a => decide ((parseMethodDescriptor (sd_y a).desc).map (fun q => q.parameters.length) = some (sd_kd a).2.2)) = true := by decide +kernel
theorem sd_pd200 : ((List.range' 200 20).all fun a => decide ((parseMethodDescriptor (sd_y a).desc).map (fun q => q.parameters.length) = some (sd_kd a).2.2)) = true := by decide +kernel
theorem sd_pd220 : ((List.range' 220 20).all fun a => decide ((parseMethodDescriptor (sd_y a).desc).map (fun q => q.parameters.length) = some (sd_kd a).2.2)) = true := by decide +kernel
theorem sd_pd240 : ((List.range' 240 18).all fun a => decide ((parseMethodDescriptor (sd_y a).desc).map (fun q => q.parameters.length) = some (sd_kd a).2.2)) = true := by decide +kernel
theorem sd_pd_ok (a : Nat) (ha : a < 258) : (parseMethodDescriptor (sd_y a).desc).map (fun q => q.parameters.length) = some (sd_kd a).2.2 := by
  by_cases h0 : a < 20
  · exact of_decide_eq_true (List.all_eq_true.mp sd_pd0 a (List.mem_range'_1.mpr ⟨by omega, by omega⟩))
  by_cases h20 : a < 40
  · exact of_decide_eq_true (List.all_eq_true.mp sd_pd20 a (List.mem_range'_1.mpr ⟨by omega, by omega⟩))
  by_cases h40 : a < 60
  · exact of_decide_eq_true (List.all_eq_true.mp sd_pd40 a (List.mem_range'_1.mpr ⟨by omega, by omega⟩))
  by_cases h60 : a < 80
  · exact of_decide_eq_true (List.all_eq_true.mp sd_pd60 a (List.mem_range'_1.mpr ⟨by omega, by omega⟩))
  by_cases h80 : a < 100
  · exact of_decide_eq_true (List.all_eq_true.mp sd_pd80 a (List.mem_range'_1.mpr ⟨by omega, by omega⟩))
  by_cases h100 : a < 120
  · exact of_decide_eq_true (List.all_eq_true.mp sd_pd100 a (List.mem_range'_1.mpr ⟨by omega, by omega⟩))
  by_cases h120 : a < 140
  · exact of_decide_eq_true (List.all_eq_true.mp sd_pd120 a (List.mem_range'_1.mpr ⟨by omega, by omega⟩))
  by_cases h140 : a < 160
  · exact of_decide_eq_true (List.all_eq_true.mp sd_pd140 a (List.mem_range'_1.mpr ⟨by omega, by omega⟩))
  by_cases h160 : a < 180
  · exact of_decide_eq_true (List.all_eq_true.mp sd_pd160 a (List.mem_range'_1.mpr ⟨by omega, by omega⟩))
  by_cases h180 : a < 200
  · exact of_decide_eq_true (List.all_eq_true.mp sd_pd180 a (List.mem_range'_1.mpr ⟨by omega, by omega⟩))
  by_cases h200 : a < 220
  · exact of_decide_eq_true (List.all_eq_true.mp sd_pd200 a (List.mem_range'_1.mpr ⟨by omega, by omega⟩))
  by_cases h220 : a < 240
  · exact of_decide_eq_true (List.all_eq_true.mp sd_pd220 a (List.mem_range'_1.mpr ⟨by omega, by omega⟩))
  by_cases h240 : a < 258
  · exact of_decide_eq_true (List.all_eq_true.mp sd_pd240 a (List.mem_range'_1.mpr ⟨by omega, by omega⟩))
  omega
theorem sd_na_ok : ∀ a, a < 258 → (decide (pm_na a = (sd_kd a).2.2 + (if (sd_kd a).1 = 0 then 0 else 1)) && decide ((sd_kd a).2.1 = 100 ∨ (sd_kd a).2.1 < 13)) = true := by decide +kernel
noncomputable def sd_isW (a : Nat) : Bool := match (sd_kd a).1 with
  | 0 => sd_is (sd_mx a).2.1 (.static (sd_y a))
  | 1 => sd_is (sd_mx a).2.1 (.instanceMethod (sd_y a)) && sd_is (sd_mx a).2.2.1 (.selects (sd_cn (sd_kd a).2.1) (sd_y a) (sd_y a))
  | _ => sd_is (sd_mx a).2.1 (.instanceMethod (sd_y a)) && decide ((sd_y a).name = "<init>") && decide (sd_hh a = []) && decide (sd_rt a = none)
theorem sd_isW_ok : ∀ a, a < 258 → sd_isW a = true := by decide +kernel
noncomputable def sd_isK (x : Nat × pm_I) : Bool := (!(Nat.beq x.2.1 41) || Nat.beq (sd_kd x.2.2.2.1).1 0) && (!(Nat.beq x.2.1 40) || (Nat.beq (sd_kd x.2.2.2.1).1 1 && Nat.beq (sd_kd x.2.2.2.1).2.1 x.2.2.2.2.1)) && (!(Nat.beq x.2.1 42) || Nat.beq (sd_kd x.2.2.2.1).1 2)
theorem sd_isK_ok : ((List.range 258).all fun mi => (pm_tab.getD mi []).all sd_isK) = true := by decide +kernel
theorem sd_isK_cl : (pmc_258.all sd_isK) = true := by decide +kernel
theorem sd_isK_at {mi pc : Nat} {i : pm_I} (h : pm_code mi pc = some i) : sd_isK (pc, i) = true := by
  have hm := pm_as_mem h
  have key : ((pm_tab.getD mi []).all sd_isK) = true := by
    by_cases h1 : mi < 258
    · exact List.all_eq_true.mp sd_isK_ok mi (List.mem_range.mpr h1)
    · by_cases h2 : mi = 258
      · subst h2
        rw [sd_tab258]
        exact sd_isK_cl
      · rw [sd_tabN (by omega)]
        rfl
  exact List.all_eq_true.mp key _ hm
theorem sd_mo_ok : ∀ mi, mi < 258 → (decide ((sd_y mi).cls = sd_o (sd_oc mi)) && decide (pm_ml mi ≤ 20) && decide (pm_na mi ≤ pm_ml mi)) = true := by decide +kernel
theorem sd_hs_ok : ∀ mi, mi < 258 → pm_hs mi = [] → sd_hh mi = [] := by decide +kernel
theorem sd_chr0 : ∀ a, a < 256 → ∀ b, b < 256 → (nI (256 * a + b)).toUInt32.toUInt16.toUInt32.toInt32 = nI (256 * a + b) := by decide +kernel
theorem sd_chr {x : Int32} (h1 : 0 ≤ x) (h2 : x < 65536) : x.toUInt32.toUInt16.toUInt32.toInt32 = x := by
  obtain ⟨j, hj, rfl⟩ := nI_of (x := x) (by rw [Int32.not_lt]; exact h1)
  have h3 : j < 65536 := by
    have := Int32.lt_iff_toInt_lt.mp h2
    rw [nI_toInt hj] at this
    have h9 : (65536 : Int32).toInt = 65536 := by decide
    rw [h9] at this
    omega
  have h4 := sd_chr0 (j / 256) (by omega) (j % 256) (by omega)
  rwa [show 256 * (j / 256) + j % 256 = j by omega] at h4
section SDC
variable {p : Program} {l : Launch} {e : Env} {R : Room} {s : State} {m : MethodId} {args : Array Value} {below : List Frame} {meth : Method} {c : Code} {H : Heap} {locs : List Loc} {cells slots : Nat} {Q : State → Prop}
variable {D : va_G} {cI cL : ClassId} {base b0 : Nat} {adX : Nat → Nat} {k0 s0 nL mi d : Nat} {ad : Nat → Nat} {ls st : List Value} {h : pm_H} {Ls : Array Slot} {St : List Value} {pc : Nat} {X : pm_X} {pc' : Nat} {ls' st' : List Value} {h' : pm_H}
theorem sd_mono {Q2 : State → Prop} {g : JFrame} (hq : ∀ t, Q t → Q2 t) (k : W p l e R s m args below meth c H locs cells slots Q g) : W p l e R s m args below meth c H locs cells slots Q2 g := by
  intro T hT X
  obtain ⟨t, a, b⟩ := k T hT X
  exact ⟨t, a, hq t b⟩
def sd_Pt (D : va_G) (cI cL : ClassId) (base : Nat) (adX : Nat → Nat) (ad : Nat → Nat) (N : Nat) (h' : pm_H) (st t : State) : Prop :=
  ∃ ad' : Nat → Nat, sd_le N ad ad' ∧ N ≤ h'.1.length ∧ sd_W D cI cL base adX ad' h' t.heap ∧ st.heap.size ≤ t.heap.size ∧ ∀ q, q < st.heap.size → ¬ sd_A base q → t.heap[q]? = st.heap[q]?
def sd_Qc (D : va_G) (cI cL : ClassId) (base : Nat) (adX : Nat → Nat) (ad : Nat → Nat) (N : Nat) (r : pm_O × pm_H) : Array Value → State → Outcome → State → Prop := fun _ st o t =>
  ∃ v, r.1 = .inl v ∧ (v = none ∨ ∃ x, v = some (.int x)) ∧ o = .returned v ∧ sd_Pt D cI cL base adX ad N r.2 st t
def sd_Xc (D : va_G) (cI cL : ClassId) (base : Nat) (adX : Nat → Nat) (ad : Nat → Nat) (N : Nat) (r : pm_O × pm_H) : String → State → State → Prop := fun E st t =>
  ∃ k, r.1 = .inr k ∧ k < 4 ∧ E = sd_ex k ∧ sd_Pt D cI cL base adX ad N r.2 st t
abbrev sd_End (D : va_G) (cI cL : ClassId) (base : Nat) (adX : Nat → Nat) (below : List Frame) (ad : Nat → Nat) (N : Nat) (r : pm_O × pm_H) (args : Array Value) (s : State) (mc ms : Nat) : State → Prop :=
  vx_MQ below (sd_Qc D cI cL base adX ad N r) (sd_Xc D cI cL base adX ad N r) args s mc ms (sd_A base)
theorem sd_Pt.up {ad1 : Nat → Nat} {N N1 : Nat} {st t : State} (hN : N ≤ N1) (hl : sd_le N ad ad1) (h1 : sd_Pt D cI cL base adX ad1 N1 h' st t) : sd_Pt D cI cL base adX ad N h' st t := by
  obtain ⟨ad', a1, a2, a3⟩ := h1
  exact ⟨ad', sd_le.tr hN hl a1, Nat.le_trans hN a2, a3⟩
theorem sd_End.up {ad1 : Nat → Nat} {N N1 mc ms : Nat} {r : pm_O × pm_H} (hN : N ≤ N1) (hl : sd_le N ad ad1) (t : State) (h1 : sd_End D cI cL base adX below ad1 N1 r args s mc ms t) : sd_End D cI cL base adX below ad N r args s mc ms t := by
  obtain ⟨o, g1, g2, g3⟩ := h1
  refine ⟨o, g1, g2, ?_⟩
  rcases g3 with ⟨⟨v, a1, a2, a3, a4⟩, g4⟩ | ⟨q, rfl, E, ce, L, ⟨k, a1, a2, a3, a4⟩, g5⟩
  · exact Or.inl ⟨⟨v, a1, a2, a3, a4.up hN hl⟩, g4⟩
  · exact Or.inr ⟨q, rfl, E, ce, L, ⟨k, a1, a2, a3, a4.up hN hl⟩, g5⟩
theorem sd_here (hR : sd_R D cI cL base adX s R k0 s0 nL ad ls st h Ls St H locs cells slots) {t : State} (ht : t.heap = H) : sd_Pt D cI cL base adX ad h.1.length h s t := by
  refine ⟨ad, sd_le.rf, Nat.le_refl _, by rw [ht]; exact hR.1, by rw [ht]; exact hR.2.1.1, fun q h1 h2 => by rw [ht]; exact hR.2.1.2.1 q h1 h2⟩
theorem sd_retI (hF : sd_F p l s m meth c mi) (hR : sd_R D cI cL base adX s R k0 s0 nL ad ls st h Ls St H locs cells slots) {a : Nat} {v : Option Value} (hc : sd_c60 (sd_rt mi) a (decode (sd_by mi) pc) = true) (hs : pm_s60 a st h = some (.inr (.inl (v, h')))) :
    W p l e R s m args below meth c H locs cells slots (sd_End D cI cL base adX below ad h.1.length (.inl v, h') args s cells slots) (F0 m pc Ls St) := by
  obtain ⟨hx, hlt, hown, hb, hml, hrt, hlk, htb, hnm⟩ := hF
  unfold pm_s60 at hs
  split at hs
  · rename_i x
    split at hs
    · rename_i hn
      simp only [Option.some.injEq, Sum.inr.injEq, Sum.inl.injEq, Prod.mk.injEq] at hs
      obtain ⟨rfl, rfl⟩ := hs
      obtain ⟨w2, k2, rfl, hw2, hrs⟩ := hR.2.2.2.1.c
      cases (show w2 = .int x from hw2)
      cases hrs.n
      obtain ⟨hd, hr2⟩ := sd_c60_inv hc
      have hnar : narrow (sd_rk a) (.int x) = .int x := by
        unfold pm_nar at hn
        split at hn
        · rfl
        · simp only [Bool.or_eq_true, decide_eq_true_eq] at hn
          rcases hn with rfl | rfl <;> rfl
        · simp only [Bool.and_eq_true, decide_eq_true_eq] at hn
          show Value.int x.toUInt32.toUInt16.toUInt32.toInt32 = .int x
          congr 1
          exact sd_chr hn.1 hn.2
        · rename_i z1 z2 z3
          simp only [decide_eq_true_eq] at hn
          subst hn
          unfold sd_rk
          split <;> rfl
      intro T hT X9
      obtain ⟨t, a1, o, b1, b2, b3, b4⟩ := W.zret (Qc := sd_Qc D cI cL base adX ad h.1.length (.inl (some (.int x)), h)) (free := sd_A base) (v := x) (ty := sd_rk a) hx hb (hrt.trans hr2) hnar (fun t ht _ => ⟨some (.int x), rfl, Or.inr ⟨x, rfl⟩, rfl, sd_here hR ht⟩) hR.2.1.2.2 hd hlk T hT X9
      exact ⟨t, a1, o, b1, b2, Or.inl ⟨b3, b4⟩⟩
    · cases hs
  · cases hs
theorem sd_retV (hF : sd_F p l s m meth c mi) (hR : sd_R D cI cL base adX s R k0 s0 nL ad ls st h Ls St H locs cells slots) {v : Option Value} (hc : sd_c61 (sd_rt mi) (decode (sd_by mi) pc) = true) (hs : pm_s61 st h = some (.inr (.inl (v, h')))) :
    W p l e R s m args below meth c H locs cells slots (sd_End D cI cL base adX below ad h.1.length (.inl v, h') args s cells slots) (F0 m pc Ls St) := by
  obtain ⟨hx, hlt, hown, hb, hml, hrt, hlk, htb, hnm⟩ := hF
  unfold pm_s61 at hs
  split at hs
  · simp only [Option.some.injEq, Sum.inr.injEq, Sum.inl.injEq, Prod.mk.injEq] at hs
    obtain ⟨rfl, rfl⟩ := hs
    cases hR.2.2.2.1.n
    obtain ⟨hd, hr2⟩ := sd_c61_inv hc
    intro T hT X9
    obtain ⟨t, a1, o, b1, b2, b3, b4⟩ := W.vret (Qc := sd_Qc D cI cL base adX ad h.1.length (.inl none, h)) (free := sd_A base) hx hb (hrt.trans hr2) (fun t ht _ => ⟨none, rfl, Or.inl rfl, rfl, sd_here hR ht⟩) hR.2.1.2.2 hd hlk T hT X9
    exact ⟨t, a1, o, b1, b2, Or.inl ⟨b3, b4⟩⟩
  · cases hs
theorem sd_thr (hF : sd_F p l s m meth c mi) (hG : sd_G D cI cL base b0 adX X s) (hRm : sd_Rm d R) (hnL : nL = pm_ml mi) (hR : sd_R D cI cL base adX s R k0 s0 nL ad ls st h Ls St H locs cells slots) {a k : Nat} (hc : sd_c45 mi pc a = true) (hs : pm_s45 a st h = some (.inr (.inr (.inl k)))) :
    W p l e R s m args below meth c H locs cells slots (sd_End D cI cL base adX below ad h.1.length (.inr k, (h.1, (h.2.1 + 1, h.2.2 + 6))) args s (cells + 1) (slots + 6)) (F0 m pc Ls St) := by
  obtain ⟨hx, hlt, hown, hb, hml, hrt, hlk, htb, hnm⟩ := hF
  unfold pm_s45 at hs
  split at hs
  · rename_i hcd
    simp only [Bool.and_eq_true, decide_eq_true_eq] at hcd
    obtain ⟨⟨hw8, hm1⟩, hm2⟩ := hcd
    have hk : a = k := by simpa using hs
    subst hk
    obtain ⟨hh0, ik, is, ic, hq, d0, d3, hor⟩ := sd_c45_inv hc
    obtain ⟨u, hu, e1⟩ := List.any_eq_true.mp hq
    obtain ⟨e1, e2, e3, e4, e5⟩ := of_decide_eq_true e1
    have hok := sd_tl_ok u hu
    have htx := hG.2.2.2.2.2.2.2.1.2 u hu
    rw [e1, e2, e4, e5] at hok
    rw [e1, e3] at htx
    simp only [Bool.and_eq_true, decide_eq_true_eq] at hok
    obtain ⟨⟨⟨hcl, h4⟩, h11⟩, hicc⟩ := hok
    have hall := sd_at_ok a h4
    subst hicc
    obtain ⟨hxi, hfit⟩ := sd_xi_ok a h4
    have hwat : ∀ w ∈ sd_wa a, w ∈ lw_tbl ∧ sd_gw w = true ∧ vx_ot w = true := by
      intro w hw
      have h1 := List.all_eq_true.mp hall w hw
      simp only [Bool.and_eq_true, decide_eq_true_eq] at h1
      exact ⟨h1.1.1, h1.1.2, h1.2⟩
    obtain ⟨g1, g2, g3, g4⟩ := hR.2.2.2.2
    have hcat := hR.2.2.2.1.w8 hw8
    have htab : ∀ x ∈ c.exceptionTable.toList, False := by
      intro x hx9
      rw [hh0] at htb
      have := List.map_eq_nil_iff.mp htb
      rw [this] at hx9
      cases hx9
    have hxc : ∀ t : State, s.vm.Alike t.vm → H.size ≤ t.heap.size → (∀ q : Nat, q < H.size → t.heap[q]? = H[q]?) → sd_Xc D cI cL base adX ad h.1.length (.inr a, (h.1, (h.2.1 + 1, h.2.2 + 6))) (sd_ex a) s t := by
      intro t _ hz hq9
      refine ⟨a, rfl, h4, rfl, ad, sd_le.rf, Nat.le_refl _, ⟨hR.1.1.kept fun k x hx9 => hq9 x.1 ((hR.1.1 k x hx9).lt), hR.1.2⟩, Nat.le_trans hR.2.1.1 hz, fun q h1 h2 => ?_⟩
      rw [hq9 q (Nat.lt_of_lt_of_le h1 hR.2.1.1)]
      exact hR.2.1.2.1 q h1 h2
    have hgood : ∀ w ∈ Cond.classLink (sd_o (sd_oc mi)) ik (sd_ex a) :: Cond.initialized (sd_ex a) :: sd_wa a, vx_ot w = true := by
      intro w hw
      rcases List.mem_cons.mp hw with rfl | hw
      · rfl
      · rcases List.mem_cons.mp hw with rfl | hw
        · rfl
        · exact (hwat w hw).2.2
    have hnl : sd_xn.length = 2 := rfl
    have h11' : sd_oc mi = 11 := h11
    by_cases h3 : a = 3
    · have hwa : sd_wa a = (sd_nw (sd_o (sd_oc mi)) (sd_ic a) (sd_ex a)).filter vx_no := by rw [h11', sd_wa, if_pos h3]
      rcases hor with ⟨d4, d6, d9⟩ | ⟨d4, d7, d10⟩
      · exact sd_throwN (cls := sd_ex a) (text := sd_tx.getD u.2.2.2.2.2.1 "") (Qc := sd_Qc D cI cL base adX ad h.1.length (.inr a, (h.1, (h.2.1 + 1, h.2.2 + 6)))) (XC := sd_Xc D cI cL base adX ad h.1.length (.inr a, (h.1, (h.2.1 + 1, h.2.2 + 6)))) (free := sd_A base) (A := sd_A base) hx hb hlt hown hfit (sd_word hG hcl args) (sd_word hG hxi args) htx (fun w hw => hG.1 w (hwat w (hwa ▸ hw)).1 (hwat w (hwa ▸ hw)).2.1 args) (hwa ▸ hgood) hG.2.2.2.2.2.1.1 hG.2.2.2.2.2.1.2 hR.2.1 (by rw [hR.2.2.1.size, hml, hnL]) d0 d3 d4 d6 d9 (fun x hx9 => (htab x hx9).elim)
          (by have := hRm.1; omega) (by have := hRm.2; omega) (by omega) (by omega) hlk hxc hR.2.1.2.2 (Nat.le_refl _) (Nat.le_refl _)
      · exact sd_throwNW (cls := sd_ex a) (text := sd_tx.getD u.2.2.2.2.2.1 "") (Qc := sd_Qc D cI cL base adX ad h.1.length (.inr a, (h.1, (h.2.1 + 1, h.2.2 + 6)))) (XC := sd_Xc D cI cL base adX ad h.1.length (.inr a, (h.1, (h.2.1 + 1, h.2.2 + 6)))) (free := sd_A base) (A := sd_A base) hx hb hlt hown hfit (sd_word hG hcl args) (sd_word hG hxi args) htx (fun w hw => hG.1 w (hwat w (hwa ▸ hw)).1 (hwat w (hwa ▸ hw)).2.1 args) (hwa ▸ hgood) hG.2.2.2.2.2.1.1 hG.2.2.2.2.2.1.2 hR.2.1 (by rw [hR.2.2.1.size, hml, hnL]) d0 d3 d4 d7 d10 (fun x hx9 => (htab x hx9).elim)
          (by have := hRm.1; omega) (by have := hRm.2; omega) (by omega) (by omega) hlk hxc hR.2.1.2.2 (Nat.le_refl _) (Nat.le_refl _)
    · have hwa : sd_wa a = vx_atS (sd_o (sd_oc mi)) (sd_ic a) (sd_ex a) sd_xn := by rw [h11', sd_wa, if_neg h3]
      rcases hor with ⟨d4, d6, d9⟩ | ⟨d4, d7, d10⟩
      · exact vx_throwS (cls := sd_ex a) (names := sd_xn) (text := sd_tx.getD u.2.2.2.2.2.1 "") (Qc := sd_Qc D cI cL base adX ad h.1.length (.inr a, (h.1, (h.2.1 + 1, h.2.2 + 6)))) (XC := sd_Xc D cI cL base adX ad h.1.length (.inr a, (h.1, (h.2.1 + 1, h.2.2 + 6)))) (free := sd_A base) (A := sd_A base) hx hb hlt hown hfit sd_xn_ok (sd_word hG hcl args) (sd_word hG hxi args) htx (fun w hw => hG.1 w (hwat w (hwa ▸ hw)).1 (hwat w (hwa ▸ hw)).2.1 args) (hwa ▸ hgood) hG.2.2.2.2.2.1.1 hG.2.2.2.2.2.1.2 hR.2.1 (by rw [hR.2.2.1.size, hml, hnL]) d0 d3 d4 d6 d9 (fun x hx9 => (htab x hx9).elim)
          (by rw [hnl]; have := hRm.1; omega) (by rw [hnl]; have := hRm.2; omega) (by omega) (by omega) hlk hxc hR.2.1.2.2 (Nat.le_refl _) (Nat.le_refl _)
      · exact vx_throwSW (cls := sd_ex a) (names := sd_xn) (text := sd_tx.getD u.2.2.2.2.2.1 "") (Qc := sd_Qc D cI cL base adX ad h.1.length (.inr a, (h.1, (h.2.1 + 1, h.2.2 + 6)))) (XC := sd_Xc D cI cL base adX ad h.1.length (.inr a, (h.1, (h.2.1 + 1, h.2.2 + 6)))) (free := sd_A base) (A := sd_A base) hx hb hlt hown hfit sd_xn_ok (sd_word hG hcl args) (sd_word hG hxi args) htx (fun w hw => hG.1 w (hwat w (hwa ▸ hw)).1 (hwat w (hwa ▸ hw)).2.1 args) (hwa ▸ hgood) hG.2.2.2.2.2.1.1 hG.2.2.2.2.2.1.2 hR.2.1 (by rw [hR.2.2.1.size, hml, hnL]) d0 d3 d4 d7 d10 (fun x hx9 => (htab x hx9).elim)
          (by rw [hnl]; have := hRm.1; omega) (by rw [hnl]; have := hRm.2; omega) (by omega) (by omega) hlk hxc hR.2.1.2.2 (Nat.le_refl _) (Nat.le_refl _)
  · cases hs
end SDC

