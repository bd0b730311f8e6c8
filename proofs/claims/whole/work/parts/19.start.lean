/-! ===== the start: what holds at the law's entry ===== -/
noncomputable def sd_na : List Cond := flatC (Jvm.Cond.and given_1 narrow_1)
def sd_tp : List (Nat × (Nat × Nat)) := [(11, 100, 193), (11, 110, 214), (11, 184, 376), (11, 221, 408), (11, 258, 481), (11, 278, 533), (11, 295, 550), (11, 300, 591), (11, 321, 608), (11, 332, 635), (11, 375, 360), (11, 377, 392), (11, 379, 462), (11, 381, 335), (11, 383, 437), (2, 50, 75), (2, 60, 106), (2, 65, 122), (2, 70, 130), (2, 75, 145), (2, 80, 154), (2, 85, 163), (2, 93, 170), (2, 97, 178), (2, 126, 92), (2, 134, 100), (2, 141, 114), (2, 175, 138), (2, 182, 186), (4, 30, 236), (4, 40, 246), (4, 65, 252), (4, 70, 328), (4, 75, 258), (4, 81, 265), (4, 86, 273), (4, 95, 282), (4, 97, 289), (4, 99, 297), (4, 101, 305), (4, 103, 313), (4, 105, 320), (8, 55, 84), (12, 80, 773), (12, 90, 782), (12, 96, 791), (12, 98, 800), (12, 100, 825), (12, 102, 763), (12, 108, 686), (12, 110, 807), (12, 112, 816), (12, 117, 833), (12, 123, 843), (12, 125, 853), (12, 127, 861), (12, 129, 870), (12, 131, 879), (12, 152, 696), (12, 154, 704), (12, 156, 713), (12, 158, 722), (12, 160, 731), (12, 162, 739), (12, 167, 677), (12, 179, 669), (12, 190, 748), (12, 195, 756), (12, 197, 651), (12, 199, 662)]
def sd_tm (k : Nat) : Term := .string (sd_o (sd_tp.getD k (0, 0, 0)).1) (sd_tp.getD k (0, 0, 0)).2.1
def sd_tv2 (k : Nat) : Term := .field (sd_tm k) "java/lang/String" "value" "[B"
noncomputable def sd_tws (k : Nat) : List Cond := [.exactly (sd_tm k) "java/lang/String", .eq (.field (sd_tm k) "java/lang/String" "coder" "B") (.int 0), .arrayOf (sd_tv2 k) .byte, .eq (.length (sd_tv2 k)) (.int (Int32.ofNat (pm_str.getD k []).length))] ++ (List.range (pm_str.getD k []).length).map fun j => .eq (.elem (sd_tv2 k) (.int (Int32.ofNat j))) (.int ((pm_str.getD k []).getD j 0))
theorem sd_tws_ok : ((List.range 70).all fun k => decide (((sd_na.drop (sd_tp.getD k (0, 0, 0)).2.2).take (sd_tws k).length) = sd_tws k) && decide ((pm_str.getD k []).length < 100)) = true := by decide +kernel
theorem sd_str70 : pm_str.length = 70 := by decide +kernel
theorem sd_tws_at {k : Nat} (hk : k < 70) : (∀ w ∈ sd_tws k, w ∈ sd_na) ∧ (pm_str.getD k []).length < 2 ^ 31 := by
  have h := List.all_eq_true.mp sd_tws_ok k (List.mem_range.mpr hk)
  rw [Bool.and_eq_true] at h
  have h1 := of_decide_eq_true h.1
  have h2 := of_decide_eq_true h.2
  refine ⟨fun w hw => ?_, by omega⟩
  rw [← h1] at hw
  exact List.mem_of_mem_drop (List.mem_of_mem_take hw)
theorem sd_sl_ok : ∀ q ∈ sd_sl, (Cond.stringRef (sd_o q.1) q.2.1 (sd_tx.getD q.2.2 "")) ∈ lw_tbl ∧ q.2.2 < 70 ∧ sd_tm q.2.2 = .string (sd_o q.1) q.2.1 := by decide +kernel
theorem sd_tl_ok2 : ∀ q ∈ sd_tl, (Cond.stringRef (sd_o q.1) q.2.2.1 (sd_tx.getD q.2.2.2.2.2.1 "")) ∈ lw_tbl ∧ q.2.2.2.2.2.1 < 70 ∧ sd_tm q.2.2.2.2.2.1 = .string (sd_o q.1) q.2.2.1 := by decide +kernel
theorem sd_nc_ok : ∀ i, i < 4 → ∀ j, j < 4 → i = j ∨ (Cond.not (.castable (sd_EX.getD i "") (sd_EX.getD j ""))) ∈ sd_na := by decide +kernel
theorem sd_sw_ok : (Cond.laysStatic "java/lang/String" "COMPACT_STRINGS" "Z" ∈ lw_tbl ∧ Cond.initialized "java/lang/String" ∈ lw_tbl ∧ Cond.laysStatic "jdk/internal/util/Preconditions" "SIOOBE_FORMATTER" "Ljava/util/function/BiFunction;" ∈ lw_tbl ∧ Cond.initialized "jdk/internal/util/Preconditions" ∈ lw_tbl) ∧
    (Cond.laysStatic Bundle.tN "UNASSIGNED_STACK" Bundle.steD ∈ lw_tbl ∧ Cond.laysStatic Bundle.tN "SUPPRESSED_SENTINEL" Bundle.listD ∈ lw_tbl ∧ Cond.initialized Bundle.tN ∈ lw_tbl) := by decide +kernel
theorem sd_sn_ok : Cond.eq (.static "java/lang/String" "COMPACT_STRINGS" "Z") (.int 1) ∈ sd_na ∧ Cond.isRef (.static "jdk/internal/util/Preconditions" "SIOOBE_FORMATTER" "Ljava/util/function/BiFunction;") ∈ sd_na ∧ Cond.isRef (.static Bundle.tN "UNASSIGNED_STACK" Bundle.steD) ∈ sd_na ∧ Cond.isRef (.static Bundle.tN "SUPPRESSED_SENTINEL" Bundle.listD) ∈ sd_na := by decide +kernel
theorem sd_texts {args : Array Value} {s : State} (hn : ∀ w ∈ sd_na, w.before args s = true) (A : Nat → Prop) (hA : ∀ a : Nat, a < s.heap.size → ¬ A a) : ∃ ad : Nat → Nat × Nat, ∀ k, k < 70 → (sd_tm k).eval args s none [] s = some (.ref (ad k).1) ∧ va_O "java/lang/String" (ad k).1 A s s.heap ∧ va_OF "java/lang/String" "coder" "B" (.int 0) (ad k).1 A s s.heap ∧ va_OF "java/lang/String" "value" "[B" (.ref (ad k).2) (ad k).1 A s s.heap ∧ va_T .byte (ad k).2 (pm_str.getD k []).length (fun j => .int ((pm_str.getD k []).getD j 0)) A s s.heap := by
  refine Classical.axiomOfChoice (r := fun k (q : Nat × Nat) => k < 70 → (sd_tm k).eval args s none [] s = some (.ref q.1) ∧ va_O "java/lang/String" q.1 A s s.heap ∧ va_OF "java/lang/String" "coder" "B" (.int 0) q.1 A s s.heap ∧ va_OF "java/lang/String" "value" "[B" (.ref q.2) q.1 A s s.heap ∧ va_T .byte q.2 (pm_str.getD k []).length (fun j => .int ((pm_str.getD k []).getD j 0)) A s s.heap) fun i => ?_
  by_cases hi : i < 70
  · obtain ⟨hm, hN⟩ := sd_tws_at hi
    have hw : ∀ w ∈ sd_tws i, w.before args s = true := fun w h => hn w (hm w h)
    have hex : (Cond.exactly (sd_tm i) "java/lang/String").before args s = true := hw _ (by simp [sd_tws])
    have hco : (Cond.eq (.field (sd_tm i) "java/lang/String" "coder" "B") (.int 0)).before args s = true := hw _ (by simp [sd_tws])
    have har : (Cond.arrayOf (sd_tv2 i) .byte).before args s = true := hw _ (by simp [sd_tws])
    have hle : (Cond.eq (.length (sd_tv2 i)) (.int (Int32.ofNat (pm_str.getD i []).length))).before args s = true := hw _ (List.mem_append_left _ (List.mem_cons_of_mem _ (List.mem_cons_of_mem _ (List.mem_cons_of_mem _ List.mem_cons_self))))
    have hel : ∀ j : Nat, j < (pm_str.getD i []).length → (Cond.eq (.elem (sd_tv2 i) (.int (Int32.ofNat j))) (.int ((pm_str.getD i []).getD j 0))).before args s = true := fun j hj => hw _ (List.mem_append_right _ (List.mem_map.mpr ⟨j, List.mem_range.mpr hj, rfl⟩))
    obtain ⟨a, c, cA, kA, q1, q2, q3, q4, q5, q6, -⟩ := Cond.exactly_spec (args := args) (first := s) (o := none) (s := s) (idx := []) (t := sd_tm i) (cls := "java/lang/String") hex
    obtain ⟨t, ht, hT⟩ := va_Tof (f := fun j => .int ((pm_str.getD i []).getD j 0)) (A := A) hN har (va_eqt hle) (fun j hj => va_eqt (hel j hj)) hA
    exact ⟨(a, t), fun _ => ⟨q1, ⟨cA, q3, q5, by rw [q6]; exact q2, hA a (Array.getElem?_eq_some_iff.mp q3).1⟩, vk_OFof q1 (va_eqt hco) hA, vk_OFof q1 ht hA, hT⟩⟩
  · exact ⟨(0, 0), fun h => absurd h hi⟩
theorem sd_knds {args : Array Value} {s : State} (hts : ∀ w ∈ lw_tbl, w.before args s = true) : ∃ D : va_G, ∀ (c : Nat) (q : vw_C), vwCl[c]? = some q → u_Kn s q.1 q.2.1 q.2.2 (D.1 c) (D.2 c) := by
  have h0 : ∀ c : Nat, ∃ r : ClassId × (Nat → Nat), ∀ q : vw_C, vwCl[c]? = some q → u_Kn s q.1 q.2.1 q.2.2 r.1 r.2 := by
    intro c
    by_cases hc : c < 13
    · have hin : ∀ w ∈ u_ws (sd_k c).1 (sd_k c).2.1 (sd_k c).2.2, w ∈ lw_tbl := fun w hw => by
        have h := List.all_eq_true.mp (sd_lay_ok c hc) w hw
        simp only [Bool.and_eq_true, decide_eq_true_eq] at h
        exact h.1
      obtain ⟨cC, iS, h⟩ := u_known hts hin (hts _ (sd_is_mem (sd_ki_ok c hc).1).1)
      refine ⟨(cC, iS), fun q hq => ?_⟩
      rw [sd_cl_get c hc] at hq
      cases hq
      exact h
    · refine ⟨(0, fun _ => 0), fun q hq => ?_⟩
      have h13 : vwCl.length = 13 := rfl
      rw [List.getElem?_eq_none (by omega)] at hq
      cases hq
  obtain ⟨f, hf⟩ := Classical.axiomOfChoice h0
  exact ⟨(fun c => (f c).1, fun c => (f c).2), fun c q hq => hf c q hq⟩
theorem sd_arr1 {args : Array Value} {s : State} {ty : FieldType} (h : (Cond.arrayClass ty).before args s = true) (ht : ty = .int ∨ ty = .long) : ∃ cA : ClassId, ArrOfT s cA ty ∧ va_RA s cA ty := by
  obtain ⟨cA, kA, comp, h1, h2, h3⟩ := Cond.arrayClass_spec h
  rcases ht with rfl | rfl
  · exact ⟨cA, fun N z => ⟨(fun k h => by cases h), kA, h2, comp, h3⟩, h1⟩
  · exact ⟨cA, fun N z => ⟨(fun k h => by cases h), kA, h2, comp, h3⟩, h1⟩
def sd_ad0 (b : Nat) (ad : Nat → Nat × Nat) (k : Nat) : Nat := if k = 1000 then b else if k < 3000 then (ad (k - 2000)).1 else (ad (k - 3000)).2
theorem sd_ad0_k (b : Nat) (ad : Nat → Nat × Nat) (k : Nat) (hk : k < 70) : sd_ad0 b ad (2000 + k) = (ad k).1 := by
  unfold sd_ad0
  rw [if_neg (by omega), if_pos (by omega), Nat.add_sub_cancel_left]
theorem sd_ad0_v (b : Nat) (ad : Nat → Nat × Nat) (k : Nat) (hk : k < 70) : sd_ad0 b ad (3000 + k) = (ad k).2 := by
  unfold sd_ad0
  rw [if_neg (by omega), if_neg (by omega), Nat.add_sub_cancel_left]
/-- all that sd_G asks, at the law's entry -/
theorem sd_G0 {s : State} {b L : Nat} {xs : Nat → Int32} (hts : ∀ w ∈ lw_tbl, w.before #[Value.ref b] s = true) (hX : va_X b L xs s s.heap) (hb : b < s.heap.size) (hn : ∀ w ∈ sd_na, w.before #[Value.ref b] s = true) :
    ∃ (D : va_G) (cI cL : ClassId) (adX : Nat → Nat), sd_G D cI cL s.heap.size b adX (L, xs) s := by
  have hA : ∀ a : Nat, a < s.heap.size → ¬ sd_A s.heap.size a := fun a h h' => absurd h (Nat.not_lt.mpr h')
  obtain ⟨D, hD⟩ := sd_knds hts
  obtain ⟨cI, i1, i2⟩ := sd_arr1 (hts _ (sd_is_mem sd_oi_ok.2.2.2.2.2.1).1) (Or.inl rfl)
  obtain ⟨cL, l1, l2⟩ := sd_arr1 (hts _ (sd_is_mem sd_oi_ok.2.2.2.2.2.2).1) (Or.inr rfl)
  obtain ⟨ad, had⟩ := sd_texts hn (sd_A s.heap.size) hA
  have e2 := sd_ad0_k b ad
  have e3 := sd_ad0_v b ad
  obtain ⟨⟨w1, w2, w3, w4⟩, w5, w6, w7⟩ := sd_sw_ok
  obtain ⟨n1, n2, n3, n4⟩ := sd_sn_ok
  refine ⟨D, cI, cL, sd_ad0 b ad, fun w hw hg a => sd_gw_at hg (State.WarmedH.refl s) (hts w hw), ⟨hD, fun k q hk => ?_⟩, ⟨hX, hb, if_pos rfl⟩, Nat.le_refl _, fun k hk => ?_, ⟨vx_Zqof (hts _ w5) (hts _ w7) (hn _ n3) hA, vx_Zqof (hts _ w6) (hts _ w7) (hn _ n4) hA⟩, ⟨va_Zof (hts _ w1) (hts _ w2) (va_eqt (hn _ n1)) hA, va_Zqof (hts _ w3) (hts _ w4) (hn _ n2) hA⟩, ⟨fun q hq => ?_, fun q hq => ?_⟩, fun i j hi hj hij => ?_⟩
  · match k, hk with
    | 0, hk => cases hk; exact ⟨i1, i2⟩
    | 1, hk => cases hk; exact ⟨l1, l2⟩
    | k + 2, hk => cases hk
  · rw [sd_str70] at hk
    obtain ⟨-, t1, t2, t3, t4⟩ := had k hk
    unfold sd_Txt
    rw [e2 k hk, e3 k hk]
    exact ⟨t1, t2, t3, t4⟩
  · obtain ⟨m1, m2, m3⟩ := sd_sl_ok q hq
    rw [e2 _ m2]
    have h := (had _ m2).1
    rw [m3] at h
    exact vk_R.of (hts _ m1) h
  · obtain ⟨m1, m2, m3⟩ := sd_tl_ok2 q hq
    rw [e2 _ m2]
    have h := (had _ m2).1
    rw [m3] at h
    exact vk_R.of (hts _ m1) h
  · rcases sd_nc_ok i hi j hj with h | h
    · exact absurd h hij
    · exact va_Nc.of (hn _ h)
