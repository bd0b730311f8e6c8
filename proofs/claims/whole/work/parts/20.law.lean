/-! ===== the law's end, out of the pure run ===== -/
theorem sd_law_o : sd_o (sd_oc 258) = "WallHarbourLaw" := by decide +kernel
theorem sd_law_ml : pm_ml 258 = 7 := by decide +kernel
theorem sd_law_nm : (sd_y 258).name = "law" := by decide +kernel
theorem sd_law_by : sd_by 258 = code := rfl
theorem sd_law_rt : sd_rt 258 = ret := rfl
/-- what the pure machine owes: the law answers 1 on every script -/
def pm_law : Prop := ∀ (L : Nat) (xs : Nat → Int32), L ≤ 3072 → WP (L, xs) 1000 258 0 (pm_pad 258 [.ref 1000]) [] ([], (0, 0)) (fun o _ => o = .inl (some (.int 1)))
theorem sd_newOnly {s t : State} {L : List Loc} {k n : Nat} (h : s.sameButNew t L k n) (hL : ∀ q ∈ L, sd_A s.heap.size q.base) : s.sameButNew t [] k n := by
  obtain ⟨h1, h2, h3, h4, h5, h6⟩ := h
  refine ⟨h1, h2, h3, h4, h5, fun a c hc => ?_⟩
  obtain ⟨c', g1, g2, g3, g4⟩ := h6 a c hc
  refine ⟨c', g1, g2, g3, fun i _ => g4 i fun hm => ?_⟩
  have ha : a < s.heap.size := (Array.getElem?_eq_some_iff.mp hc).1
  exact absurd ha (Nat.not_lt.mpr (hL _ hm))
theorem sd_start (hpm : pm_law) {p : Program} {e : Env} {s : State} {m : MethodId} {below : List Frame} {meth : Method} {c : Code} (l : Launch) (hst : l.stackTraces = false) {b L : Nat} {xs : Nat → Int32} (hL : L ≤ 3072)
    (hx : p.tables.exec = Jvm.exec) (hb : c.code = code) (hret : meth.sig.returnType = ret) (hml : c.maxLocals = 7) (hown : s.vm.findClass "WallHarbourLaw" = some m.cls) (hts : ∀ w ∈ lw_tbl, w.before #[Value.ref b] s = true) (hX : va_X b L xs s s.heap) (hbl : b < s.heap.size) (hlk : meth.locks = false) (hgv : (Jvm.Cond.and given_1 narrow_1).before #[Value.ref b] s = true) (htb : c.exceptionTable.isEmpty = true) (hnm : meth.name = "law") :
    W p l e room_1 s m #[Value.ref b] below meth c s.heap [] 0 0 (fun t => ∃ o, t.status = .running ∧ Ended t below o ∧ o = .returned (some (.int 1)) ∧ Framed s o t [] 601024 7293034) (entryFrame m ([Value.ref b] : List Value).toArray 7) := by
  obtain ⟨D, cI, cL, adX, hG⟩ := sd_G0 hts hX hbl (flat_of_before _ hgv)
  obtain ⟨n, r, hr, hr1⟩ := hpm L xs hL
  have had : adX 1000 = b := hG.2.2.1.2.2
  have hsv : sd_st adX ([] : List pm_E).length [.ref 1000] [.ref b] := ⟨⟨by rw [had], Or.inr (Nat.le_refl _)⟩, trivial⟩
  obtain ⟨Ls, hef, hl⟩ := sd_entry (h := ([], (0, 0))) (mj := 258) hsv (fun v hv => by rw [List.mem_singleton.mp hv]; rfl) (by rw [sd_law_ml]; decide) m
  rw [sd_law_ml] at hef
  rw [hef]
  have hF : sd_F p l s m meth c 258 := ⟨hx, hst, by rw [sd_law_o]; exact hown, hb.trans sd_law_by.symm, hml.trans sd_law_ml.symm, hret.trans sd_law_rt.symm, hlk, by rw [Array.isEmpty_iff.mp htb, sd_hh258]; rfl, hnm.trans sd_law_nm.symm⟩
  have hR : sd_R D cI cL s.heap.size adX s room_1 0 0 (pm_ml 258) adX (pm_pad 258 [.ref 1000]) [] ([], (0, 0)) Ls [] s.heap [] 0 0 :=
    ⟨⟨fun k q hk => by simp [sd_ws] at hk, ⟨fun i j p q hi => by simp [sd_ws] at hi, fun k q hk => by simp [sd_ws] at hk⟩, fun i c fs hi => by simp at hi, Nat.zero_le _, fun k _ => rfl⟩, va_S.rf, hl, trivial, rfl, rfl, rfl, rfl⟩
  have hrun := sd_run (e := e) (below := below) (args := #[Value.ref b]) n hr (by decide) (Nat.zero_le _) (Nat.zero_le _) hF hG (d := 1000) ⟨by decide, by decide⟩ hR
  obtain ⟨-, -, c1, c2⟩ := pm_rn_cnt n hr (Nat.zero_le _) (Nat.zero_le _)
  refine sd_mono (fun t ht => ?_) hrun
  obtain ⟨o, k1, k2, k3⟩ := ht
  rcases k3 with ⟨⟨v, v1, -, v3, -⟩, L9, ⟨f1, f2, f3⟩, f4⟩ | ⟨q, -, E, ce, L9, ⟨k, x1, -⟩, -⟩
  · rw [hr1] at v1
    cases v1
    exact ⟨o, k1, k2, v3, f1, f2, sd_newOnly (f3.mono (by rw [Nat.sub_zero]; exact c1) (by rw [Nat.sub_zero]; exact c2)) f4⟩
  · rw [hr1] at x1
    cases x1
