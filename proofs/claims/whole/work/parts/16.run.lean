/-! ===== the run of the pure machine is the machine's ===== -/
section SDK
variable {p : Program} {l : Launch} {e : Env} {R : Room} {s : State} {m : MethodId} {args : Array Value} {below : List Frame} {meth : Method} {c : Code} {H : Heap} {locs : List Loc} {cells slots : Nat} {Q : State → Prop}
variable {D : va_G} {cI cL : ClassId} {base b0 : Nat} {adX : Nat → Nat} {k0 s0 nL mi d : Nat} {ad : Nat → Nat} {ls st : List Value} {h : pm_H} {Ls : Array Slot} {St : List Value} {pc : Nat} {X : pm_X} {pc' : Nat} {ls' st' : List Value} {h' : pm_H}
theorem pm_isC_inv {q b : Nat} (hq : pm_isC h q b = true) : ∃ fs, h.1[q]? = some (.inr (.inr (b, fs))) := by
  unfold pm_isC at hq
  split at hq
  · rename_i c' fs hh
    have := Nat.eq_of_beq_eq_true hq
    subst this
    exact ⟨fs, hh⟩
  · cases hq
/-- a call: the real arguments, and how the machine comes to the callee's entry -/
theorem sd_callKey {op nx a b mj : Nat} {v : Int} {ts : List Nat} {av rest : List Value} (hF : sd_F p l s m meth c mi) (hG : sd_G D cI cL base b0 adX X s) (hR : sd_R D cI cL base adX s R k0 s0 nL ad ls st h Ls St H locs cells slots)
    (hcode : pm_code mi pc = some (op, nx, a, b, v, ts)) (hs : pm_stp X (op, nx, a, b, v, ts) ls st h = some (.inr (.inr (.inr (mj, av, rest))))) :
    ∃ (As restR : List Value) (ig : Instr), mj < 258 ∧ decode (sd_by mi) pc = .ok (ig, 3) ∧ nx = pc + 3 ∧ (restR.map fun v => v.category).sum ≤ 8 ∧ sd_st ad h.1.length av As ∧ sd_st ad h.1.length rest restR ∧ av.length ≤ pm_ml mj ∧
      ∀ T : State, T.heap = H → Stand p l e R s m args below meth c T locs cells slots → ∀ (mk : MethodId) (methk : Method), s.methodNamed? (sd_y mj) = some mk → s.vm.method? mk = some methk → parseMethodDescriptor (sd_y mj).desc = some methk.sig →
        ∃ vm₁, Stand p l e R s m args below meth c (T.setVm vm₁) locs cells slots ∧ ∀ target, (∀ acts, Steps p.tables e below (doInvoke e ((T.setVm vm₁).setTop { F0 m pc Ls St with stack := restR }) acts mk As.toArray).1 target) → Steps p.tables e below (T.setTop (F0 m pc Ls St)) target := by
  have hsh := pm_stp_shp (sd_ck_op (sd_code_ck hcode)) hs
  obtain ⟨k40, k41, k42, -, -, -⟩ := sd_ckAt hcode
  have h5 := sd_isK_at hcode
  rw [sd_isK, Bool.and_eq_true, Bool.and_eq_true] at h5
  obtain ⟨⟨h5a, h5b⟩, h5c⟩ := h5
  have hst := hR.2.2.2.1
  have hSl := hst.len
  rcases hsh with e1 | e1 | e1
  · subst e1
    obtain ⟨x, hd, hnx, ha, hl⟩ := sd_c40_inv (k40 rfl)
    have h6 : (Nat.beq (sd_kd a).1 1 && Nat.beq (sd_kd a).2.1 b) = true := h5b
    rw [Bool.and_eq_true] at h6
    have hk1 := Nat.eq_of_beq_eq_true h6.1
    have hk2 := Nat.eq_of_beq_eq_true h6.2
    have hs : pm_s40 a b st h = some (.inr (.inr (.inr (mj, av, rest)))) := hs
    obtain ⟨hna, h13⟩ := sd_kd_ok ha
    have hml := sd_mo_ok a ha
    simp only [Bool.and_eq_true, decide_eq_true_eq] at hml
    rw [hk1] at hna
    have hn1 : 1 ≤ pm_na a := by
      have : (if (1 : Nat) = 0 then 0 else 1) = 1 := rfl
      omega
    unfold pm_s40 at hs
    split at hs
    · rename_i q r9 hq
      cases hB : ((if b = 100 then decide (2000 ≤ q ∧ q < 2000 + pm_str.length) else pm_isC h q b) && pm_w8 r9 8) with
      | false => rw [hB] at hs; cases hs
      | true =>
        rw [hB] at hs
        cases hs
        rw [Bool.and_eq_true] at hB
        have hdr := hst.drop (pm_na a - 1)
        rw [hq] at hdr
        obtain ⟨wq, restR, hSd, hwq, hrst⟩ := hdr.c
        cases hwq.1
        have hlt : pm_na a - 1 < st.length := by
          have h9 := congrArg List.length hq
          simp only [List.length_drop, List.length_cons] at h9
          omega
        have htk : ((St.take (pm_na a - 1)).reverse).length + 1 = pm_na a := by
          simp only [List.length_reverse, List.length_take]
          omega
        refine ⟨.ref (ad q) :: (St.take (pm_na a - 1)).reverse, restR, _, ha, hd, hnx, hrst.w8 hB.2, sd_st_c hwq (hst.take _).rev, hrst, ?_, ?_⟩
        · simp only [List.length_cons, List.length_reverse, List.length_take]
          omega
        · refine sd_invV hF hG ha hk1 (sd_lnk hG hl) ?_ hd htk (by rw [List.reverse_reverse, ← hSd]; exact (List.take_append_drop _ _).symm)
          rw [hk2]
          by_cases hb : b = 100
          · rw [if_pos hb] at hB
            obtain ⟨k9, rfl, hk9, hk3⟩ := sd_k9 (of_decide_eq_true hB.1)
            obtain ⟨cell, g1, g2, g3, -⟩ := (hG.2.2.2.2.1 k9 hk9).1.kept hR.2.1.2.1
            rw [hR.1.2.2.2.2 (2000 + k9) (sd_ge k9)]
            exact ⟨cell, g1, g2, by rw [sd_cn, if_pos hb]; exact g3⟩
          · rw [if_neg hb] at hB
            obtain ⟨fs, hfs⟩ := pm_isC_inv hB.1
            have hb13 : b < 13 := by
              rw [hk2] at h13
              omega
            have hrc := va_recv hG.2.1 hR.1.1 (sd_cl_get b hb13) (sd_obj hfs)
            rw [sd_cn, if_neg hb]
            exact hrc
    · cases hs
  · subst e1
    obtain ⟨x, hd, hnx, ha, hl⟩ := sd_c41_inv (k41 rfl)
    have h6 : Nat.beq (sd_kd a).1 0 = true := h5a
    have hk1 := Nat.eq_of_beq_eq_true h6
    have hs : pm_s41 a st = some (.inr (.inr (.inr (mj, av, rest)))) := hs
    have hml := sd_mo_ok a ha
    simp only [Bool.and_eq_true, decide_eq_true_eq] at hml
    unfold pm_s41 at hs
    split at hs
    · rename_i hB
      cases hs
      rw [Bool.and_eq_true] at hB
      have hnl := of_decide_eq_true hB.1
      have hdr := hst.drop (pm_na a)
      refine ⟨(St.take (pm_na a)).reverse, St.drop (pm_na a), _, ha, hd, hnx, hdr.w8 hB.2, (hst.take _).rev, hdr, ?_, ?_⟩
      · simp only [List.length_reverse, List.length_take]
        omega
      · exact sd_invS hF hG ha hk1 (sd_lnk hG hl) hd (by simp only [List.length_reverse, List.length_take]; omega) (by rw [List.reverse_reverse]; exact (List.take_append_drop _ _).symm)
    · cases hs
  · subst e1
    obtain ⟨x, hd, hnx, ha, hl⟩ := sd_c42_inv (k42 rfl)
    have h6 : Nat.beq (sd_kd a).1 2 = true := h5c
    have hk1 := Nat.eq_of_beq_eq_true h6
    have hs : pm_s42 a st h = some (.inr (.inr (.inr (mj, av, rest)))) := hs
    obtain ⟨hna, -⟩ := sd_kd_ok ha
    have hml := sd_mo_ok a ha
    simp only [Bool.and_eq_true, decide_eq_true_eq] at hml
    rw [hk1] at hna
    have hn1 : 1 ≤ pm_na a := by
      have : (if (2 : Nat) = 0 then 0 else 1) = 1 := rfl
      omega
    unfold pm_s42 at hs
    split at hs
    · rename_i q r9 hq
      split at hs
      · rename_i hB
        cases hs
        rw [Bool.and_eq_true] at hB
        have hdr := hst.drop (pm_na a - 1)
        rw [hq] at hdr
        obtain ⟨wq, restR, hSd, hwq, hrst⟩ := hdr.c
        cases hwq.1
        have hlt : pm_na a - 1 < st.length := by
          have h9 := congrArg List.length hq
          simp only [List.length_drop, List.length_cons] at h9
          omega
        have htk : ((St.take (pm_na a - 1)).reverse).length + 1 = pm_na a := by
          simp only [List.length_reverse, List.length_take]
          omega
        refine ⟨.ref (ad q) :: (St.take (pm_na a - 1)).reverse, restR, _, ha, hd, hnx, hrst.w8 hB.2, sd_st_c hwq (hst.take _).rev, hrst, ?_, ?_⟩
        · simp only [List.length_cons, List.length_reverse, List.length_take]
          omega
        · exact sd_invI hF hG ha hk1 (sd_lnk hG hl) hd htk (by rw [List.reverse_reverse, ← hSd]; exact (List.take_append_drop _ _).symm)
      · cases hs
    · cases hs
end SDK
theorem sd_hh258 : sd_hh 258 = [] := rfl
theorem sd_hh_ok {mi : Nat} (h1 : mi < 259) (h2 : pm_hs mi = []) : sd_hh mi = [] := by
  by_cases h3 : mi < 258
  · exact sd_hs_ok mi h3 h2
  · rw [show mi = 258 by omega]
    exact sd_hh258
theorem sd_run {p : Program} {l : Launch} {e : Env} {D : va_G} {cI cL : ClassId} {base b0 : Nat} {adX : Nat → Nat} {X : pm_X} : ∀ (n : Nat) {d mi pc : Nat} {ls st : List Value} {h : pm_H} {r : pm_O × pm_H}, pm_rn X n d mi pc ls st h = some r → mi < 259 → h.2.1 ≤ pm_mc → h.2.2 ≤ pm_ms →
    ∀ {R : Room} {s : State} {m : MethodId} {args : Array Value} {below : List Frame} {meth : Method} {c : Code} {H : Heap} {locs : List Loc} {cells slots : Nat} {ad : Nat → Nat} {Ls : Array Slot} {St : List Value} {k0 s0 : Nat},
      sd_F p l s m meth c mi → sd_G D cI cL base b0 adX X s → sd_Rm d R → sd_R D cI cL base adX s R k0 s0 (pm_ml mi) ad ls st h Ls St H locs cells slots →
      W p l e R s m args below meth c H locs cells slots (sd_End D cI cL base adX below ad h.1.length r args s (r.2.2.1 - k0) (r.2.2.2 - s0)) (F0 m pc Ls St) := by
  intro n
  induction n with
  | zero => intro d mi pc ls st h r hr; cases hr
  | succ n ih =>
    intro d mi pc ls st h r hr hmi hm1 hm2 R s m args below meth c H locs cells slots ad Ls St k0 s0 hF hG hRm hR
    rw [pm_rn] at hr
    cases hcode : pm_code mi pc with
    | none => rw [hcode] at hr; cases hr
    | some i =>
      rw [hcode] at hr
      simp only at hr
      obtain ⟨op, nx, a, b, v, ts⟩ := i
      obtain ⟨c1, c2, c3, c4⟩ := hR.2.2.2.2
      have hcel : cells ≤ R.cells := by omega
      have hslo : slots ≤ R.slots := by omega
      cases hs : pm_stp X (op, nx, a, b, v, ts) ls st h with
      | none => rw [hs] at hr; cases hr
      | some y =>
        rw [hs] at hr
        have hsh := pm_stp_shp (sd_ck_op (sd_code_ck hcode)) hs
        rcases y with ⟨pc', ls', st', h'⟩ | ⟨w, h'⟩ | k | ⟨mj, av, rest⟩
        · simp only at hr
          have hbd : h'.2.1 ≤ pm_mc ∧ h'.2.2 ≤ pm_ms := by
            obtain ⟨-, hz⟩ := hsh
            rcases hz with hz | ⟨z, hz, z1, z2⟩
            · rw [hz]; exact ⟨hm1, hm2⟩
            · rw [hz]; exact ⟨z1, z2⟩
          refine sd_stepN hF hG hR hRm rfl hcode hs ?_
          intro ad' Ls' St' H' locs' cells' slots' hle hlen hR'
          exact sd_mono (fun t => sd_End.up hlen hle t) (ih hr hmi hbd.1 hbd.2 hF hG hRm hR')
        · simp only [Option.some.injEq] at hr
          subst hr
          obtain ⟨hop, hhe⟩ := hsh
          subst hhe
          have e1 : h'.2.1 - k0 = cells := by omega
          have e2 : h'.2.2 - s0 = slots := by omega
          show W p l e R s m args below meth c H locs cells slots (sd_End D cI cL base adX below ad h'.1.length (Sum.inl w, h') args s (h'.2.1 - k0) (h'.2.2 - s0)) (F0 m pc Ls St)
          rw [e1, e2]
          rcases hop with hop | hop
          · subst hop
            exact sd_retI hF hR ((sd_ckAt hcode).2.2.2.2.1 rfl) hs
          · subst hop
            exact sd_retV hF hR ((sd_ckAt hcode).2.2.2.2.2 rfl) hs
        · simp only [Option.some.injEq] at hr
          subst hr
          obtain ⟨hop, z1, z2⟩ := hsh
          subst hop
          have e1 : h.2.1 + 1 - k0 = cells + 1 := by omega
          have e2 : h.2.2 + 6 - s0 = slots + 6 := by omega
          show W p l e R s m args below meth c H locs cells slots (sd_End D cI cL base adX below ad h.1.length (Sum.inr k, (h.1, (h.2.1 + 1, h.2.2 + 6))) args s (h.2.1 + 1 - k0) (h.2.2 + 6 - s0)) (F0 m pc Ls St)
          rw [e1, e2]
          exact sd_thr hF hG hRm rfl hR ((sd_ckAt hcode).2.2.2.1 rfl) hs
        · simp only at hr
          split at hr
          · cases hr
          · rename_i haw
            cases d with
            | zero => cases hr
            | succ d =>
              simp only at hr
              cases hc : pm_rn X n d mj 0 (pm_pad mj av) [] h with
              | none => rw [hc] at hr; cases hr
              | some y =>
                rw [hc] at hr
                have h3 := pm_rn_cnt n hc hm1 hm2
                obtain ⟨y1, y2⟩ := y
                simp only at h3
                obtain ⟨As, restR, ig, hmj, hdg, hnx, hrs8, hav, hrst, hal, hinv⟩ := sd_callKey hF hG hR hcode hs
                subst hnx
                have haw2 : ∀ u ∈ av, pm_w1 u = true := by
                  have h9 : av.all pm_w1 = true := by simpa using haw
                  exact fun u hu => List.all_eq_true.mp h9 u hu
                refine sd_back (r := (y1, y2)) (mc := y2.2.1 - h.2.1) (ms := y2.2.2 - h.2.2) (av := av) hF hG hRm rfl hR hmj hdg hrs8 hav haw2 hal ⟨by omega, by omega⟩ ?_ hinv ?_ ?_
                · intro s9 R9 mk methk ck Ls9 hF9 hG9 hRm9 hRc hRs hh9 hl9
                  have hR9 : sd_R D cI cL base adX s9 R9 h.2.1 h.2.2 (pm_ml mj) ad (pm_pad mj av) [] h Ls9 [] H [] 0 0 :=
                    ⟨hR.1, by rw [hh9]; exact va_S.rf, hl9, trivial, rfl, rfl, by omega, by omega⟩
                  exact ih hc (by omega) hm1 hm2 hF9 hG9 hRm9 hR9
                · intro w st9 H1 locs1 hy hv hS1 hPt
                  obtain ⟨t, ht, ad2, p1, p2, p3, p4, p5⟩ := hPt
                  have hy : y1 = .inl w := hy
                  subst hy
                  simp only at hr
                  have hR2 : sd_R D cI cL base adX s R k0 s0 (pm_ml mi) ad2 ls (w.toList ++ rest) y2 Ls (w.toList ++ restR) H1 locs1 (cells + (y2.2.1 - h.2.1)) (slots + (y2.2.2 - h.2.2)) := by
                    refine ⟨by rw [← ht]; exact p3, hS1, hR.2.2.1.up p2 p1, ?_, by omega, by omega, c3, c4⟩
                    rcases hv with hv | ⟨x, hv⟩
                    · subst hv
                      exact hrst.up p2 p1
                    · subst hv
                      exact sd_st_c (v := .int x) (w := .int x) rfl (hrst.up p2 p1)
                  exact sd_mono (fun t => sd_End.up p2 p1 t) (ih hr hmi h3.2.2.1 h3.2.2.2 hF hG hRm hR2)
                · intro k st9 H1 locs1 q ce hy hk4 hS1 hPt hce hcv hcc T hT X9
                  obtain ⟨t, ht, ad2, p1, p2, p3, p4, p5⟩ := hPt
                  have hy : y1 = .inr k := hy
                  subst hy
                  simp only at hr
                  obtain ⟨hx, hlt, hown, hb, hml, hrt, hlk, htb, hnm⟩ := id hF
                  split at hr
                  · rename_i hh0
                    cases hr
                    have htab : c.exceptionTable.toList = [] := by
                      rw [sd_hh_ok hmi hh0] at htb
                      exact List.map_eq_nil_iff.mp htb
                    obtain ⟨st1, hrun, hend, hW, hsm⟩ := X9.leaveThrown q (g := { F0 m pc Ls St with stack := restR }) rfl rfl rfl (by rw [htab]; intro x hx9; cases hx9) hlk
                    have hTh : (T.setFrames (.throwing q :: below)).heap = H1 := hT
                    refine ⟨_, st1, .threw q, hrun, hend, Or.inr ⟨q, rfl, sd_ex k, ce, locs1, ⟨k, rfl, hk4, rfl, ad2, p1, p2, ?_, ?_, ?_⟩, ?_, hcv, hcc, hW, hsm.mono (by show cells + (y2.2.1 - h.2.1) ≤ y2.2.1 - k0; omega) (by show slots + (y2.2.2 - h.2.2) ≤ y2.2.2 - s0; omega), hS1.2.2⟩⟩
                    · rw [hTh, ← ht]; exact p3
                    · rw [hTh]; exact hS1.1
                    · intro z hz1 hz2
                      rw [hTh]; exact hS1.2.1 z hz1 hz2
                    · rw [hTh]; exact hce
                  · split at hr
                    · cases hr
                    · rename_i pc9 hpc9
                      have hkk := sd_hk_ok mi hmi
                      rw [sd_hk, Bool.and_eq_true] at hkk
                      obtain ⟨hk1, hk2⟩ := hkk
                      have hk1 := of_decide_eq_true hk1
                      have hmap : c.exceptionTable.toList.map (fun x => (x.startPc, x.endPc, x.handlerPc)) = (pm_hs mi).map (fun q => (q.1, q.2.1, q.2.2.1)) := by
                        rw [← hk1, ← htb, List.map_map]
                        rfl
                      have hzip : ∀ z ∈ c.exceptionTable.toList.zip (pm_hs mi), z.2.2.2.2 < 4 ∧ z.1.catchType ≠ 0 ∧ (Cond.classLink (sd_o (sd_oc mi)) z.1.catchType (sd_ex z.2.2.2.2)).before args s = true := by
                        intro z hz
                        have hz2 : ((z.1.startPc, z.1.endPc, z.1.handlerPc, z.1.catchType), z.2) ∈ (sd_hh mi).zip (pm_hs mi) := by
                          rw [← htb, List.zip_map_left]
                          exact List.mem_map.mpr ⟨z, hz, rfl⟩
                        have h7 := List.all_eq_true.mp hk2 _ hz2
                        simp only [Bool.and_eq_true, decide_eq_true_eq] at h7
                        obtain ⟨⟨h7a, h7b⟩, h7c⟩ := h7
                        obtain ⟨u, hu, e1⟩ := List.any_eq_true.mp h7c
                        obtain ⟨e1, e2, e3⟩ := of_decide_eq_true e1
                        have hw := sd_word hG (sd_xl_ok u hu) args
                        rw [e1, e2, e3] at hw
                        exact ⟨h7a, h7b, hw⟩
                      obtain ⟨vm', hW', hq⟩ := sd_find (f := { F0 m pc Ls St with stack := restR }) (a := q) hk4 hown (by rw [X9.admits.platform]) (fun z hz => by rw [hz] at hcv; cases hcv) hcc hG.2.2.2.2.2.2.2.2 (sd_word hG (sd_xc_ok k hk4) args) _ _ hmap hzip pc9 hpc9 ((T.setTop { F0 m pc Ls St with stack := restR }).pushFrame (.throwing q)) (by rw [Stand.throwing_vm]; exact X9.warmed) (by rw [Stand.throwing_heap, hT]; exact hce)
                      have hFT : sd_FT e ((T.setTop { F0 m pc Ls St with stack := restR }).pushFrame (.throwing q)) { F0 m pc Ls St with stack := restR } q (.found pc9) vm' := by
                        intro Q E d acts
                        rw [W.findHandler_eq (by rw [Stand.throwing_vm]; exact X9.method') X9.code]
                        exact hq Q E d acts
                      have hR3 : sd_R D cI cL base adX s R k0 s0 (pm_ml mi) ad2 ls [.float 0] y2 Ls [.ref q] H1 locs1 (cells + (y2.2.1 - h.2.1)) (slots + (y2.2.2 - h.2.2)) :=
                        ⟨by rw [← ht]; exact p3, hS1, hR.2.2.1.up p2 p1, ⟨⟨q, rfl⟩, trivial⟩, by omega, by omega, c3, c4⟩
                      obtain ⟨t2, st2, q2⟩ := (sd_mono (fun t => sd_End.up p2 p1 t) (ih hr hmi h3.2.2.1 h3.2.2.2 hF hG hRm hR3)) (T.setVm vm') hT (X9.noted hW')
                      exact ⟨t2, sd_caught X9.here hFT st2, q2⟩
