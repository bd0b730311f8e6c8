/-! ===== instructions that read and write cells ===== -/
section SDV2
variable {p : Program} {l : Launch} {e : Env} {R : Room} {s : State} {m : MethodId} {args : Array Value} {below : List Frame} {meth : Method} {c : Code} {H : Heap} {locs : List Loc} {cells slots : Nat} {Q : State → Prop}
variable {D : va_G} {cI cL : ClassId} {base b0 : Nat} {adX : Nat → Nat} {k0 s0 nL mi d : Nat} {ad : Nat → Nat} {ls st : List Value} {h : pm_H} {Ls : Array Slot} {St : List Value} {pc : Nat} {X : pm_X} {pc' : Nat} {ls' st' : List Value} {h' : pm_H}
theorem sd_hts (hG : sd_G D cI cL base b0 adX X s) {ci : Nat} (hci : ci < 13) : ∀ w ∈ u_ws (sd_k ci).1 (sd_k ci).2.1 (sd_k ci).2.2, w.before args s = true := by
  intro w hw
  have h := List.all_eq_true.mp (sd_lay_ok ci hci) w hw
  simp only [Bool.and_eq_true, decide_eq_true_eq] at h
  exact hG.1 w h.1 h.2 args
theorem sd_fl_at {oc ix a b : Nat} (hG : sd_G D cI cL base b0 adX X s) (h : (sd_fl.any fun q => decide (q.1 = oc ∧ q.2.1 = ix ∧ q.2.2.1 = a ∧ q.2.2.2.1 = b)) = true) : a < 13 ∧ b < (sd_k a).2.2 ∧ (Cond.fieldLink (sd_o oc) ix ((sd_k a).2.1 b).1 ((sd_k a).2.1 b).2.1 ((sd_k a).2.1 b).2.2.1).before args s = true := by
  obtain ⟨q, hq, e⟩ := List.any_eq_true.mp h
  obtain ⟨rfl, rfl, rfl, rfl⟩ := of_decide_eq_true e
  obtain ⟨h1, h2, h3⟩ := sd_fl_ok q hq
  exact ⟨h2, h3, sd_word hG h1 args⟩
theorem sd_obj {hh : List pm_E} {q cc : Nat} {fs : List Value} (hi : hh[q]? = some (.inr (.inr (cc, fs)))) : (sd_ws ad cI cL hh)[q]? = some (ad q, .inr (cc, fs.map (sd_v ad))) := by
  rw [sd_ws_get, hi]
  rfl
theorem sd_ari {hh : List pm_E} {q n : Nat} {f : Nat → Int32} (hi : hh[q]? = some (.inl (n, f))) : (sd_ws ad cI cL hh)[q]? = some (ad q, .inl (cI, n, .inl f)) := by
  rw [sd_ws_get, hi]
  rfl
theorem sd_arl {hh : List pm_E} {q n : Nat} {f : Nat → Int64} (hi : hh[q]? = some (.inr (.inl (n, f)))) : (sd_ws ad cI cL hh)[q]? = some (ad q, .inl (cL, n, .inr (.inl f))) := by
  rw [sd_ws_get, hi]
  rfl
theorem sd_fv {fs : List Value} {k : Nat} {v : Value} (h : fs[k]? = some v) : (fs.map (sd_v ad))[k]? = some (sd_v ad v) := by
  rw [List.getElem?_map, h]
  rfl
theorem pm_fld_inv {q a k : Nat} {w : Value} (hf : pm_fld h q a k = some w) : ∃ fs, h.1[q]? = some (.inr (.inr (a, fs))) ∧ fs[k]? = some w := by
  unfold pm_fld at hf
  split at hf
  · rename_i c' fs hq
    split at hf
    · rename_i e
      subst e
      exact ⟨fs, hq, hf⟩
    · cases hf
  · cases hf
theorem pm_put_inv {q a k : Nat} {w : Value} (hf : pm_put h q a k w = some h') : ∃ fs, h.1[q]? = some (.inr (.inr (a, fs))) ∧ k < fs.length ∧ h' = (h.1.set q (.inr (.inr (a, fs.set k w))), h.2) := by
  unfold pm_put at hf
  split at hf
  · rename_i c' fs hq
    split at hf
    · rename_i e
      obtain ⟨rfl, e2⟩ := e
      exact ⟨fs, hq, e2, (Option.some.inj hf).symm⟩
    · cases hf
  · cases hf
theorem pm_ix_inv {i : Int32} {n j : Nat} (hf : pm_ix i n = some j) : vp_in i n ∧ j = i.toNatClampNeg ∧ j < n := by
  unfold pm_ix at hf
  split at hf
  · cases hf
  · rename_i hn
    cases hf
    exact ⟨hn, rfl, Nat.not_le.mp fun q => hn (Or.inr q)⟩
/-- writing a cell: the world behind it -/
theorem sd_set {q : Nat} {e' : pm_E} {H1 : Heap} {locs1 : List Loc} (hR : sd_R D cI cL base adX s R k0 s0 nL ad ls st h Ls St H locs cells slots) (hw : sd_wf (h.1.set q e'))
    (hP : va_P D vwCl ((sd_ws ad cI cL h.1).set q (ad q, sd_e ad cI cL e')) H1) (hD : va_D (sd_A base) ((sd_ws ad cI cL h.1).set q (ad q, sd_e ad cI cL e'))) (hS : va_S (sd_A base) s.heap H1 locs1) {St' : List Value} (hst : sd_st ad h.1.length st' St') :
    sd_R D cI cL base adX s R k0 s0 nL ad ls st' (h.1.set q e', h.2) Ls St' H1 locs1 cells slots := by
  obtain ⟨⟨w1, w2, w3, w4, w5⟩, r2, r3, r4, r5⟩ := hR
  have hn : (h.1.set q e').length = h.1.length := List.length_set
  refine ⟨⟨?_, ?_, hw, by show (h.1.set q e').length ≤ 1000; rw [hn]; exact w4, w5⟩, hS, ?_, ?_, r5⟩
  · show va_P D vwCl (sd_ws ad cI cL (h.1.set q e')) H1
    rw [sd_ws_set]; exact hP
  · show va_D (sd_A base) (sd_ws ad cI cL (h.1.set q e'))
    rw [sd_ws_set]; exact hD
  · show sd_l ad (h.1.set q e').length nL ls Ls
    rw [hn]; exact r3
  · show sd_st ad (h.1.set q e').length st' St'
    rw [hn]; exact hst
theorem sd_wf_ari {hh : List pm_E} {q n : Nat} {f : Nat → Int32} (hw : sd_wf hh) : sd_wf (hh.set q (.inl (n, f))) := by
  intro i c fs hi k hk
  rw [List.length_set]
  rw [List.getElem?_set] at hi
  split at hi
  · split at hi
    · cases hi
    · cases hi
  · exact hw i c fs hi k hk
theorem sd_wf_arl {hh : List pm_E} {q n : Nat} {f : Nat → Int64} (hw : sd_wf hh) : sd_wf (hh.set q (.inr (.inl (n, f)))) := by
  intro i c fs hi k hk
  rw [List.length_set]
  rw [List.getElem?_set] at hi
  split at hi
  · split at hi
    · cases hi
    · cases hi
  · exact hw i c fs hi k hk
theorem sd_wf_obj {hh : List pm_E} {q a j : Nat} {fs : List Value} {w : Value} (hw : sd_wf hh) (hq : hh[q]? = some (.inr (.inr (a, fs)))) (hv : sd_okv hh.length w) : sd_wf (hh.set q (.inr (.inr (a, fs.set j w)))) := by
  intro i c fs' hi k hk
  rw [List.length_set]
  rw [List.getElem?_set] at hi
  split at hi
  · split at hi
    · cases hi
      rcases List.mem_or_eq_of_mem_set hk with h1 | h1
      · exact hw q a fs hq k h1
      · rw [h1]; exact hv
    · cases hi
  · exact hw i c fs' hi k hk
theorem sd_s7 {nx a b : Nat} (hF : sd_F p l s m meth c mi) (hG : sd_G D cI cL base b0 adX X s) (hR : sd_R D cI cL base adX s R k0 s0 nL ad ls st h Ls St H locs cells slots)  (hc : sd_c7 (sd_oc mi) pc nx a b (decode (sd_by mi) pc) = true) (hs : pm_s7 nx a b ls st h = some (.inl (pc', ls', st', h'))) (kk : sd_Kt p l e R s m args below meth c Q D cI cL base adX k0 s0 nL ad h.1.length pc' ls' st' h') : W p l e R s m args below meth c H locs cells slots Q (F0 m pc Ls St) := by
  obtain ⟨hx, hlt, hown, hb, hml, hrt, hlk, htb, hnm⟩ := hF
  unfold pm_s7 at hs
  split at hs
  · rename_i q r
    cases hf : pm_fld h q a b with
    | none => rw [hf] at hs; cases hs
    | some w =>
      rw [hf] at hs
      obtain ⟨rfl, rfl, rfl, rfl⟩ := pm_nx_inj hs
      obtain ⟨fs, hq, hk⟩ := pm_fld_inv hf
      obtain ⟨x, hd, rfl, hl⟩ := sd_c7_inv hc
      obtain ⟨ha, hbn, hlink⟩ := sd_fl_at (args := args) hG hl
      obtain ⟨wv, k, rfl, hw, hrs⟩ := hR.2.2.2.1.c
      cases hw.1
      refine va_get (v := sd_v ad w) hx hb (sd_hts hG ha) (fun _ h => h) hown hG.2.1 hR.1.1 q (sd_obj hq) (sd_cl_get a ha) b hbn hlink (fun _ h => h) (sd_fv hk) hd ?_
      cases w with
      | int y => exact sd_same hR (sd_st_c (v := .int y) (w := .int y) rfl hrs) kk
      | null => exact sd_same hR (sd_st_c (v := .null) (w := .null) rfl hrs) kk
      | long y => exact sd_same hR (sd_st_c (v := .long y) (w := .long y) rfl hrs) kk
      | ref y => exact sd_same hR (sd_st_c (v := .ref y) (w := .ref (ad y)) ⟨rfl, Or.inl (hR.1.2.2.1 q a fs hq _ (List.mem_of_getElem? hk))⟩ hrs) kk
      | float y => exact (hR.1.2.2.1 q a fs hq _ (List.mem_of_getElem? hk)).elim
      | double y => exact (hR.1.2.2.1 q a fs hq _ (List.mem_of_getElem? hk)).elim
      | retAddr y => exact (hR.1.2.2.1 q a fs hq _ (List.mem_of_getElem? hk)).elim
  · cases hs
theorem sd_s8 {nx a b : Nat} {v : Int} {ts : List Nat} (hF : sd_F p l s m meth c mi) (hG : sd_G D cI cL base b0 adX X s) (hR : sd_R D cI cL base adX s R k0 s0 nL ad ls st h Ls St H locs cells slots) (hcode : pm_code mi pc = some (8, nx, a, b, v, ts)) (hc : sd_c8 (sd_oc mi) pc nx a b (decode (sd_by mi) pc) = true) (hs : pm_s8 nx a b v ls st h = some (.inl (pc', ls', st', h'))) (kk : sd_Kt p l e R s m args below meth c Q D cI cL base adX k0 s0 nL ad h.1.length pc' ls' st' h') : W p l e R s m args below meth c H locs cells slots Q (F0 m pc Ls St) := by
  obtain ⟨hx, hlt, hown, hb, hml, hrt, hlk, htb, hnm⟩ := hF
  unfold pm_s8 at hs
  split at hs
  · rename_i x q r
    split at hs
    · rename_i hv
      cases hf : pm_put h q a b (.int x) with
      | none => rw [hf] at hs; cases hs
      | some h2 =>
        rw [hf] at hs
        obtain ⟨rfl, rfl, rfl, rfl⟩ := pm_nx_inj hs
        obtain ⟨fs, hq, hk, rfl⟩ := pm_put_inv hf
        obtain ⟨x9, hd, rfl, hl⟩ := sd_c8_inv hc
        obtain ⟨ha, hbn, hlink⟩ := sd_fl_at (args := args) hG hl
        obtain ⟨w1, k1, rfl, hw1, hrs1⟩ := hR.2.2.2.1.c
        obtain ⟨w2, k2, rfl, hw2, hrs⟩ := hrs1.c
        cases (show w1 = .int x from hw1)
        cases hw2.1
        have hlen : b < (fs.map (sd_v ad)).length := by rw [List.length_map]; exact hk
        have key : ∀ (H1 : Heap) (locs1 : List Loc), va_P D vwCl ((sd_ws ad cI cL h.1).set q (ad q, .inr (a, (fs.map (sd_v ad)).set b (sd_v ad (.int x))))) H1 → va_D (sd_A base) ((sd_ws ad cI cL h.1).set q (ad q, .inr (a, (fs.map (sd_v ad)).set b (sd_v ad (.int x))))) → va_S (sd_A base) s.heap H1 locs1 → W p l e R s m args below meth c H1 locs1 cells slots Q (F0 m (pc + 3) Ls k2) := by
          intro H1 locs1 hP hD hS
          have he : sd_e ad cI cL (.inr (.inr (a, fs.set b (.int x)))) = .inr (a, (fs.map (sd_v ad)).set b (sd_v ad (.int x))) := by
            simp [sd_e, List.map_set]
          rw [← he] at hP hD
          exact kk ad Ls k2 H1 locs1 cells slots sd_le.rf (by show h.1.length ≤ (h.1.set q _).length; rw [List.length_set]; exact Nat.le_refl _) (sd_set hR (sd_wf_obj hR.1.2.2.1 hq (show sd_okv h.1.length (.int x) from trivial)) hP hD hS hrs)
        have hty := sd_ty_ok a ha b hbn
        have h5 := sd_fin_at hcode
        simp only [sd_fin, Bool.and_eq_true] at h5
        obtain ⟨h6, h5⟩ := h5
        have h7 : narrow (sd_t a b) (sd_v ad (.int x)) = sd_v ad (.int x) ∧ fits (sd_t a b) (sd_v ad (.int x)) = true := sd_tv_i h6 hv
        by_cases hfin : ((sd_k a).2.1 b).2.2.2 = true
        · have h5 := sd_fin_at hcode
          simp only [sd_fin, hfin, Bool.not_true, Bool.false_or, Bool.and_eq_true, decide_eq_true_eq] at h5
          exact va_putF (v := sd_v ad (.int x)) (ty := sd_t a b) hx hb (sd_hts hG ha) (fun _ h => h) (sd_t a) (sd_ty_ok a ha) (sd_nm_ok a ha) hown hG.2.1 hR.1.1 hR.1.2.1 hR.2.1 q (sd_obj hq) (sd_cl_get a ha) b hbn hlink (fun _ h => h) hfin (by rw [hnm]; exact h5.2.1) h5.2.2 hty h7.1 h7.2 hlen hd key
        · have hfin : ((sd_k a).2.1 b).2.2.2 = false := by simpa using hfin
          exact va_put (v := sd_v ad (.int x)) (ty := sd_t a b) hx hb (sd_hts hG ha) (fun _ h => h) (sd_t a) (sd_ty_ok a ha) (sd_nm_ok a ha) hown hG.2.1 hR.1.1 hR.1.2.1 hR.2.1 q (sd_obj hq) (sd_cl_get a ha) b hbn hlink (fun _ h => h) hfin hty h7.1 h7.2 hlen hd key
    · cases hs
  · rename_i x q r
    split at hs
    · rename_i hv
      obtain ⟨hv2, hv⟩ := hv
      subst hv2
      cases hf : pm_put h q a b (.ref x) with
      | none => rw [hf] at hs; cases hs
      | some h2 =>
        rw [hf] at hs
        obtain ⟨rfl, rfl, rfl, rfl⟩ := pm_nx_inj hs
        obtain ⟨fs, hq, hk, rfl⟩ := pm_put_inv hf
        obtain ⟨x9, hd, rfl, hl⟩ := sd_c8_inv hc
        obtain ⟨ha, hbn, hlink⟩ := sd_fl_at (args := args) hG hl
        obtain ⟨w1, k1, rfl, hw1, hrs1⟩ := hR.2.2.2.1.c
        obtain ⟨w2, k2, rfl, hw2, hrs⟩ := hrs1.c
        cases hw1.1
        cases hw2.1
        have hlen : b < (fs.map (sd_v ad)).length := by rw [List.length_map]; exact hk
        have key : ∀ (H1 : Heap) (locs1 : List Loc), va_P D vwCl ((sd_ws ad cI cL h.1).set q (ad q, .inr (a, (fs.map (sd_v ad)).set b (sd_v ad (.ref x))))) H1 → va_D (sd_A base) ((sd_ws ad cI cL h.1).set q (ad q, .inr (a, (fs.map (sd_v ad)).set b (sd_v ad (.ref x))))) → va_S (sd_A base) s.heap H1 locs1 → W p l e R s m args below meth c H1 locs1 cells slots Q (F0 m (pc + 3) Ls k2) := by
          intro H1 locs1 hP hD hS
          have he : sd_e ad cI cL (.inr (.inr (a, fs.set b (.ref x)))) = .inr (a, (fs.map (sd_v ad)).set b (sd_v ad (.ref x))) := by
            simp [sd_e, List.map_set]
          rw [← he] at hP hD
          exact kk ad Ls k2 H1 locs1 cells slots sd_le.rf (by show h.1.length ≤ (h.1.set q _).length; rw [List.length_set]; exact Nat.le_refl _) (sd_set hR (sd_wf_obj hR.1.2.2.1 hq (show sd_okv h.1.length (.ref x) from hv)) hP hD hS hrs)
        have hty := sd_ty_ok a ha b hbn
        have h5 := sd_fin_at hcode
        simp only [sd_fin, Bool.and_eq_true] at h5
        obtain ⟨h6, h5⟩ := h5
        have h7 : narrow (sd_t a b) (sd_v ad (.ref x)) = sd_v ad (.ref x) ∧ fits (sd_t a b) (sd_v ad (.ref x)) = true := sd_tv_r h6
        by_cases hfin : ((sd_k a).2.1 b).2.2.2 = true
        · have h5 := sd_fin_at hcode
          simp only [sd_fin, hfin, Bool.not_true, Bool.false_or, Bool.and_eq_true, decide_eq_true_eq] at h5
          exact va_putF (v := sd_v ad (.ref x)) (ty := sd_t a b) hx hb (sd_hts hG ha) (fun _ h => h) (sd_t a) (sd_ty_ok a ha) (sd_nm_ok a ha) hown hG.2.1 hR.1.1 hR.1.2.1 hR.2.1 q (sd_obj hq) (sd_cl_get a ha) b hbn hlink (fun _ h => h) hfin (by rw [hnm]; exact h5.2.1) h5.2.2 hty h7.1 h7.2 hlen hd key
        · have hfin : ((sd_k a).2.1 b).2.2.2 = false := by simpa using hfin
          exact va_put (v := sd_v ad (.ref x)) (ty := sd_t a b) hx hb (sd_hts hG ha) (fun _ h => h) (sd_t a) (sd_ty_ok a ha) (sd_nm_ok a ha) hown hG.2.1 hR.1.1 hR.1.2.1 hR.2.1 q (sd_obj hq) (sd_cl_get a ha) b hbn hlink (fun _ h => h) hfin hty h7.1 h7.2 hlen hd key
    · cases hs
  · cases hs
theorem sd_s9 {nx : Nat} (hF : sd_F p l s m meth c mi) (hG : sd_G D cI cL base b0 adX X s) (hR : sd_R D cI cL base adX s R k0 s0 nL ad ls st h Ls St H locs cells slots)  (hc : sd_c9 pc nx (decode (sd_by mi) pc) = true) (hs : pm_s9 X nx ls st h = some (.inl (pc', ls', st', h'))) (kk : sd_Kt p l e R s m args below meth c Q D cI cL base adX k0 s0 nL ad h.1.length pc' ls' st' h') : W p l e R s m args below meth c H locs cells slots Q (F0 m pc Ls St) := by
  obtain ⟨hx, hlt, hown, hb, hml, hrt, hlk, htb, hnm⟩ := hF
  unfold pm_s9 at hs
  split at hs
  · rename_i j q r
    cases hf : pm_ald X h q j with
    | none => rw [hf] at hs; cases hs
    | some w =>
      rw [hf] at hs
      obtain ⟨rfl, rfl, rfl, rfl⟩ := pm_nx_inj hs
      obtain ⟨hd, rfl⟩ := sd_c9_inv hc
      obtain ⟨w1, k1, rfl, hw1, hrs1⟩ := hR.2.2.2.1.c
      obtain ⟨w2, k2, rfl, hw2, hrs⟩ := hrs1.c
      cases (show w1 = .int j from hw1)
      cases hw2.1
      unfold pm_ald at hf
      split at hf
      · rename_i e
        cases hi : pm_ix j X.1 with
        | none => rw [hi] at hf; cases hf
        | some j2 =>
          rw [hi] at hf
          obtain ⟨h1, h2, -⟩ := pm_ix_inv hi
          have hf : X.2 j2 = w := Option.some.inj hf
          obtain ⟨hX, hbl, hadb⟩ := hG.2.2.1
          have hq : ad q = b0 := by rw [e]; exact (hR.1.2.2.2.2 1000 (Nat.le_refl _)).trans hadb
          rw [hq]
          refine va_sld hx hb hX (Nat.lt_of_lt_of_le hbl hG.2.2.2.1) (by show ¬ base ≤ b0; omega) hR.2.1 h1 hd ?_
          rw [← h2, hf]
          exact sd_same hR (sd_st_c (v := .int w) (w := .int w) rfl hrs) kk
      · split at hf
        · rename_i n f hq
          cases hi : pm_ix j n with
          | none => rw [hi] at hf; cases hf
          | some j2 =>
            rw [hi] at hf
            obtain ⟨h1, h2, -⟩ := pm_ix_inv hi
            have hf : f j2 = w := Option.some.inj hf
            refine va_iald hx hb hG.2.1 hR.1.1 q 0 (sd_ari hq) rfl h1 hd ?_
            rw [← h2, hf]
            exact sd_same hR (sd_st_c (v := .int w) (w := .int w) rfl hrs) kk
        · cases hf
  · cases hs
theorem sd_s10 {nx : Nat} (hF : sd_F p l s m meth c mi) (hG : sd_G D cI cL base b0 adX X s) (hR : sd_R D cI cL base adX s R k0 s0 nL ad ls st h Ls St H locs cells slots)  (hc : sd_c10 pc nx (decode (sd_by mi) pc) = true) (hs : pm_s10 nx ls st h = some (.inl (pc', ls', st', h'))) (kk : sd_Kt p l e R s m args below meth c Q D cI cL base adX k0 s0 nL ad h.1.length pc' ls' st' h') : W p l e R s m args below meth c H locs cells slots Q (F0 m pc Ls St) := by
  obtain ⟨hx, hlt, hown, hb, hml, hrt, hlk, htb, hnm⟩ := hF
  unfold pm_s10 at hs
  split at hs
  · rename_i x j q r
    cases hf : pm_ast h q j x with
    | none => rw [hf] at hs; cases hs
    | some h2 =>
      rw [hf] at hs
      obtain ⟨rfl, rfl, rfl, rfl⟩ := pm_nx_inj hs
      obtain ⟨hd, rfl⟩ := sd_c10_inv hc
      obtain ⟨w0, k0, rfl, hw0, hrs0⟩ := hR.2.2.2.1.c
      obtain ⟨w1, k1, rfl, hw1, hrs1⟩ := hrs0.c
      obtain ⟨w2, k2, rfl, hw2, hrs⟩ := hrs1.c
      cases (show w0 = .int x from hw0)
      cases (show w1 = .int j from hw1)
      cases hw2.1
      unfold pm_ast at hf
      split at hf
      · rename_i n f hq
        cases hi : pm_ix j n with
        | none => rw [hi] at hf; cases hf
        | some j2 =>
          rw [hi] at hf
          obtain ⟨h1, h2', -⟩ := pm_ix_inv hi
          have hf := (Option.some.inj hf).symm
          subst hf
          refine va_iast hx hb hG.2.1 hR.1.1 hR.1.2.1 hR.2.1 q 0 (sd_ari hq) rfl h1 hd (fun H1 locs1 hP hD hS => ?_)
          rw [← h2'] at hP hD
          exact kk ad Ls k2 H1 locs1 cells slots sd_le.rf (by show h.1.length ≤ (h.1.set q _).length; rw [List.length_set]; exact Nat.le_refl _) (sd_set hR (sd_wf_ari hR.1.2.2.1) hP hD hS hrs)
      · cases hf
  · cases hs
theorem sd_s11 {nx : Nat} (hF : sd_F p l s m meth c mi) (hG : sd_G D cI cL base b0 adX X s) (hR : sd_R D cI cL base adX s R k0 s0 nL ad ls st h Ls St H locs cells slots)  (hc : sd_c11 pc nx (decode (sd_by mi) pc) = true) (hs : pm_s11 nx ls st h = some (.inl (pc', ls', st', h'))) (kk : sd_Kt p l e R s m args below meth c Q D cI cL base adX k0 s0 nL ad h.1.length pc' ls' st' h') : W p l e R s m args below meth c H locs cells slots Q (F0 m pc Ls St) := by
  obtain ⟨hx, hlt, hown, hb, hml, hrt, hlk, htb, hnm⟩ := hF
  unfold pm_s11 at hs
  split at hs
  · rename_i j q r
    cases hf : pm_lald h q j with
    | none => rw [hf] at hs; cases hs
    | some w =>
      rw [hf] at hs
      obtain ⟨rfl, rfl, rfl, rfl⟩ := pm_nx_inj hs
      obtain ⟨hd, rfl⟩ := sd_c11_inv hc
      obtain ⟨w1, k1, rfl, hw1, hrs1⟩ := hR.2.2.2.1.c
      obtain ⟨w2, k2, rfl, hw2, hrs⟩ := hrs1.c
      cases (show w1 = .int j from hw1)
      cases hw2.1
      unfold pm_lald at hf
      split at hf
      · rename_i n f hq
        cases hi : pm_ix j n with
        | none => rw [hi] at hf; cases hf
        | some j2 =>
          rw [hi] at hf
          obtain ⟨h1, h2, -⟩ := pm_ix_inv hi
          have hf : f j2 = w := Option.some.inj hf
          refine va_lald hx hb hG.2.1 hR.1.1 q 1 (sd_arl hq) rfl h1 hd ?_
          rw [← h2, hf]
          exact sd_same hR (sd_st_c (v := .long w) (w := .long w) rfl hrs) kk
      · cases hf
  · cases hs
theorem sd_s12 {nx : Nat} (hF : sd_F p l s m meth c mi) (hG : sd_G D cI cL base b0 adX X s) (hR : sd_R D cI cL base adX s R k0 s0 nL ad ls st h Ls St H locs cells slots)  (hc : sd_c12 pc nx (decode (sd_by mi) pc) = true) (hs : pm_s12 nx ls st h = some (.inl (pc', ls', st', h'))) (kk : sd_Kt p l e R s m args below meth c Q D cI cL base adX k0 s0 nL ad h.1.length pc' ls' st' h') : W p l e R s m args below meth c H locs cells slots Q (F0 m pc Ls St) := by
  obtain ⟨hx, hlt, hown, hb, hml, hrt, hlk, htb, hnm⟩ := hF
  unfold pm_s12 at hs
  split at hs
  · rename_i x j q r
    cases hf : pm_last h q j x with
    | none => rw [hf] at hs; cases hs
    | some h2 =>
      rw [hf] at hs
      obtain ⟨rfl, rfl, rfl, rfl⟩ := pm_nx_inj hs
      obtain ⟨hd, rfl⟩ := sd_c12_inv hc
      obtain ⟨w0, k0, rfl, hw0, hrs0⟩ := hR.2.2.2.1.c
      obtain ⟨w1, k1, rfl, hw1, hrs1⟩ := hrs0.c
      obtain ⟨w2, k2, rfl, hw2, hrs⟩ := hrs1.c
      cases (show w0 = .long x from hw0)
      cases (show w1 = .int j from hw1)
      cases hw2.1
      unfold pm_last at hf
      split at hf
      · rename_i n f hq
        cases hi : pm_ix j n with
        | none => rw [hi] at hf; cases hf
        | some j2 =>
          rw [hi] at hf
          obtain ⟨h1, h2', -⟩ := pm_ix_inv hi
          have hf := (Option.some.inj hf).symm
          subst hf
          refine va_last hx hb hG.2.1 hR.1.1 hR.1.2.1 hR.2.1 q 1 (sd_arl hq) rfl h1 hd (fun H1 locs1 hP hD hS => ?_)
          rw [← h2'] at hP hD
          exact kk ad Ls k2 H1 locs1 cells slots sd_le.rf (by show h.1.length ≤ (h.1.set q _).length; rw [List.length_set]; exact Nat.le_refl _) (sd_set hR (sd_wf_arl hR.1.2.2.1) hP hD hS hrs)
      · cases hf
  · cases hs
theorem sd_kept (hG : sd_G D cI cL base b0 adX X s) (hS : va_S (sd_A base) s.heap H locs) {k : Nat} (hk : k < pm_str.length) : sd_Txt adX base k s s.heap := hG.2.2.2.2.1 k hk
theorem pm_sbt_inv {q : Nat} {l : List Int32} (hf : pm_sbt q = some l) : ∃ k, q = 3000 + k ∧ k < pm_str.length ∧ pm_str.getD k [] = l := by
  unfold pm_sbt at hf
  split at hf
  · rename_i h3
    obtain ⟨hk, e⟩ := List.getElem?_eq_some_iff.mp hf
    exact ⟨q - 3000, by omega, hk, by rw [List.getD_eq_getElem?_getD, hf]; rfl⟩
  · cases hf
theorem sd_s13 {nx : Nat} (hF : sd_F p l s m meth c mi) (hG : sd_G D cI cL base b0 adX X s) (hR : sd_R D cI cL base adX s R k0 s0 nL ad ls st h Ls St H locs cells slots)  (hc : sd_c13 pc nx (decode (sd_by mi) pc) = true) (hs : pm_s13 nx ls st h = some (.inl (pc', ls', st', h'))) (kk : sd_Kt p l e R s m args below meth c Q D cI cL base adX k0 s0 nL ad h.1.length pc' ls' st' h') : W p l e R s m args below meth c H locs cells slots Q (F0 m pc Ls St) := by
  obtain ⟨hx, hlt, hown, hb, hml, hrt, hlk, htb, hnm⟩ := hF
  unfold pm_s13 at hs
  split at hs
  · rename_i j q r
    cases hf : pm_bald q j with
    | none => rw [hf] at hs; cases hs
    | some w =>
      rw [hf] at hs
      obtain ⟨rfl, rfl, rfl, rfl⟩ := pm_nx_inj hs
      obtain ⟨hd, rfl⟩ := sd_c13_inv hc
      obtain ⟨w1, k1, rfl, hw1, hrs1⟩ := hR.2.2.2.1.c
      obtain ⟨w2, k2, rfl, hw2, hrs⟩ := hrs1.c
      cases (show w1 = .int j from hw1)
      cases hw2.1
      unfold pm_bald at hf
      split at hf
      · rename_i lb hlb
        obtain ⟨k, rfl, hk, rfl⟩ := pm_sbt_inv hlb
        cases hi : pm_ix j (pm_str.getD k []).length with
        | none => rw [hi] at hf; cases hf
        | some j2 =>
          rw [hi] at hf
          obtain ⟨h1, h2, -⟩ := pm_ix_inv hi
          have hf : (pm_str.getD k [])[j2]? = some w := hf
          have had : ad (3000 + k) = adX (3000 + k) := hR.1.2.2.2.2 _ (by omega)
          rw [had]
          refine va_tb (v := .int w) hx hb (hG.2.2.2.2.1 k hk).2.2.2 hR.2.1 h1 ?_ hd (sd_same hR (sd_st_c (v := .int w) (w := .int w) rfl hrs) kk)
          rw [← h2, List.getD_eq_getElem?_getD, hf]
          rfl
      · cases hf
  · cases hs
theorem sd_s14 {nx : Nat} (hF : sd_F p l s m meth c mi) (hG : sd_G D cI cL base b0 adX X s) (hR : sd_R D cI cL base adX s R k0 s0 nL ad ls st h Ls St H locs cells slots)  (hc : sd_c14 pc nx (decode (sd_by mi) pc) = true) (hs : pm_s14 X nx ls st h = some (.inl (pc', ls', st', h'))) (kk : sd_Kt p l e R s m args below meth c Q D cI cL base adX k0 s0 nL ad h.1.length pc' ls' st' h') : W p l e R s m args below meth c H locs cells slots Q (F0 m pc Ls St) := by
  obtain ⟨hx, hlt, hown, hb, hml, hrt, hlk, htb, hnm⟩ := hF
  unfold pm_s14 at hs
  split at hs
  · rename_i q r
    cases hf : pm_len X h q with
    | none => rw [hf] at hs; cases hs
    | some w =>
      rw [hf] at hs
      obtain ⟨rfl, rfl, rfl, rfl⟩ := pm_nx_inj hs
      obtain ⟨hd, rfl⟩ := sd_c14_inv hc
      obtain ⟨w2, k2, rfl, hw2, hrs⟩ := hR.2.2.2.1.c
      cases hw2.1
      have kk2 := sd_same hR (sd_st_c (v := .int w) (w := .int w) rfl hrs) kk
      unfold pm_len at hf
      split at hf
      · rename_i e
        cases hf
        obtain ⟨hX, hbl, hadb⟩ := hG.2.2.1
        have hq : ad q = b0 := by rw [e]; exact (hR.1.2.2.2.2 1000 (Nat.le_refl _)).trans hadb
        rw [hq]
        exact va_slen hx hb hX (Nat.lt_of_lt_of_le hbl hG.2.2.2.1) (by show ¬ base ≤ b0; omega) hR.2.1 hd kk2
      · split at hf
        · cases hlb : pm_sbt q with
          | none => rw [hlb] at hf; cases hf
          | some lb =>
            rw [hlb] at hf
            obtain ⟨k, rfl, hk, rfl⟩ := pm_sbt_inv hlb
            have had : ad (3000 + k) = adX (3000 + k) := hR.1.2.2.2.2 _ (by omega)
            rw [had]
            exact va_tlen hx hb (hG.2.2.2.2.1 k hk).2.2.2 hR.2.1 (Option.some.inj hf) hd kk2
        · split at hf
          · rename_i n f hq
            exact va_alen hx hb hG.2.1 hR.1.1 q 0 (sd_ari hq) rfl (Option.some.inj hf) hd kk2
          · rename_i n f hq
            exact va_alen hx hb hG.2.1 hR.1.1 q 1 (sd_arl hq) rfl (Option.some.inj hf) hd kk2
          · cases hf
  · cases hs
end SDV2
