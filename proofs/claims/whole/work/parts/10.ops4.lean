/-! ===== copies, makings ===== -/
section SDV4
variable {p : Program} {l : Launch} {e : Env} {R : Room} {s : State} {m : MethodId} {args : Array Value} {below : List Frame} {meth : Method} {c : Code} {H : Heap} {locs : List Loc} {cells slots : Nat} {Q : State → Prop}
variable {D : va_G} {cI cL : ClassId} {base b0 : Nat} {adX : Nat → Nat} {k0 s0 nL mi d : Nat} {ad : Nat → Nat} {ls st : List Value} {h : pm_H} {Ls : Array Slot} {St : List Value} {pc : Nat} {X : pm_X} {pc' : Nat} {ls' st' : List Value} {h' : pm_H}
theorem pm_acp_inv {x y : Nat} {sp dp n : Int32} (hf : pm_acp h x sp y dp n = some h') : ∃ na f nb g, h.1[x]? = some (.inl (na, f)) ∧ h.1[y]? = some (.inl (nb, g)) ∧ sp = 0 ∧ dp = 0 ∧ ¬ n < 0 ∧ n.toNatClampNeg ≤ na ∧ n.toNatClampNeg ≤ nb ∧ h' = (h.1.set y (.inl (nb, fun k => if k < n.toNatClampNeg then f k else g k)), h.2) := by
  unfold pm_acp at hf
  split at hf
  · rename_i na f nb g h1 h2
    split at hf
    · rename_i e
      exact ⟨na, f, nb, g, h1, h2, e.2.1, e.2.2.1, e.2.2.2.1, e.2.2.2.2.1, e.2.2.2.2.2.1, (Option.some.inj hf).symm⟩
    · cases hf
  · cases hf
theorem sd_s44 {nx : Nat} (hF : sd_F p l s m meth c mi) (hG : sd_G D cI cL base b0 adX X s) (hR : sd_R D cI cL base adX s R k0 s0 nL ad ls st h Ls St H locs cells slots) (hRm : sd_Rm d R) (hnL : nL = pm_ml mi) (hc : sd_c44 (sd_oc mi) pc nx (decode (sd_by mi) pc) = true) (hs : pm_s44 nx ls st h = some (.inl (pc', ls', st', h'))) (kk : sd_Kt p l e R s m args below meth c Q D cI cL base adX k0 s0 nL ad h.1.length pc' ls' st' h') : W p l e R s m args below meth c H locs cells slots Q (F0 m pc Ls St) := by
  obtain ⟨hx, hlt, hown, hb, hml, hrt, hlk, htb, hnm⟩ := hF
  unfold pm_s44 at hs
  split at hs
  · rename_i n dp y sp x r
    split at hs
    · rename_i hw8
      cases hf : pm_acp h x sp y dp n with
      | none => rw [hf] at hs; cases hs
      | some h2 =>
        rw [hf] at hs
        obtain ⟨rfl, rfl, rfl, rfl⟩ := pm_nx_inj hs
        obtain ⟨na, f, nb, g, h1, h2, rfl, rfl, h5, h6, h7, rfl⟩ := pm_acp_inv hf
        obtain ⟨w0, k0', rfl, hw0, hrs0⟩ := hR.2.2.2.1.c
        obtain ⟨w1, k1, rfl, hw1, hrs1⟩ := hrs0.c
        obtain ⟨w2, k2, rfl, hw2, hrs2⟩ := hrs1.c
        obtain ⟨w3, k3, rfl, hw3, hrs3⟩ := hrs2.c
        obtain ⟨w4, k4, rfl, hw4, hrs⟩ := hrs3.c
        cases (show w0 = .int n from hw0)
        cases (show w1 = .int 0 from hw1)
        cases hw2.1
        cases (show w3 = .int 0 from hw3)
        cases hw4.1
        obtain ⟨x9, hd, rfl, hl⟩ := sd_c44_inv hc
        obtain ⟨u, hu, e1⟩ := List.any_eq_true.mp hl
        obtain ⟨e1, e2⟩ := of_decide_eq_true e1
        have hw := sd_word hG (sd_al_ok u hu) args
        rw [e1, e2] at hw
        have hcat := hrs.w8 hw8
        refine va_copyi (ty := .int) hx hb (by rw [hR.2.2.1.size, hml, hnL]) hown hw (sd_word hG sd_oi_ok.2.2.1 args) (sd_word hG sd_oi_ok.2.2.2.1 args) (sd_word hG sd_oi_ok.2.2.2.2.1 args) hG.2.1 hR.1.1 hR.1.2.1 hR.2.1 x y 0 0 (sd_ari h1) (sd_ari h2) rfl rfl rfl (by decide) (by decide) h5 (by rw [show (0 : Int32).toNatClampNeg = 0 by decide]; omega) (by rw [show (0 : Int32).toNatClampNeg = 0 by decide]; omega) (fun i hi => rfl) (by have := hRm.1; omega) ?_ hd (fun H1 locs1 hP hD hS => ?_)
        · have hz : nativeFrameWords "java/lang/System" "arraycopy" 5 ≤ 60 := by decide +kernel
          have := hRm.2
          omega
        · have he : va_cpy f g (0 : Int32).toNatClampNeg (0 : Int32).toNatClampNeg n.toNatClampNeg = fun k => if k < n.toNatClampNeg then f k else g k := by
            funext k
            simp [va_cpy]
          rw [he] at hP hD
          exact kk ad Ls k4 H1 locs1 cells slots sd_le.rf (by show h.1.length ≤ (h.1.set y _).length; rw [List.length_set]; exact Nat.le_refl _) (sd_set hR (sd_wf_ari hR.1.2.2.1) hP hD hS hrs)
    · cases hs
  · cases hs
theorem sd_okv.up {N N' : Nat} {v : Value} (hN : N ≤ N') (h : sd_okv N v) : sd_okv N' v := by
  cases v with
  | ref k => exact Nat.lt_of_lt_of_le h hN
  | _ => exact h
theorem pm_mk_inv {e9 : pm_E} {z : Nat} {q : Nat × pm_H} (hf : pm_mk h e9 z = some q) : h.2.1 + 1 ≤ pm_mc ∧ h.2.2 + z ≤ pm_ms ∧ h.1.length < 1000 ∧ q = (h.1.length, (h.1 ++ [e9], (h.2.1 + 1, h.2.2 + z))) := by
  unfold pm_mk at hf
  split at hf
  · rename_i e
    exact ⟨e.1, e.2.1, e.2.2, (Option.some.inj hf).symm⟩
  · cases hf
/-- a cell more: the world behind it -/
theorem sd_more {e9 : pm_E} {z q : Nat} {H1 : Heap} (hR : sd_R D cI cL base adX s R k0 s0 nL ad ls st h Ls St H locs cells slots) (hlen : h.1.length < 1000) (hok : ∀ cc fs, e9 = .inr (.inr (cc, fs)) → ∀ v, v ∈ fs → sd_okv h.1.length v)
    (hP : va_P D vwCl (sd_ws ad cI cL h.1 ++ [(q, sd_e ad cI cL e9)]) H1) (hD : va_D (sd_A base) (sd_ws ad cI cL h.1 ++ [(q, sd_e ad cI cL e9)])) (hS : va_S (sd_A base) s.heap H1 locs) {St' : List Value} (hst : sd_st (fun k => if k = h.1.length then q else ad k) (h.1.length + 1) st' St') :
    sd_le h.1.length ad (fun k => if k = h.1.length then q else ad k) ∧ sd_R D cI cL base adX s R k0 s0 nL (fun k => if k = h.1.length then q else ad k) ls st' (h.1 ++ [e9], (h.2.1 + 1, h.2.2 + z)) Ls St' H1 locs (cells + 1) (slots + z) := by
  obtain ⟨⟨w1, w2, w3, w4, w5⟩, r2, r3, r4, r5⟩ := hR
  have hle : sd_le h.1.length ad (fun k => if k = h.1.length then q else ad k) := by
    intro k hk
    show (if k = h.1.length then q else ad k) = ad k
    rw [if_neg (by omega)]
  have hn : (h.1 ++ [e9]).length = h.1.length + 1 := by simp
  have he : sd_e (fun k => if k = h.1.length then q else ad k) cI cL e9 = sd_e ad cI cL e9 := by
    rcases e9 with ⟨n, f⟩ | ⟨n, f⟩ | ⟨cc, fs⟩
    · rfl
    · rfl
    · simp only [sd_e, Sum.inr.injEq, Prod.mk.injEq, true_and]
      apply List.map_congr_left
      intro v hv
      have h1 := hok cc fs rfl v hv
      cases v with
      | ref k => show Value.ref _ = Value.ref _; rw [hle k (Or.inl h1)]
      | _ => rfl
  have hws : sd_ws (fun k => if k = h.1.length then q else ad k) cI cL (h.1 ++ [e9]) = sd_ws ad cI cL h.1 ++ [(q, sd_e ad cI cL e9)] := by
    rw [sd_ws_app, sd_ws_le cI cL w3 hle, he]
    simp
  refine ⟨hle, ⟨?_, ?_, ?_, by show (h.1 ++ [e9]).length ≤ 1000; rw [hn]; omega, ?_⟩, hS, ?_, ?_, ?_⟩
  · show va_P D vwCl (sd_ws _ cI cL (h.1 ++ [e9])) H1
    rw [hws]; exact hP
  · show va_D (sd_A base) (sd_ws _ cI cL (h.1 ++ [e9]))
    rw [hws]; exact hD
  · show sd_wf (h.1 ++ [e9])
    intro i cc fs hi v hv
    rw [hn]
    by_cases hl : i < h.1.length
    · rw [List.getElem?_append_left hl] at hi
      exact (w3 i cc fs hi v hv).up (by omega)
    · rw [List.getElem?_append_right (by omega)] at hi
      have h1 : i - h.1.length = 0 := by
        have := (List.getElem?_eq_some_iff.mp hi).1
        simp at this
        omega
      rw [h1] at hi
      exact (hok cc fs (Option.some.inj hi) v hv).up (by omega)
  · intro k hk
    show (if k = h.1.length then q else ad k) = adX k
    rw [if_neg (by omega)]
    exact w5 k hk
  · show sd_l _ (h.1 ++ [e9]).length nL ls Ls
    rw [hn]; exact r3.up (by omega) hle
  · show sd_st _ (h.1 ++ [e9]).length st' St'
    rw [hn]; exact hst
  · obtain ⟨g1, g2, g3, g4⟩ := r5
    exact ⟨by show k0 + (cells + 1) = h.2.1 + 1; omega, by show s0 + (slots + z) = h.2.2 + z; omega, g3, g4⟩
theorem sd_dfv (t : FieldType) : sd_v ad (defaultValue t) = defaultValue t := by cases t <;> rfl
theorem sd_dfo (N : Nat) (t : FieldType) (ht : t = .int ∨ t = .boolean ∨ (∃ a, t = .object a) ∨ ∃ a, t = .array a) : sd_okv N (defaultValue t) := by
  rcases ht with rfl | rfl | ⟨a, rfl⟩ | ⟨a, rfl⟩ <;> exact trivial
def sd_tk (t : FieldType) : Bool := match t with
  | .int => true
  | .boolean => true
  | .object _ => true
  | .array _ => true
  | _ => false
theorem sd_tk_ok : ∀ ci, ci < 13 → ∀ k, k < (sd_k ci).2.2 → sd_tk (sd_t ci k) = true := by decide +kernel
theorem sd_tk_of {N : Nat} {t : FieldType} (h : sd_tk t = true) : sd_okv N (defaultValue t) := by
  cases t <;> first | exact trivial | cases h
theorem sd_s46 {nx a : Nat} (hF : sd_F p l s m meth c mi) (hG : sd_G D cI cL base b0 adX X s) (hR : sd_R D cI cL base adX s R k0 s0 nL ad ls st h Ls St H locs cells slots)  (hc : sd_c46 (sd_oc mi) pc nx a (decode (sd_by mi) pc) = true) (hs : pm_s46 nx a ls st h = some (.inl (pc', ls', st', h'))) (kk : sd_Kt p l e R s m args below meth c Q D cI cL base adX k0 s0 nL ad h.1.length pc' ls' st' h') : W p l e R s m args below meth c H locs cells slots Q (F0 m pc Ls St) := by
  obtain ⟨hx, hlt, hown, hb, hml, hrt, hlk, htb, hnm⟩ := hF
  unfold pm_s46 at hs
  cases hdf : pm_df[a]? with
  | none => rw [hdf] at hs; cases hs
  | some fs =>
    rw [hdf] at hs
    have hs : (pm_mk h (.inr (.inr (a, fs))) fs.length).bind (fun q => pm_nx nx ls (.ref q.1 :: st) q.2) = some (.inl (pc', ls', st', h')) := hs
    cases hf : pm_mk h (.inr (.inr (a, fs))) fs.length with
    | none => rw [hf] at hs; cases hs
    | some q =>
      rw [hf] at hs
      obtain ⟨rfl, rfl, rfl, rfl⟩ := pm_nx_inj hs
      obtain ⟨m1, m2, m3, rfl⟩ := pm_mk_inv hf
      obtain ⟨x, hd, rfl, hl⟩ := sd_c46_inv hc
      obtain ⟨u, hu, e1⟩ := List.any_eq_true.mp hl
      obtain ⟨e1, e2, e3⟩ := of_decide_eq_true e1
      have hw := sd_kl_ok u hu
      rw [e1, e2, e3] at hw
      obtain ⟨hw, ha⟩ := hw
      have hfs : fs = (List.range (sd_k a).2.2).map fun k => defaultValue (sd_t a k) := by
        rw [← sd_df_ok a ha, List.getD_eq_getElem?_getD, hdf]
        rfl
      have hfl : fs.length = (sd_k a).2.2 := by rw [hfs]; simp
      have hki := sd_ki_ok a ha
      obtain ⟨g1, g2, g3, g4⟩ := hR.2.2.2.2
      have hmap : fs.map (sd_v ad) = fs := by
        rw [hfs, List.map_map]
        exact List.map_congr_left fun k _ => sd_dfv _
      refine va_new (fs := fs) hx hb (sd_hts hG ha) (fun _ h => h) (sd_t a) (sd_ty_ok a ha) hown (sd_word hG hw args) (sd_word hG hki.1 args) (sd_word hG hki.2 args) hG.2.1 hR.1.1 hR.1.2.1 hR.2.1 (fun q hq => Nat.le_trans hG.2.2.2.1 hq) (sd_cl_get a ha) (fun j hj => ?_) (by omega) (by rw [← hfl]; omega) hd (fun q H1 hP hD hS => ?_)
      · rw [hfs]
        simp [vp_V, hj]
      · have hP2 : va_P D vwCl (sd_ws ad cI cL h.1 ++ [(q, sd_e ad cI cL (.inr (.inr (a, fs))))]) H1 := by
          show va_P D vwCl (_ ++ [(q, .inr (a, fs.map (sd_v ad)))]) H1
          rw [hmap]; exact hP
        have hD2 : va_D (sd_A base) (sd_ws ad cI cL h.1 ++ [(q, sd_e ad cI cL (.inr (.inr (a, fs))))]) := by
          show va_D (sd_A base) (_ ++ [(q, .inr (a, fs.map (sd_v ad)))])
          rw [hmap]; exact hD
        have hle0 : sd_le h.1.length ad (fun k => if k = h.1.length then q else ad k) := by
          intro k hk
          show (if k = h.1.length then q else ad k) = ad k
          rw [if_neg (by omega)]
        obtain ⟨hle, hR2⟩ := sd_more (z := fs.length) (st' := .ref h.1.length :: st) (St' := .ref q :: St) hR m3 (fun cc fs' he v hv => by
            cases he
            rw [hfs] at hv
            obtain ⟨k, hk, rfl⟩ := List.mem_map.mp hv
            exact sd_tk_of (sd_tk_ok a ha k (List.mem_range.mp hk))) hP2 hD2 hS (sd_st_c ⟨by simp, Or.inl (Nat.lt_succ_self _)⟩ (hR.2.2.2.1.up (by omega) hle0))
        rw [← hfl]
        exact kk _ Ls _ H1 locs _ _ hle (by simp) hR2
theorem sd_s47 {nx : Nat} (hF : sd_F p l s m meth c mi) (hG : sd_G D cI cL base b0 adX X s) (hR : sd_R D cI cL base adX s R k0 s0 nL ad ls st h Ls St H locs cells slots)  (hc : sd_c47 pc nx (decode (sd_by mi) pc) = true) (hs : pm_s47 nx ls st h = some (.inl (pc', ls', st', h'))) (kk : sd_Kt p l e R s m args below meth c Q D cI cL base adX k0 s0 nL ad h.1.length pc' ls' st' h') : W p l e R s m args below meth c H locs cells slots Q (F0 m pc Ls St) := by
  obtain ⟨hx, hlt, hown, hb, hml, hrt, hlk, htb, hnm⟩ := hF
  unfold pm_s47 at hs
  split at hs
  · rename_i n r
    split at hs
    · cases hs
    · rename_i hn
      cases hf : pm_mk h (.inl (n.toNatClampNeg, fun _ => 0)) n.toNatClampNeg with
      | none => rw [hf] at hs; cases hs
      | some q =>
        rw [hf] at hs
        obtain ⟨rfl, rfl, rfl, rfl⟩ := pm_nx_inj hs
        obtain ⟨m1, m2, m3, rfl⟩ := pm_mk_inv hf
        obtain ⟨hd, rfl⟩ := sd_c47_inv hc
        obtain ⟨w2, k2, rfl, hw2, hrs⟩ := hR.2.2.2.1.c
        cases (show w2 = .int n from hw2)
        obtain ⟨g1, g2, g3, g4⟩ := hR.2.2.2.2
        refine va_newa (atype := .int) (ty := .int) (a0 := (n.toNatClampNeg, .inl (fun _ => 0))) hx hb (sd_word hG sd_oi_ok.2.2.2.2.2.1 args) rfl hG.2.1 hR.1.1 hR.1.2.1 hR.2.1 (fun q hq => Nat.le_trans hG.2.2.2.1 hq) (fun cA => rfl) (fun h => hn (Or.inl h)) rfl (by have : n.toNatClampNeg ≤ 10000 := Nat.not_lt.mp fun h => hn (Or.inr h); show n.toNatClampNeg * 4 ≤ 536870912; omega) (by omega) (by omega) hd (fun q cA H1 hK hP hD hS => ?_)
        have hcA : cA = cI := by
          have a1 := (hK.2 2 (cA, .int) rfl).2
          have a2 := (hG.2.1.2 0 (cI, .int) rfl).2
          exact Option.some.inj (Eq.trans (Eq.symm a1) a2)
        subst hcA
        have hle0 : sd_le h.1.length ad (fun k => if k = h.1.length then q else ad k) := by
          intro k hk
          show (if k = h.1.length then q else ad k) = ad k
          rw [if_neg (by omega)]
        obtain ⟨hle, hR2⟩ := sd_more (e9 := .inl (n.toNatClampNeg, fun _ => 0)) (z := n.toNatClampNeg) (st' := .ref h.1.length :: r) (St' := .ref q :: k2) hR m3 (fun cc fs' he v hv => by cases he) hP hD hS (sd_st_c ⟨by simp, Or.inl (Nat.lt_succ_self _)⟩ (hrs.up (by omega) hle0))
        exact kk _ Ls _ H1 locs _ _ hle (by simp) hR2
  · cases hs
theorem sd_s48 {nx : Nat} (hF : sd_F p l s m meth c mi) (hG : sd_G D cI cL base b0 adX X s) (hR : sd_R D cI cL base adX s R k0 s0 nL ad ls st h Ls St H locs cells slots)  (hc : sd_c48 pc nx (decode (sd_by mi) pc) = true) (hs : pm_s48 nx ls st h = some (.inl (pc', ls', st', h'))) (kk : sd_Kt p l e R s m args below meth c Q D cI cL base adX k0 s0 nL ad h.1.length pc' ls' st' h') : W p l e R s m args below meth c H locs cells slots Q (F0 m pc Ls St) := by
  obtain ⟨hx, hlt, hown, hb, hml, hrt, hlk, htb, hnm⟩ := hF
  unfold pm_s48 at hs
  split at hs
  · rename_i n r
    split at hs
    · cases hs
    · rename_i hn
      cases hf : pm_mk h (.inr (.inl (n.toNatClampNeg, fun _ => 0))) n.toNatClampNeg with
      | none => rw [hf] at hs; cases hs
      | some q =>
        rw [hf] at hs
        obtain ⟨rfl, rfl, rfl, rfl⟩ := pm_nx_inj hs
        obtain ⟨m1, m2, m3, rfl⟩ := pm_mk_inv hf
        obtain ⟨hd, rfl⟩ := sd_c48_inv hc
        obtain ⟨w2, k2, rfl, hw2, hrs⟩ := hR.2.2.2.1.c
        cases (show w2 = .int n from hw2)
        obtain ⟨g1, g2, g3, g4⟩ := hR.2.2.2.2
        refine va_newa (atype := .long) (ty := .long) (a0 := (n.toNatClampNeg, .inr (.inl (fun _ => 0)))) hx hb (sd_word hG sd_oi_ok.2.2.2.2.2.2 args) rfl hG.2.1 hR.1.1 hR.1.2.1 hR.2.1 (fun q hq => Nat.le_trans hG.2.2.2.1 hq) (fun cA => rfl) (fun h => hn (Or.inl h)) rfl (by have : n.toNatClampNeg ≤ 10000 := Nat.not_lt.mp fun h => hn (Or.inr h); show n.toNatClampNeg * 8 ≤ 536870912; omega) (by omega) (by omega) hd (fun q cA H1 hK hP hD hS => ?_)
        have hcA : cA = cL := by
          have a1 := (hK.2 2 (cA, .long) rfl).2
          have a2 := (hG.2.1.2 1 (cL, .long) rfl).2
          exact Option.some.inj (Eq.trans (Eq.symm a1) a2)
        subst hcA
        have hle0 : sd_le h.1.length ad (fun k => if k = h.1.length then q else ad k) := by
          intro k hk
          show (if k = h.1.length then q else ad k) = ad k
          rw [if_neg (by omega)]
        obtain ⟨hle, hR2⟩ := sd_more (e9 := .inr (.inl (n.toNatClampNeg, fun _ => 0))) (z := n.toNatClampNeg) (st' := .ref h.1.length :: r) (St' := .ref q :: k2) hR m3 (fun cc fs' he v hv => by cases he) hP hD hS (sd_st_c ⟨by simp, Or.inl (Nat.lt_succ_self _)⟩ (hrs.up (by omega) hle0))
        exact kk _ Ls _ H1 locs _ _ hle (by simp) hR2
  · cases hs
end SDV4
