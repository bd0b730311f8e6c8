/-! ===== an instruction of the pure machine, walked on the machine ===== -/
def sd_tv (t : FieldType) (v : Int) : Bool := match t with
  | .int => decide (v = 0)
  | .boolean => decide (v = 1)
  | .object _ => decide (v = 2)
  | .array _ => decide (v = 2)
  | _ => false
theorem sd_tv_i {t : FieldType} {v : Int} {x : Int32} (h : sd_tv t v = true) (hx : v = 0 ∨ (v = 1 ∧ (x = 0 ∨ x = 1))) : narrow t (.int x) = .int x ∧ fits t (.int x) = true := by
  cases t <;> simp only [sd_tv, decide_eq_true_eq, Bool.false_eq_true] at h <;>
  first
    | exact ⟨rfl, rfl⟩
    | (exfalso; rcases hx with h1 | ⟨h1, -⟩ <;> omega)
    | (rcases hx with h1 | ⟨-, h1 | h1⟩
       · omega
       · rw [h1]; exact ⟨rfl, rfl⟩
       · rw [h1]; exact ⟨rfl, rfl⟩)
theorem sd_tv_r {t : FieldType} {x : Nat} (h : sd_tv t 2 = true) : narrow t (.ref x) = .ref x ∧ fits t (.ref x) = true := by
  cases t <;> simp [sd_tv] at h <;> exact ⟨rfl, rfl⟩
noncomputable def sd_fin (mi a b : Nat) (v : Int) : Bool := sd_tv (sd_t a b) v && (!((sd_k a).2.1 b).2.2.2 || (decide ((sd_y mi).name = "<init>") && decide (((sd_k a).2.1 b).1 = sd_o (sd_oc mi))))
theorem sd_fin_ok : ((List.range 258).all fun mi => (pm_tab.getD mi []).all fun x => !(Nat.beq x.2.1 8) || sd_fin mi x.2.2.2.1 x.2.2.2.2.1 x.2.2.2.2.2.1) = true := by decide +kernel
theorem sd_fin_cl : (pmc_258.all fun x => !(Nat.beq x.2.1 8) || sd_fin 258 x.2.2.2.1 x.2.2.2.2.1 x.2.2.2.2.2.1) = true := by decide +kernel
theorem sd_fin_at {mi pc nx a b : Nat} {v : Int} {ts : List Nat} (h : pm_code mi pc = some (8, nx, a, b, v, ts)) : sd_fin mi a b v = true := by
  have hm := pm_as_mem h
  have key : ((pm_tab.getD mi []).all fun x => !(Nat.beq x.2.1 8) || sd_fin mi x.2.2.2.1 x.2.2.2.2.1 x.2.2.2.2.2.1) = true := by
    by_cases h1 : mi < 258
    · exact List.all_eq_true.mp sd_fin_ok mi (List.mem_range.mpr h1)
    · by_cases h2 : mi = 258
      · subst h2
        rw [sd_tab258]
        exact sd_fin_cl
      · rw [sd_tabN (by omega)]
        rfl
  have h3 := List.all_eq_true.mp key _ hm
  simpa using h3
/-- what holds of a state: the tables' words, the kinds, the script, the texts, the statics -/
def sd_Txt (adX : Nat → Nat) (base : Nat) (k : Nat) (s : State) (H : Heap) : Prop := va_O "java/lang/String" (adX (2000 + k)) (sd_A base) s H ∧ va_OF "java/lang/String" "coder" "B" (.int 0) (adX (2000 + k)) (sd_A base) s H ∧ va_OF "java/lang/String" "value" "[B" (.ref (adX (3000 + k))) (adX (2000 + k)) (sd_A base) s H ∧ va_T .byte (adX (3000 + k)) (pm_str.getD k []).length (fun j => .int ((pm_str.getD k []).getD j 0)) (sd_A base) s H
def sd_G (D : va_G) (cI cL : ClassId) (base b : Nat) (adX : Nat → Nat) (X : pm_X) (s : State) : Prop :=
  (∀ w ∈ lw_tbl, sd_gw w = true → ∀ a, w.before a s = true) ∧ va_K D vwCl [(cI, .int), (cL, .long)] s ∧ (va_X b X.1 X.2 s s.heap ∧ b < base ∧ adX 1000 = b) ∧ base ≤ s.heap.size ∧
  (∀ k, k < pm_str.length → sd_Txt adX base k s s.heap) ∧
  (vx_Zq Bundle.tN "UNASSIGNED_STACK" Bundle.steD (sd_A base) s s.heap ∧ vx_Zq Bundle.tN "SUPPRESSED_SENTINEL" Bundle.listD (sd_A base) s s.heap) ∧
  (va_Z "java/lang/String" "COMPACT_STRINGS" "Z" (.int 1) (sd_A base) s s.heap ∧ va_Zq "jdk/internal/util/Preconditions" "SIOOBE_FORMATTER" "Ljava/util/function/BiFunction;" (sd_A base) s s.heap) ∧
  ((∀ q ∈ sd_sl, vk_R (sd_o q.1) q.2.1 (sd_tx.getD q.2.2 "") (adX (2000 + q.2.2)) s) ∧ (∀ q ∈ sd_tl, vk_R (sd_o q.1) q.2.2.1 (sd_tx.getD q.2.2.2.2.2.1 "") (adX (2000 + q.2.2.2.2.2.1)) s)) ∧
  (∀ i j, i < 4 → j < 4 → i ≠ j → va_Nc (sd_EX.getD i "") (sd_EX.getD j "") s)
/-- what holds of a method's frame -/
def sd_F (p : Program) (l : Launch) (s : State) (m : MethodId) (meth : Method) (c : Code) (mi : Nat) : Prop :=
  p.tables.exec = Jvm.exec ∧ l.stackTraces = false ∧ s.vm.findClass (sd_o (sd_oc mi)) = some m.cls ∧ c.code = sd_by mi ∧ c.maxLocals = pm_ml mi ∧ meth.sig.returnType = sd_rt mi ∧ meth.locks = false ∧
  c.exceptionTable.toList.map (fun h => (h.startPc, h.endPc, h.handlerPc, h.catchType)) = sd_hh mi ∧ meth.name = (sd_y mi).name
def sd_Rm (d : Nat) (R : Room) : Prop := 10 + d ≤ R.frames ∧ 200 + 60 * d ≤ R.locals
section SDV
variable {p : Program} {l : Launch} {e : Env} {R : Room} {s : State} {m : MethodId} {args : Array Value} {below : List Frame} {meth : Method} {c : Code} {H : Heap} {locs : List Loc} {cells slots : Nat} {Q : State → Prop}
variable {D : va_G} {cI cL : ClassId} {base b0 : Nat} {adX : Nat → Nat} {k0 s0 nL mi d : Nat} {ad : Nat → Nat} {ls st : List Value} {h : pm_H} {Ls : Array Slot} {St : List Value} {pc : Nat} {X : pm_X} {pc' : Nat} {ls' st' : List Value} {h' : pm_H}
/-- how the walk goes on behind an instruction -/
abbrev sd_Kt (p : Program) (l : Launch) (e : Env) (R : Room) (s : State) (m : MethodId) (args : Array Value) (below : List Frame) (meth : Method) (c : Code) (Q : State → Prop) (D : va_G) (cI cL : ClassId) (base : Nat) (adX : Nat → Nat) (k0 s0 nL : Nat) (ad : Nat → Nat) (n : Nat) (pc' : Nat) (ls' st' : List Value) (h' : pm_H) : Prop :=
  ∀ (ad' : Nat → Nat) (Ls' : Array Slot) (St' : List Value) (H' : Heap) (locs' : List Loc) (cells' slots' : Nat), sd_le n ad ad' → n ≤ h'.1.length → sd_R D cI cL base adX s R k0 s0 nL ad' ls' st' h' Ls' St' H' locs' cells' slots' → W p l e R s m args below meth c H' locs' cells' slots' Q (F0 m pc' Ls' St')
theorem sd_same {St' : List Value} (hR : sd_R D cI cL base adX s R k0 s0 nL ad ls st h Ls St H locs cells slots) (hst : sd_st ad h.1.length st' St') (kk : sd_Kt p l e R s m args below meth c Q D cI cL base adX k0 s0 nL ad h.1.length pc' ls st' h) : W p l e R s m args below meth c H locs cells slots Q (F0 m pc' Ls St') :=
  kk ad Ls St' H locs cells slots sd_le.rf (Nat.le_refl _) ⟨hR.1, hR.2.1, hR.2.2.1, hst, hR.2.2.2.2⟩
theorem sd_st_c {ad : Nat → Nat} {N : Nat} {v w : Value} {l k : List Value} (h1 : sd_r ad N v w) (h2 : sd_st ad N l k) : sd_st ad N (v :: l) (w :: k) := ⟨h1, h2⟩
theorem pm_nx_inj {nx : Nat} (hs : pm_nx nx ls st h = some (.inl (pc', ls', st', h'))) : nx = pc' ∧ ls = ls' ∧ st = st' ∧ h = h' := by
  simp only [pm_nx, Option.some.injEq, Sum.inl.injEq, Prod.mk.injEq] at hs
  exact hs
theorem sd_word {j : Nat} {w : Cond} (hG : sd_G D cI cL base b0 adX X s) (h : sd_is j w = true) (a : Array Value) : w.before a s = true := hG.1 w (sd_is_mem h).1 (sd_is_mem h).2 a
theorem sd_s1 {nx : Nat} {v : Int} (hF : sd_F p l s m meth c mi) (hG : sd_G D cI cL base b0 adX X s) (hR : sd_R D cI cL base adX s R k0 s0 nL ad ls st h Ls St H locs cells slots) (hc : sd_c1 (sd_oc mi) pc nx v (decode (sd_by mi) pc) = true) (hs : pm_nx nx ls (.int (Int32.ofInt v) :: st) h = some (.inl (pc', ls', st', h'))) (kk : sd_Kt p l e R s m args below meth c Q D cI cL base adX k0 s0 nL ad h.1.length pc' ls' st' h') : W p l e R s m args below meth c H locs cells slots Q (F0 m pc Ls St) := by
  obtain ⟨hx, hlt, hown, hb, hml, hrt, hlk, htb, hnm⟩ := hF
  obtain ⟨rfl, rfl, rfl, rfl⟩ := pm_nx_inj hs
  have k2 := sd_same hR (sd_st_c (v := .int (Int32.ofInt v)) (w := .int (Int32.ofInt v)) rfl hR.2.2.2.1) kk
  rcases sd_c1_inv hc with ⟨n, hd, rfl, he⟩ | ⟨n, hd, rfl, he⟩ | ⟨n, hd, rfl, he⟩ | ⟨n, hd, rfl, he⟩
  · exact lv_iconst hx hb hd he k2
  · exact lv_bipush hx hb hd he k2
  · exact lv_sipush hx hb hd he k2
  · obtain ⟨q, hq, e1⟩ := List.any_eq_true.mp he
    obtain ⟨e1, e2, e3⟩ := of_decide_eq_true e1
    have hw := sd_word hG (sd_cs_ok q hq) args
    rw [e1, e2, e3] at hw
    exact lv_ldcw hx hb hown hw hd k2
theorem sd_s2 {nx a : Nat} (hF : sd_F p l s m meth c mi) (hG : sd_G D cI cL base b0 adX X s) (hR : sd_R D cI cL base adX s R k0 s0 nL ad ls st h Ls St H locs cells slots) (hc : sd_c2 pc nx a (decode (sd_by mi) pc) = true) (hs : pm_s2 nx a ls st h = some (.inl (pc', ls', st', h'))) (kk : sd_Kt p l e R s m args below meth c Q D cI cL base adX k0 s0 nL ad h.1.length pc' ls' st' h') : W p l e R s m args below meth c H locs cells slots Q (F0 m pc Ls St) := by
  obtain ⟨hx, hlt, hown, hb, hml, hrt, hlk, htb, hnm⟩ := hF
  unfold pm_s2 at hs
  split at hs
  · rename_i x hg
    obtain ⟨rfl, rfl, rfl, rfl⟩ := pm_nx_inj hs
    obtain ⟨w, hw, hlw⟩ := hR.2.2.1.get hg (fun _ h => by cases h)
    have k2 := sd_same hR (sd_st_c hw hR.2.2.2.1) kk
    cases (show w = .int x from hw)
    rcases sd_c2_inv hc with ⟨k, hd, rfl, he⟩ | ⟨k, hd, rfl, he⟩
    · exact lv_iload_n hx hb hd he hlw k2
    · subst he
      exact lv_iload hx hb hd hlw k2
  · cases hs
theorem sd_s3 {nx a : Nat} (hF : sd_F p l s m meth c mi) (hG : sd_G D cI cL base b0 adX X s) (hR : sd_R D cI cL base adX s R k0 s0 nL ad ls st h Ls St H locs cells slots) (hc : sd_c3 pc nx a (decode (sd_by mi) pc) = true) (hs : pm_s3 nx a ls st h = some (.inl (pc', ls', st', h'))) (kk : sd_Kt p l e R s m args below meth c Q D cI cL base adX k0 s0 nL ad h.1.length pc' ls' st' h') : W p l e R s m args below meth c H locs cells slots Q (F0 m pc Ls St) := by
  obtain ⟨hx, hlt, hown, hb, hml, hrt, hlk, htb, hnm⟩ := hF
  unfold pm_s3 at hs
  split at hs
  · rename_i x hg
    obtain ⟨rfl, rfl, rfl, rfl⟩ := pm_nx_inj hs
    obtain ⟨w, hw, hlw⟩ := hR.2.2.1.get hg (fun _ h => by cases h)
    have k2 := sd_same hR (sd_st_c hw hR.2.2.2.1) kk
    cases hw.1
    rcases sd_c3_inv hc with ⟨k, hd, rfl, he⟩ | ⟨k, hd, rfl, he⟩
    · exact lv_aload_n hx hb hd he hlw k2
    · subst he
      exact lv_aload hx hb hd hlw k2
  · cases hs
theorem sd_s4 {nx a : Nat} (hF : sd_F p l s m meth c mi) (hG : sd_G D cI cL base b0 adX X s) (hR : sd_R D cI cL base adX s R k0 s0 nL ad ls st h Ls St H locs cells slots) (hc : sd_c4 pc nx a (decode (sd_by mi) pc) = true) (hs : pm_s4 nx a ls st h = some (.inl (pc', ls', st', h'))) (kk : sd_Kt p l e R s m args below meth c Q D cI cL base adX k0 s0 nL ad h.1.length pc' ls' st' h') : W p l e R s m args below meth c H locs cells slots Q (F0 m pc Ls St) := by
  obtain ⟨hx, hlt, hown, hb, hml, hrt, hlk, htb, hnm⟩ := hF
  unfold pm_s4 at hs
  split at hs
  · rename_i x r
    split at hs
    · rename_i ha
      obtain ⟨rfl, rfl, rfl, rfl⟩ := pm_nx_inj hs
      obtain ⟨w, k, rfl, hw, hrs⟩ := hR.2.2.2.1.c
      cases (show w = .int x from hw)
      obtain ⟨hl, lv, hv1, hv2, hv3⟩ := hR.2.2.1
      have hi : a < nL := by omega
      rcases sd_c4_inv hc with ⟨k, hd, rfl, he⟩ | ⟨k, hd, rfl, he⟩
      · refine lv_istore_n (nL := nL) hx hb hd he hv1 hi rfl fun Ls2 hl2 => ?_
        exact kk ad Ls2 _ H locs cells slots sd_le.rf (Nat.le_refl _) ⟨hR.1, hR.2.1, sd_l.put hl hv2 hv3 hw rfl hl2, hrs, hR.2.2.2.2⟩
      · subst he
        refine lv_istore (nL := nL) hx hb hd hv1 hi rfl fun Ls2 hl2 => ?_
        exact kk ad Ls2 _ H locs cells slots sd_le.rf (Nat.le_refl _) ⟨hR.1, hR.2.1, sd_l.put hl hv2 hv3 hw rfl hl2, hrs, hR.2.2.2.2⟩
    · cases hs
  · cases hs
theorem sd_s5 {nx a : Nat} (hF : sd_F p l s m meth c mi) (hG : sd_G D cI cL base b0 adX X s) (hR : sd_R D cI cL base adX s R k0 s0 nL ad ls st h Ls St H locs cells slots) (hc : sd_c5 pc nx a (decode (sd_by mi) pc) = true) (hs : pm_s5 nx a ls st h = some (.inl (pc', ls', st', h'))) (kk : sd_Kt p l e R s m args below meth c Q D cI cL base adX k0 s0 nL ad h.1.length pc' ls' st' h') : W p l e R s m args below meth c H locs cells slots Q (F0 m pc Ls St) := by
  obtain ⟨hx, hlt, hown, hb, hml, hrt, hlk, htb, hnm⟩ := hF
  unfold pm_s5 at hs
  split at hs
  · rename_i x r
    split at hs
    · rename_i ha
      obtain ⟨rfl, rfl, rfl, rfl⟩ := pm_nx_inj hs
      obtain ⟨w, k, rfl, hw, hrs⟩ := hR.2.2.2.1.c
      cases hw.1
      obtain ⟨hl, lv, hv1, hv2, hv3⟩ := hR.2.2.1
      have hi : a < nL := by omega
      rcases sd_c5_inv hc with ⟨k, hd, rfl, he⟩ | ⟨k, hd, rfl, he⟩
      · refine lv_astore_n (nL := nL) hx hb hd he hv1 hi rfl fun Ls2 hl2 => ?_
        exact kk ad Ls2 _ H locs cells slots sd_le.rf (Nat.le_refl _) ⟨hR.1, hR.2.1, sd_l.put hl hv2 hv3 hw rfl hl2, hrs, hR.2.2.2.2⟩
      · subst he
        refine lv_astore (nL := nL) hx hb hd hv1 hi rfl fun Ls2 hl2 => ?_
        exact kk ad Ls2 _ H locs cells slots sd_le.rf (Nat.le_refl _) ⟨hR.1, hR.2.1, sd_l.put hl hv2 hv3 hw rfl hl2, hrs, hR.2.2.2.2⟩
    · cases hs
  · rename_i x r
    split at hs
    · rename_i ha
      obtain ⟨h0, ha⟩ := ha
      subst h0
      obtain ⟨rfl, rfl, rfl, rfl⟩ := pm_nx_inj hs
      obtain ⟨w, k, rfl, hw, hrs⟩ := hR.2.2.2.1.c
      obtain ⟨z, hz⟩ : ∃ z, w = .ref z := id hw
      subst hz
      obtain ⟨hl, lv, hv1, hv2, hv3⟩ := hR.2.2.1
      have hi : a < nL := by omega
      rcases sd_c5_inv hc with ⟨k, hd, rfl, he⟩ | ⟨k, hd, rfl, he⟩
      · refine lv_astore_n (nL := nL) hx hb hd he hv1 hi rfl fun Ls2 hl2 => ?_
        exact kk ad Ls2 _ H locs cells slots sd_le.rf (Nat.le_refl _) ⟨hR.1, hR.2.1, sd_l.put hl hv2 hv3 hw rfl hl2, hrs, hR.2.2.2.2⟩
      · subst he
        refine lv_astore (nL := nL) hx hb hd hv1 hi rfl fun Ls2 hl2 => ?_
        exact kk ad Ls2 _ H locs cells slots sd_le.rf (Nat.le_refl _) ⟨hR.1, hR.2.1, sd_l.put hl hv2 hv3 hw rfl hl2, hrs, hR.2.2.2.2⟩
    · cases hs
  · cases hs
theorem sd_s6 {nx a : Nat} {v : Int} (hF : sd_F p l s m meth c mi) (hG : sd_G D cI cL base b0 adX X s) (hR : sd_R D cI cL base adX s R k0 s0 nL ad ls st h Ls St H locs cells slots) (hc : sd_c6 pc nx a v (decode (sd_by mi) pc) = true) (hs : pm_s6 nx a v ls st h = some (.inl (pc', ls', st', h'))) (kk : sd_Kt p l e R s m args below meth c Q D cI cL base adX k0 s0 nL ad h.1.length pc' ls' st' h') : W p l e R s m args below meth c H locs cells slots Q (F0 m pc Ls St) := by
  obtain ⟨hx, hlt, hown, hb, hml, hrt, hlk, htb, hnm⟩ := hF
  unfold pm_s6 at hs
  split at hs
  · rename_i x hg
    obtain ⟨rfl, rfl, rfl, rfl⟩ := pm_nx_inj hs
    have ha : a < ls.length := (List.getElem?_eq_some_iff.mp hg).1
    obtain ⟨hl, lv, hv1, hv2, hv3⟩ := hR.2.2.1
    rcases hv3 a _ hg with ⟨z, hz⟩ | ⟨w, hw, hm⟩
    · cases hz
    · cases (show w = .int x from hw)
      obtain ⟨k, hk⟩ := List.getElem?_of_mem hm
      obtain ⟨k', n', hd, rfl, rfl, rfl⟩ := sd_c6_inv hc
      refine lv_iinc (nL := nL) hx hb hd hv1 hk rfl (by omega) rfl fun Ls2 hl2 => ?_
      exact kk ad Ls2 _ H locs cells slots sd_le.rf (Nat.le_refl _) ⟨hR.1, hR.2.1, sd_l.put (w := .int (x + Int32.ofInt n')) hl hv2 hv3 rfl rfl hl2, hR.2.2.2.1, hR.2.2.2.2⟩
  · cases hs
end SDV
