/-! ===== the pure machine's run, walked on the machine ===== -/
section SDX
variable {p : Program} {l : Launch} {e : Env} {R : Room} {s : State} {m : MethodId} {args : Array Value} {below : List Frame} {meth : Method} {c : Code} {H : Heap} {locs : List Loc} {cells slots : Nat} {Q : State → Prop}
variable {D : va_G} {cI cL : ClassId} {base b0 : Nat} {adX : Nat → Nat} {k0 s0 nL mi d : Nat} {ad : Nat → Nat} {ls st : List Value} {h : pm_H} {Ls : Array Slot} {St : List Value} {pc : Nat} {X : pm_X} {pc' : Nat} {ls' st' : List Value} {h' : pm_H}
theorem sd_meth (hG : sd_G D cI cL base b0 adX X s) {mj : Nat} (hmj : mj < 258) : ∃ mk methk ck, s.methodNamed? (sd_y mj) = some mk ∧ s.vm.method? mk = some methk ∧ methk.code = some ck ∧ ck.code = sd_by mj ∧ ck.maxLocals = pm_ml mj ∧ methk.sig.returnType = sd_rt mj ∧ methk.locks = false ∧ ck.exceptionTable.toList.map (fun h => (h.startPc, h.endPc, h.handlerPc, h.catchType)) = sd_hh mj ∧ parseMethodDescriptor (sd_y mj).desc = some methk.sig := by
  have hw := hG.1 (sd_wC mj) (sd_mcA258 mj hmj) (sd_wC_gw mj) #[]
  unfold sd_wC at hw
  split at hw
  · rename_i he
    obtain ⟨mk, hn⟩ := Cond.code_named hw
    obtain ⟨methk, ck, h1, h2, h3, h4, h5, h6, h7, h8⟩ := Cond.code_spec hn hw
    refine ⟨mk, methk, ck, hn, h1, h2, h3, h4, h5, h6, ?_, h8⟩
    rw [List.isEmpty_iff.mp he, Array.isEmpty_iff.mp h7]
    rfl
  · obtain ⟨mk, methk, ck, hn, h1, h2, h3, h4, h7, h5, h6, h8⟩ := Cond.codeWith_spec hw
    exact ⟨mk, methk, ck, hn, h1, h2, h3, h4, h5, h6, h7, h8⟩
theorem sd_Gmove (hG : sd_G D cI cL base b0 adX X s) {U : State} (hW : s.WarmedH U.vm) (hS : va_S (sd_A base) s.heap U.heap locs) : sd_G D cI cL base b0 adX X U := by
  obtain ⟨g1, g2, ⟨g3, g3b, g3c⟩, g4, g5, ⟨g6, g7⟩, ⟨g8, g9⟩, ⟨g10, g11⟩, g12⟩ := hG
  refine ⟨fun w hw hg a => sd_gw_at (A := #[]) hg hW (g1 w hw hg #[]), va_K.moved hW.alike g2, ⟨(va_X.moved hW.alike g3).kept (hS.2.1 b0 (Nat.lt_of_lt_of_le g3b g4) (by show ¬ base ≤ b0; omega)), g3b, g3c⟩, Nat.le_trans g4 hS.1, fun k hk => ?_, ⟨vx_Zq.moved hW.alike (g6.kept hS.2.1), vx_Zq.moved hW.alike (g7.kept hS.2.1)⟩, ⟨va_Z.moved hW.alike (g8.kept hS.2.1), va_Zq.moved hW.alike (g9.kept hS.2.1)⟩, ⟨fun q hq => vk_R.warm hW (g10 q hq), fun q hq => vk_R.warm hW (g11 q hq)⟩, fun i j hi hj hij => ?_⟩
  · obtain ⟨a1, a2, a3, a4⟩ := g5 k hk
    exact ⟨(a1.moved hW.alike).kept hS.2.1, (a2.moved hW.alike).kept hS.2.1, (a3.moved hW.alike).kept hS.2.1, (a4.moved hW.alike).kept hS.2.1⟩
  · obtain ⟨a, t, h1, h2, h3⟩ := g12 i j hi hj hij
    exact ⟨a, t, by rw [hW.alike.findClass]; exact h1, by rw [hW.alike.findClass]; exact h2, by rw [hW.alike.assignable]; exact h3⟩
theorem sd_weak {mid : List Frame} {a b : State} {tb : Tables} (h9 : Steps tb e (mid ++ below) a b) : Steps tb e below a b := by
  obtain ⟨n, hn, w⟩ := h9
  exact ⟨n, hn, fun k hk => (w k hk).weaken⟩
/-- a method's entry -/
theorem sd_entry {mj : Nat} {av As : List Value} (hst : sd_st ad h.1.length av As) (hw : ∀ v ∈ av, pm_w1 v = true) (hlen : av.length ≤ pm_ml mj) (mk : MethodId) : ∃ Ls9, entryFrame mk As.toArray (pm_ml mj) = F0 mk 0 Ls9 [] ∧ sd_l ad h.1.length (pm_ml mj) (pm_pad mj av) Ls9 := by
  have hc : ∀ v ∈ As, v.category = 1 := by
    clear hlen
    induction av generalizing As with
    | nil => cases hst.n; intro v hv; cases hv
    | cons v l ih =>
      obtain ⟨w, k, rfl, h1, h2⟩ := hst.c
      intro u hu
      rcases List.mem_cons.mp hu with rfl | hu
      · exact h1.w1 (hw v List.mem_cons_self)
      · exact ih h2 (fun v hv => hw v (List.mem_cons_of_mem _ hv)) u hu
  have hsl : ∀ k : List Value, (∀ v ∈ k, v.category = 1) → (lg_sl k).length = k.length := by
    intro k hk
    induction k with
    | nil => rfl
    | cons v k ih =>
      have h1 := hk v List.mem_cons_self
      have h2 := ih (fun u hu => hk u (List.mem_cons_of_mem _ hu))
      simp only [lg_sl, List.flatMap_cons] at h2 ⊢
      rw [if_neg (by omega)]
      simp only [List.cons_append, List.nil_append, List.length_cons]
      omega
  have hAl := hst.len
  have hl := lv_entry As (n := pm_ml mj) (by rw [hsl As hc]; omega)
  refine ⟨_, lg_entry_eq mk As (pm_ml mj), ?_⟩
  refine ⟨by simp [pm_pad]; omega, _, hl, ?_, ?_⟩
  · have : ∀ (k : List Value) (i : Nat), (∀ v ∈ k, v.category = 1) → ∀ q ∈ lv_args i k, q.2.category = 1 := by
      intro k
      induction k with
      | nil => intro i _ q hq; cases hq
      | cons v k ih =>
        intro i hk q hq
        rw [lv_args] at hq
        rcases List.mem_cons.mp hq with rfl | hq
        · exact hk v List.mem_cons_self
        · exact ih _ (fun u hu => hk u (List.mem_cons_of_mem _ hu)) q hq
    exact this As 0 hc
  · have hmem : ∀ (k : List Value) (i j : Nat) (w : Value), (∀ v ∈ k, v.category = 1) → k[j]? = some w → (i + j, w) ∈ lv_args i k := by
      intro k
      induction k with
      | nil => intro i j w _ hj; cases hj
      | cons v k ih =>
        intro i j w hk hj
        rw [lv_args, if_neg (by rw [hk v List.mem_cons_self]; decide)]
        cases j with
        | zero => cases hj; exact List.mem_cons_self
        | succ j =>
          have := ih (i + 1) j w (fun u hu => hk u (List.mem_cons_of_mem _ hu)) hj
          rw [show i + (j + 1) = i + 1 + j by omega]
          exact List.mem_cons_of_mem _ this
    have hget : ∀ (l k : List Value) (j : Nat) (v : Value), sd_st ad h.1.length l k → l[j]? = some v → ∃ w, k[j]? = some w ∧ sd_r ad h.1.length v w := by
      intro l
      induction l with
      | nil => intro k j v _ hj; cases hj
      | cons u l ih =>
        intro k j v hk hj
        obtain ⟨w, k2, rfl, h1, h2⟩ := hk.c
        cases j with
        | zero => cases hj; exact ⟨w, rfl, h1⟩
        | succ j => exact ih k2 j v h2 hj
    intro j v hj
    rw [pm_pad] at hj
    by_cases hjl : j < av.length
    · rw [List.getElem?_append_left hjl] at hj
      obtain ⟨w, h1, h2⟩ := hget av As j v hst hj
      have := hmem As 0 j w hc h1
      rw [Nat.zero_add] at this
      exact Or.inr ⟨w, h2, this⟩
    · rw [List.getElem?_append_right (by omega), List.getElem?_replicate] at hj
      split at hj
      · cases hj; exact Or.inl ⟨_, rfl⟩
      · cases hj
/-- behind a callee: it returned, or threw -/
theorem sd_back {mj mc ms : Nat} {av As rest : List Value} {ig : Instr} {r : pm_O × pm_H} (hF : sd_F p l s m meth c mi) (hG : sd_G D cI cL base b0 adX X s) (hRm : sd_Rm (d + 1) R) (hnL : nL = pm_ml mi) (hR : sd_R D cI cL base adX s R k0 s0 nL ad ls st h Ls St H locs cells slots)
    (hmj : mj < 258) (hdg : decode (sd_by mi) pc = .ok (ig, 3)) (hrest : (rest.map fun v => v.category).sum ≤ 8) (hav : sd_st ad h.1.length av As) (haw : ∀ v ∈ av, pm_w1 v = true) (halen : av.length ≤ pm_ml mj) (hbd : cells + mc ≤ R.cells ∧ slots + ms ≤ R.slots)
    (callee : ∀ (s9 : State) (R9 : Room) (mk : MethodId) (methk : Method) (ck : Code) (Ls9 : Array Slot), sd_F p l s9 mk methk ck mj → sd_G D cI cL base b0 adX X s9 → sd_Rm d R9 → R9.cells + cells = R.cells → R9.slots + slots = R.slots → s9.heap = H → sd_l ad h.1.length (pm_ml mj) (pm_pad mj av) Ls9 →
      W p l e R9 s9 mk As.toArray (.java { F0 m pc Ls St with stack := rest } :: below) methk ck H [] 0 0 (sd_End D cI cL base adX (.java { F0 m pc Ls St with stack := rest } :: below) ad h.1.length r As.toArray s9 mc ms) (F0 mk 0 Ls9 []))
    (hinv : ∀ T : State, T.heap = H → Stand p l e R s m args below meth c T locs cells slots → ∀ (mk : MethodId) (methk : Method), s.methodNamed? (sd_y mj) = some mk → s.vm.method? mk = some methk → parseMethodDescriptor (sd_y mj).desc = some methk.sig →
      ∃ vm₁, Stand p l e R s m args below meth c (T.setVm vm₁) locs cells slots ∧ ∀ target, (∀ acts, Steps p.tables e below (doInvoke e ((T.setVm vm₁).setTop { F0 m pc Ls St with stack := rest }) acts mk As.toArray).1 target) → Steps p.tables e below (T.setTop (F0 m pc Ls St)) target)
    (kret : ∀ (v : Option Value) (st9 : State) (H1 : Heap) (locs1 : List Loc), r.1 = .inl v → (v = none ∨ ∃ x, v = some (.int x)) → va_S (sd_A base) s.heap H1 locs1 → (∃ t : State, t.heap = H1 ∧ sd_Pt D cI cL base adX ad h.1.length r.2 st9 t) →
      W p l e R s m args below meth c H1 locs1 (cells + mc) (slots + ms) Q (F0 m (pc + 3) Ls (v.toList ++ rest)))
    (kthr : ∀ (k : Nat) (st9 : State) (H1 : Heap) (locs1 : List Loc) (q : Addr) (ce : Cell), r.1 = .inr k → k < 4 → va_S (sd_A base) s.heap H1 locs1 → (∃ t : State, t.heap = H1 ∧ sd_Pt D cI cL base adX ad h.1.length r.2 st9 t) → H1[q]? = some ce → ce.vm = .none → s.vm.findClass (sd_ex k) = some ce.cls →
      ∀ T : State, T.heap = H1 → Stand p l e R s m args below meth c T locs1 (cells + mc) (slots + ms) → ∃ t, Steps p.tables e below ((T.setTop { F0 m pc Ls St with stack := rest }).pushFrame (.throwing q)) t ∧ Q t) :
    W p l e R s m args below meth c H locs cells slots Q (F0 m pc Ls St) := by
  obtain ⟨hx, hlt, hown, hb, hml, hrt, hlk, htb, hnm⟩ := hF
  intro T hT X9
  obtain ⟨mk, methk, ck, hn, hm, hck, hcb, hcl, hcr, hclk, hct, hsg⟩ := sd_meth hG hmj
  obtain ⟨vm₁, X₁, hstep₁⟩ := hinv T hT X9 mk methk hn hm hsg
  have hal := X₁.warmed.alike
  have hmk : (T.setVm vm₁).vm.method? mk = some methk := by
    rw [hal.method?]
    exact hm
  have hme := sd_me_ok mj hmj
  simp only [Bool.and_eq_true, decide_eq_true_eq] at hme
  have hmo := sd_mo_ok mj hmj
  simp only [Bool.and_eq_true, decide_eq_true_eq] at hmo
  have hpl : (T.setVm vm₁).plainMethod mk := State.plainMethod.of_named hme.1.1.2 (X₁.named hn) hmk
  have hsz : Ls.size = c.maxLocals := by rw [hR.2.2.1.size, hml, hnL]
  obtain ⟨hR1, hR2⟩ := hRm
  obtain ⟨Y, hin⟩ := X₁.into (g := { F0 m pc Ls St with stack := rest }) rfl hsz (by rw [hb]; exact hdg) As.toArray (R' := { frames := R.frames - 1, locals := R.locals - 60, cells := R.cells - cells, slots := R.slots - slots }) hmk hck hclk hpl
    (by show R.frames - 1 + 1 ≤ R.frames; omega) (by show 2 * 0 + (rest.map fun v => v.category).sum + (ck.maxLocals + 11) + (R.locals - 60) ≤ R.locals; rw [hcl]; omega) (by show cells + (R.cells - cells) ≤ R.cells; omega) (by show slots + (R.slots - slots) ≤ R.slots; omega)
  generalize hs9 : (T.setVm vm₁).calling { F0 m pc Ls St with stack := rest } mk As.toArray = s9 at Y
  have hs9v : s9.vm = vm₁ := by rw [← hs9]; rfl
  have hs9h : s9.heap = H := by rw [← hs9]; exact hT
  have hW9 : s.WarmedH s9.vm := by rw [hs9v]; exact X₁.warmed
  have hG9 : sd_G D cI cL base b0 adX X s9 := sd_Gmove hG hW9 (by rw [hs9h]; exact hR.2.1)
  obtain ⟨Ls9, hef, hl9⟩ := sd_entry hav haw halen mk
  have hF9 : sd_F p l s9 mk methk ck mj := by
    refine ⟨hx, hlt, ?_, hcb, hcl, hcr, hclk, hct, (name_of_methodNamed hn hm).1⟩
    rw [← hmo.1.1, hW9.alike.findClass]
    exact findClass_of_methodNamed hn
  obtain ⟨t, hst9, o, ho1, ho2, ho3⟩ := callee s9 _ mk methk ck Ls9 hF9 hG9 ⟨by show 10 + d ≤ R.frames - 1; omega, by show 200 + 60 * d ≤ R.locals - 60; omega⟩ (by show R.cells - cells + cells = R.cells; omega) (by show R.slots - slots + slots = R.slots; omega) hs9h hl9 _ (by show T.heap = H; exact hT) Y
  have hst1 : Steps p.tables e below (((T.setVm vm₁).setTop { F0 m pc Ls St with stack := rest }).pushFrame (.java (entryFrame mk As.toArray ck.maxLocals)) |>.setTop (F0 mk 0 Ls9 [])) t := sd_weak (mid := [_]) hst9
  rcases ho3 with ⟨⟨v, a1, a2, rfl, a4⟩, L, ⟨⟨v', hv'⟩, hW3, hsm⟩, hL⟩ | ⟨q, rfl, E, ce, L, ⟨k, a1, a2, rfl, a4⟩, hce, hcv, hcc, hW3, hsm, hL⟩
  · subst hs9
    obtain ⟨T', X', hW4, hsm4, rfl⟩ := X₁.outOf (g := { F0 m pc Ls St with stack := rest }) rfl (by rw [hb]; exact hdg) ho2 hW3 hsm
    have hh : (T'.setTop { ({ F0 m pc Ls St with stack := rest } : JFrame) with pc := pc + 3, stack := v.toList ++ rest }).heap = T'.heap := rfl
    obtain ⟨ad2, p1, p2, p3, p4, p5⟩ := id a4
    have hSn : va_S (sd_A base) s.heap T'.heap (locs ++ L) := by
      refine ⟨Nat.le_trans hR.2.1.1 (by rw [← hs9h]; exact p4), fun q h1 h2 => ?_, fun z hz => ?_⟩
      · have e1 := p5 q (by rw [hs9h]; exact Nat.lt_of_lt_of_le h1 hR.2.1.1) h2
        rw [hs9h] at e1
        exact e1.trans (hR.2.1.2.1 q h1 h2)
      · rcases List.mem_append.mp hz with h1 | h1
        · exact hR.2.1.2.2 z h1
        · exact hL z h1
    obtain ⟨t2, st2, q2⟩ := kret v _ T'.heap (locs ++ L) a1 a2 hSn ⟨_, hh, a4⟩ T' rfl X'
    refine ⟨t2, hstep₁ _ fun acts => ?_, q2⟩
    rw [hin acts, hcl, hef]
    rw [hcl, hef] at hst1
    exact (show Steps p.tables e below _ _ from hst1).trans st2
  · subst hs9
    obtain ⟨T', X', hW4, hsm4, rfl⟩ := X₁.outOfThrown (g := { F0 m pc Ls St with stack := rest }) rfl ho2 hW3 hsm
    have hh : ((T'.setTop { F0 m pc Ls St with stack := rest }).pushFrame (.throwing q)).heap = T'.heap := Stand.throwing_heap T' _ q
    obtain ⟨ad2, p1, p2, p3, p4, p5⟩ := id a4
    rw [hh] at p4 p5 hce
    have hSn : va_S (sd_A base) s.heap T'.heap (locs ++ L) := by
      refine ⟨Nat.le_trans hR.2.1.1 (by rw [← hs9h]; exact p4), fun q h1 h2 => ?_, fun z hz => ?_⟩
      · have e1 := p5 q (by rw [hs9h]; exact Nat.lt_of_lt_of_le h1 hR.2.1.1) h2
        rw [hs9h] at e1
        exact e1.trans (hR.2.1.2.1 q h1 h2)
      · rcases List.mem_append.mp hz with h1 | h1
        · exact hR.2.1.2.2 z h1
        · exact hL z h1
    have hcc2 : s.vm.findClass (sd_ex k) = some ce.cls := by
      rw [← hW9.alike.findClass]
      exact hcc
    obtain ⟨t2, st2, q2⟩ := kthr k _ T'.heap (locs ++ L) q ce a1 a2 hSn ⟨_, hh, a4⟩ hce hcv hcc2 T' rfl X'
    refine ⟨t2, hstep₁ _ fun acts => ?_, q2⟩
    rw [hin acts, hcl, hef]
    rw [hcl, hef] at hst1
    exact (show Steps p.tables e below _ _ from hst1).trans st2
end SDX
