def sd_xl : List (Nat × (Nat × (Nat × Nat))) := [(20, 13, 0, 676), (20, 15, 1, 677), (20, 27, 2, 1007), (20, 29, 3, 1008)]
def sd_xc : List Nat := [839, 908, 1019, 1045]
/-! ===== a throw that is caught; the run ===== -/
theorem sd_kd_ok {a : Nat} (ha : a < 258) : (pm_na a = (sd_kd a).2.2 + (if (sd_kd a).1 = 0 then 0 else 1)) ∧ ((sd_kd a).2.1 = 100 ∨ (sd_kd a).2.1 < 13) := by
  have h := sd_na_ok a ha
  simp only [Bool.and_eq_true, decide_eq_true_eq] at h
  exact h
theorem sd_par {a : Nat} (ha : a < 258) {sig : MethodDescriptor} (h : parseMethodDescriptor (sd_y a).desc = some sig) : sig.parameters.length = (sd_kd a).2.2 := by
  have h1 := sd_pd_ok a ha
  rw [h] at h1
  exact Option.some.inj h1
def sd_ci (k : Nat) : List (Nat × (Nat × Nat)) → Bool := fun l => l.all fun q => decide (q.1 = k)
/-- the handlers' classes are linked -/
noncomputable def sd_hk (mi : Nat) : Bool := decide ((sd_hh mi).map (fun q => (q.1, q.2.1, q.2.2.1)) = (pm_hs mi).map (fun q => (q.1, q.2.1, q.2.2.1))) && ((sd_hh mi).zip (pm_hs mi)).all fun q => decide (q.2.2.2.2 < 4) && decide (q.1.2.2.2 ≠ 0) && (sd_xl.any fun z => decide (z.1 = sd_oc mi ∧ z.2.1 = q.1.2.2.2 ∧ z.2.2.1 = q.2.2.2.2))
theorem sd_hk_ok : ∀ mi, mi < 259 → sd_hk mi = true := by decide +kernel
theorem sd_xl_ok : ∀ z ∈ sd_xl, sd_is z.2.2.2 (.classLink (sd_o z.1) z.2.1 (sd_ex z.2.2.1)) = true := by decide +kernel
theorem sd_xc_ok : ∀ k, k < 4 → sd_is (sd_xc.getD k 0) (.castable (sd_ex k) (sd_ex k)) = true := by decide +kernel
section SDT
variable {p : Program} {l : Launch} {e : Env} {R : Room} {s : State} {m : MethodId} {args : Array Value} {below : List Frame} {meth : Method} {c : Code} {H : Heap} {locs : List Loc} {cells slots : Nat} {Q : State → Prop}
variable {D : va_G} {cI cL : ClassId} {base b0 : Nat} {adX : Nat → Nat} {k0 s0 nL mi d : Nat} {ad : Nat → Nat} {ls st : List Value} {h : pm_H} {Ls : Array Slot} {St : List Value} {pc : Nat} {X : pm_X} {pc' : Nat} {ls' st' : List Value} {h' : pm_H}
theorem sd_goNo {Q : Handler → Pre} {E : CtlPost} {d : Bool} {acts : List Action} {f : JFrame} {a : Addr} {x : ExceptionTableEntry} {t : List ExceptionTableEntry} {c : ClassId} {cell : Cell} (hx : covers x f.pc = true) (h0 : x.catchType ≠ 0)
    (hl : s.vm.ClassLinks e.platform f.method.cls x.catchType c) (hcell : s.heap[a]? = some cell) (hobj : ∀ k, cell.vm ≠ .statics k)
    (hk : ∃ k, s.vm.classes[cell.cls]? = some k) (hc : ∃ k, s.vm.classes[c]? = some k) (hno : s.vm.assignable cell.cls c = false) :
    wp (findHandler.go f a (x :: t)) Q E e d acts s ↔ wp (findHandler.go f a t) Q E e d acts (s.setVm (s.vm.noted f.method.cls x.catchType (.cls c))) := by
  simp only [covers] at hx
  obtain ⟨ha, ht⟩ := (resolveClass_links e.toSetting hl).op (op := VmOp.resolveClass f.method.cls x.catchType) rfl
  have hal : s.vm.Alike (s.vm.noted f.method.cls x.catchType (.cls c)) := (Vm.Alike.refl s.vm).noted _ _ _
  obtain ⟨k1, hk1⟩ := hk
  obtain ⟨k2, hk2⟩ := hc
  obtain ⟨k1', hk1', -⟩ := hal.2.2 _ _ hk1
  obtain ⟨k2', hk2', -⟩ := hal.2.2 _ _ hk2
  have hno' : (s.vm.noted f.method.cls x.catchType (.cls c)).assignable cell.cls c = false := by rw [hal.assignable]; exact hno
  simp [findHandler.go, hx, h0, ha, ht, hcell, hobj, hk1', hk2', hno', VmOp.dirties, VmOp.acts]
theorem sd_goYes {Q : Handler → Pre} {E : CtlPost} {d : Bool} {acts : List Action} {f : JFrame} {a : Addr} {x : ExceptionTableEntry} {t : List ExceptionTableEntry} {c : ClassId} {cell : Cell} (hx : covers x f.pc = true) (h0 : x.catchType ≠ 0)
    (hl : s.vm.ClassLinks e.platform f.method.cls x.catchType c) (hcell : s.heap[a]? = some cell) (hobj : ∀ k, cell.vm ≠ .statics k)
    (hk : ∃ k, s.vm.classes[cell.cls]? = some k) (hc : ∃ k, s.vm.classes[c]? = some k) (hfit : s.vm.assignable cell.cls c = true) :
    wp (findHandler.go f a (x :: t)) Q E e d acts s ↔ Q (.found x.handlerPc) d acts (s.setVm (s.vm.noted f.method.cls x.catchType (.cls c))) := by
  simp only [covers] at hx
  obtain ⟨ha, ht⟩ := (resolveClass_links e.toSetting hl).op (op := VmOp.resolveClass f.method.cls x.catchType) rfl
  have hal : s.vm.Alike (s.vm.noted f.method.cls x.catchType (.cls c)) := (Vm.Alike.refl s.vm).noted _ _ _
  obtain ⟨k1, hk1⟩ := hk
  obtain ⟨k2, hk2⟩ := hc
  obtain ⟨k1', hk1', -⟩ := hal.2.2 _ _ hk1
  obtain ⟨k2', hk2', -⟩ := hal.2.2 _ _ hk2
  have hfit' : (s.vm.noted f.method.cls x.catchType (.cls c)).assignable cell.cls c = true := by rw [hal.assignable]; exact hfit
  simp [findHandler.go, hx, h0, ha, ht, hcell, hobj, hk1', hk2', hfit', VmOp.dirties, VmOp.acts]
/-- the search ends in handler h, and leaves the tables vm' -/
def sd_FT (e : Env) (s : State) (f : JFrame) (a : Addr) (h : Handler) (vm' : Vm) : Prop := ∀ (Q : Handler → Pre) (E : CtlPost) (d : Bool) (acts : List Action), wp (findHandler f a) Q E e d acts s ↔ Q h d acts (s.setVm vm')
theorem sd_stepC {s : State} {f : JFrame} {a : Addr} {pc : Nat} {vm' : Vm} {r : List Frame} (hfind : sd_FT e s f a (.found pc) vm') :
    (stepThrowing e s a (.java f :: r)).Is ((s.setVm vm').setFrames (.java { f with pc := pc, stack := [.ref a] } :: r)) [] := by
  simp only [stepThrowing, searchFrame, vmDo]
  generalize hr : Sem.go _ e false [] s = res
  obtain ⟨as, rfl, ha⟩ := Sem.eq_ok_of hr (a := Handler.found pc) (s' := s.setVm vm') (acts' := []) (by simp [hfind _ _ _ _])
  exact ⟨rfl, ha⟩
theorem sd_caught {tb : Tables} {s target : State} {g : JFrame} {c : Code} {a : Addr} (h : At s g.method c below) {pc : Nat} {vm' : Vm}
    (hfind : sd_FT e ((s.setTop g).pushFrame (.throwing a)) g a (.found pc) vm') (hrest : Steps tb e below ((s.setVm vm').setTop { g with pc := pc, stack := [.ref a] }) target) :
    Steps tb e below ((s.setTop g).pushFrame (.throwing a)) target := by
  obtain ⟨hgo, hw⟩ := h.throwing a
  refine Steps.head hgo hw ?_
  rw [stepThread_throwing (frames_entered h.top _), (sd_stepC (s := (s.setTop g).pushFrame (.throwing a)) hfind).1]
  obtain ⟨g₀, hg⟩ := Option.isSome_iff_exists.mp h.top
  obtain ⟨r, hr⟩ := State.topJava?_eq_some.mp hg
  have hr' : (s.setVm vm').frames = .java g₀ :: r := hr
  have hsf : ∀ (u : State) (F G : List Frame), ((u.setFrames F).setVm vm').setFrames G = (u.setVm vm').setFrames G := by
    intro u F G
    have h1 : (u.setFrames F).setVm vm' = (u.setVm vm').setFrames F := rfl
    rw [h1, State.setFrames_setFrames]
  rw [State.setTop_of_frames _ hr'] at hrest
  rw [hr, List.tail_cons, State.pushFrame, hsf, State.setTop_of_frames _ hr, hsf]
  exact hrest
/-- the search through a table: hh is the table, hs what the pure machine has of it -/
theorem sd_find {f : JFrame} {a : Addr} {cell : Cell} {k : Nat} {own : String} (hk4 : k < 4) (hown : s.vm.findClass own = some f.method.cls) (hpl : e.platform.magicAccessors = ({} : Platform).magicAccessors) (hobj : ∀ k, cell.vm ≠ .statics k) (hcls : s.vm.findClass (sd_ex k) = some cell.cls)
    (hnc : ∀ i j, i < 4 → j < 4 → i ≠ j → va_Nc (sd_EX.getD i "") (sd_EX.getD j "") s) (hcast : (Cond.castable (sd_ex k) (sd_ex k)).before args s = true) :
    ∀ (tab : List ExceptionTableEntry) (hs : List (Nat × (Nat × (Nat × Nat)))), tab.map (fun x => (x.startPc, x.endPc, x.handlerPc)) = hs.map (fun q => (q.1, q.2.1, q.2.2.1)) → (∀ q ∈ tab.zip hs, q.2.2.2.2 < 4 ∧ q.1.catchType ≠ 0 ∧ (Cond.classLink own q.1.catchType (sd_ex q.2.2.2.2)).before args s = true) → ∀ (w : Nat), pm_hnd hs f.pc k = some w →
      ∀ S : State, s.WarmedH S.vm → S.heap[a]? = some cell → ∃ vm', s.WarmedH vm' ∧ ∀ (Q : Handler → Pre) (E : CtlPost) (d : Bool) (acts : List Action), wp (findHandler.go f a tab) Q E e d acts S ↔ Q (.found w) d acts (S.setVm vm') := by
  obtain ⟨k9, hk9, -⟩ := Vm.findClass_spec hcls
  intro tab
  induction tab with
  | nil =>
    intro hs hm _ w hw
    cases hs with
    | nil => cases hw
    | cons q r => cases hm
  | cons x t ih =>
    intro hs hm hz w hw S hW hcell
    cases hs with
    | nil => cases hm
    | cons q r =>
      obtain ⟨q1, q2, q3, q4⟩ := q
      simp only [List.map_cons, List.cons.injEq, Prod.mk.injEq] at hm
      obtain ⟨⟨e1, e2, e3⟩, hm⟩ := hm
      obtain ⟨h4, h0, hl⟩ := hz _ (List.mem_cons_self (a := (x, (q1, q2, q3, q4))) (l := t.zip r))
      simp only at h4 h0 hl
      obtain ⟨c', hc', hcl⟩ := Cond.classLink_spec hown hl e.platform hpl
      obtain ⟨dk, _, _, kt, hd, _, _, _, _, hkt, _, hopn⟩ := hcl.here
      obtain ⟨kt', hkt', -⟩ := hW.alike.2.2 _ _ hkt
      obtain ⟨k9', hk9', -⟩ := hW.alike.2.2 _ _ hk9
      have hrest : ∀ q ∈ t.zip r, q.2.2.2.2 < 4 ∧ q.1.catchType ≠ 0 ∧ (Cond.classLink own q.1.catchType (sd_ex q.2.2.2.2)).before args s = true := fun q hq => hz q (List.mem_cons_of_mem _ hq)
      rw [pm_hnd] at hw
      by_cases hcov : covers x f.pc = true
      · have hcov2 : q1 ≤ f.pc ∧ f.pc < q2 := by
          rw [← e1, ← e2]
          simpa [covers] using hcov
        by_cases hkk : q4 = k
        · rw [if_pos ⟨hcov2.1, hcov2.2, hkk⟩] at hw
          cases hw
          subst hkk
          obtain ⟨c3, c4, hc3, hc4, hasg⟩ := Cond.castable_spec hcast
          cases Option.some.inj (hc3.symm.trans hcls)
          cases Option.some.inj (hc4.symm.trans hc')
          refine ⟨_, hW.noted hd hopn (State.rightAt_cls hcl), fun Q E d acts => ?_⟩
          rw [← e3]
          exact sd_goYes hcov h0 (hW.classLinks hcl) hcell hobj ⟨k9', hk9'⟩ ⟨kt', hkt'⟩ (by rw [hW.alike.assignable]; exact hasg)
        · rw [if_neg (fun h => hkk h.2.2)] at hw
          obtain ⟨a3, a4, hc3, hc4, hasg⟩ := hnc k q4 hk4 h4 (fun h => hkk h.symm)
          cases Option.some.inj (hc3.symm.trans hcls)
          cases Option.some.inj (hc4.symm.trans hc')
          obtain ⟨vm', hW', hq⟩ := ih r hm hrest w hw (S.setVm (S.vm.noted f.method.cls x.catchType (.cls c'))) (hW.noted hd hopn (State.rightAt_cls hcl)) hcell
          refine ⟨vm', hW', fun Q E d acts => ?_⟩
          rw [sd_goNo hcov h0 (hW.classLinks hcl) hcell hobj ⟨k9', hk9'⟩ ⟨kt', hkt'⟩ (by rw [hW.alike.assignable]; exact hasg)]
          exact hq Q E d acts
      · have hcov2 : ¬ (q1 ≤ f.pc ∧ f.pc < q2 ∧ q4 = k) := by
          rw [← e1, ← e2]
          intro h
          exact hcov (by simpa [covers] using ⟨h.1, h.2.1⟩)
        rw [if_neg hcov2] at hw
        obtain ⟨vm', hW', hq⟩ := ih r hm hrest w hw S hW hcell
        refine ⟨vm', hW', fun Q E d acts => ?_⟩
        rw [W.findHandler_go_skip (by simpa using hcov)]
        exact hq Q E d acts
end SDT

