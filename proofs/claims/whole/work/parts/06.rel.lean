/-! ===== how the pure machine's cells lie in the heap ===== -/
def sd_v (ad : Nat → Nat) : Value → Value
  | .ref k => .ref (ad k)
  | v => v
def sd_e (ad : Nat → Nat) (cI cL : ClassId) : pm_E → va_E
  | .inl (n, f) => .inl (cI, n, .inl f)
  | .inr (.inl (n, f)) => .inl (cL, n, .inr (.inl f))
  | .inr (.inr (c, fs)) => .inr (c, fs.map (sd_v ad))
def sd_ws (ad : Nat → Nat) (cI cL : ClassId) (L : List pm_E) : va_W := L.mapIdx fun i e => (ad i, sd_e ad cI cL e)
theorem sd_ws_get (ad : Nat → Nat) (cI cL : ClassId) (L : List pm_E) (k : Nat) : (sd_ws ad cI cL L)[k]? = L[k]?.map fun e => (ad k, sd_e ad cI cL e) := by
  simp [sd_ws]
theorem sd_ws_set (ad : Nat → Nat) (cI cL : ClassId) (L : List pm_E) (a : Nat) (e : pm_E) : sd_ws ad cI cL (L.set a e) = (sd_ws ad cI cL L).set a (ad a, sd_e ad cI cL e) := by
  apply List.ext_getElem?
  intro i
  rw [sd_ws_get, List.getElem?_set, List.getElem?_set, sd_ws_get]
  by_cases h : a = i
  · subst h
    have hl : (sd_ws ad cI cL L).length = L.length := by simp [sd_ws]
    rw [if_pos rfl, if_pos rfl, hl]
    split <;> rfl
  · rw [if_neg h, if_neg h]
theorem sd_ws_app (ad : Nat → Nat) (cI cL : ClassId) (L : List pm_E) (e : pm_E) : sd_ws ad cI cL (L ++ [e]) = sd_ws ad cI cL L ++ [(ad L.length, sd_e ad cI cL e)] := by
  simp [sd_ws, List.mapIdx_append]
def sd_okv (N : Nat) (v : Value) : Prop := match v with
  | .int _ => True
  | .null => True
  | .ref k => k < N
  | _ => False
def sd_wf (L : List pm_E) : Prop := ∀ (i c : Nat) (fs : List Value), L[i]? = some (.inr (.inr (c, fs))) → ∀ v, v ∈ fs → sd_okv L.length v
def sd_le (N : Nat) (ad ad' : Nat → Nat) : Prop := ∀ k, k < N ∨ 1000 ≤ k → ad' k = ad k
theorem sd_le.rf {N : Nat} {ad : Nat → Nat} : sd_le N ad ad := fun _ _ => rfl
theorem sd_le.tr {N N' : Nat} {a b c : Nat → Nat} (hN : N ≤ N') (h : sd_le N a b) (h' : sd_le N' b c) : sd_le N a c := fun k hk => (h' k (by omega)).trans (h k hk)
theorem sd_ws_le {ad ad' : Nat → Nat} (cI cL : ClassId) {L : List pm_E} (hw : sd_wf L) (h : sd_le L.length ad ad') : sd_ws ad' cI cL L = sd_ws ad cI cL L := by
  apply List.ext_getElem?
  intro i
  rw [sd_ws_get, sd_ws_get]
  cases hi : L[i]? with
  | none => rfl
  | some e =>
    have hlt : i < L.length := (List.getElem?_eq_some_iff.mp hi).1
    rcases e with ⟨n, f⟩ | ⟨n, f⟩ | ⟨c, fs⟩
    · simp [sd_e, h i (Or.inl hlt)]
    · simp [sd_e, h i (Or.inl hlt)]
    · simp only [sd_e, Option.map_some, h i (Or.inl hlt), Option.some.injEq, Prod.mk.injEq, true_and, Sum.inr.injEq]
      apply List.map_congr_left
      intro v hv
      cases v with
      | ref k => simp [sd_v, h k (Or.inl (hw i c fs hi _ hv))]
      | _ => rfl
/-- a value of the pure machine, and the one on the real stack or among the locals -/
def sd_r (ad : Nat → Nat) (N : Nat) (v w : Value) : Prop := match v with
  | .int x => w = .int x
  | .long x => w = .long x
  | .null => w = .null
  | .ref k => w = .ref (ad k) ∧ (k < N ∨ 1000 ≤ k)
  | .float x => if x = 0 then ∃ a, w = .ref a else (w = .null ∨ ∃ a, w = .ref a)
  | _ => False
theorem sd_r.up {ad ad' : Nat → Nat} {N N' : Nat} {v w : Value} (hN : N ≤ N') (hl : sd_le N ad ad') (h : sd_r ad N v w) : sd_r ad' N' v w := by
  cases v with
  | ref k =>
    obtain ⟨h1, h2⟩ := h
    exact ⟨by rw [hl k h2]; exact h1, h2.imp (fun h => Nat.lt_of_lt_of_le h hN) id⟩
  | _ => exact h
theorem sd_r.w1 {ad : Nat → Nat} {N : Nat} {v w : Value} (h : sd_r ad N v w) (hv : pm_w1 v = true) : w.category = 1 := by
  cases v with
  | int x => rw [show w = .int x from h]; rfl
  | null => rw [show w = .null from h]; rfl
  | ref k => rw [h.1]; rfl
  | float x =>
    simp only [sd_r] at h
    split at h
    · obtain ⟨a, rfl⟩ := h; rfl
    · rcases h with rfl | ⟨a, rfl⟩ <;> rfl
  | long x => cases hv
  | double x => cases hv
  | retAddr x => cases hv
def sd_st (ad : Nat → Nat) (N : Nat) : List Value → List Value → Prop
  | [], [] => True
  | v :: l, w :: k => sd_r ad N v w ∧ sd_st ad N l k
  | _, _ => False
theorem sd_st.up {ad ad' : Nat → Nat} {N N' : Nat} (hN : N ≤ N') (hl : sd_le N ad ad') : ∀ {l k : List Value}, sd_st ad N l k → sd_st ad' N' l k
  | [], [], _ => trivial
  | _ :: _, _ :: _, h => ⟨h.1.up hN hl, sd_st.up hN hl h.2⟩
  | [], _ :: _, h => h.elim
  | _ :: _, [], h => h.elim
theorem sd_st.c {ad : Nat → Nat} {N : Nat} {v : Value} {l St : List Value} (h : sd_st ad N (v :: l) St) : ∃ w k, St = w :: k ∧ sd_r ad N v w ∧ sd_st ad N l k := by
  cases St with
  | nil => exact h.elim
  | cons w k => exact ⟨w, k, rfl, h.1, h.2⟩
theorem sd_st.n {ad : Nat → Nat} {N : Nat} {St : List Value} (h : sd_st ad N [] St) : St = [] := by
  cases St with
  | nil => rfl
  | cons w k => exact h.elim
theorem sd_st.len {ad : Nat → Nat} {N : Nat} : ∀ {l k : List Value}, sd_st ad N l k → l.length = k.length
  | [], [], _ => rfl
  | _ :: _, _ :: _, h => congrArg (· + 1) h.2.len
  | [], _ :: _, h => h.elim
  | _ :: _, [], h => h.elim
theorem sd_st.app {ad : Nat → Nat} {N : Nat} : ∀ {l k l' k' : List Value}, sd_st ad N l k → sd_st ad N l' k' → sd_st ad N (l ++ l') (k ++ k')
  | [], [], _, _, _, h => h
  | _ :: _, _ :: _, _, _, h, h' => ⟨h.1, h.2.app h'⟩
  | [], _ :: _, _, _, h, _ => h.elim
  | _ :: _, [], _, _, h, _ => h.elim
theorem sd_st.rev {ad : Nat → Nat} {N : Nat} : ∀ {l k : List Value}, sd_st ad N l k → sd_st ad N l.reverse k.reverse
  | [], [], _ => trivial
  | _ :: _, _ :: _, h => by
    rw [List.reverse_cons, List.reverse_cons]
    exact h.2.rev.app ⟨h.1, trivial⟩
  | [], _ :: _, h => h.elim
  | _ :: _, [], h => h.elim
theorem sd_st.take {ad : Nat → Nat} {N : Nat} : ∀ (n : Nat) {l k : List Value}, sd_st ad N l k → sd_st ad N (l.take n) (k.take n)
  | 0, _, _, _ => by simp [sd_st]
  | _ + 1, [], [], _ => trivial
  | n + 1, _ :: _, _ :: _, h => ⟨h.1, sd_st.take n h.2⟩
  | _ + 1, [], _ :: _, h => h.elim
  | _ + 1, _ :: _, [], h => h.elim
theorem sd_st.drop {ad : Nat → Nat} {N : Nat} : ∀ (n : Nat) {l k : List Value}, sd_st ad N l k → sd_st ad N (l.drop n) (k.drop n)
  | 0, _, _, h => h
  | _ + 1, [], [], _ => trivial
  | n + 1, _ :: _, _ :: _, h => sd_st.drop n h.2
  | _ + 1, [], _ :: _, h => h.elim
  | _ + 1, _ :: _, [], h => h.elim
theorem sd_st.w8 {ad : Nat → Nat} {N : Nat} : ∀ {l k : List Value} {n : Nat}, sd_st ad N l k → pm_w8 l n = true → (k.map fun v => v.category).sum ≤ n
  | [], [], _, _, _ => Nat.zero_le _
  | _ :: _, _ :: _, 0, _, h => by cases h
  | v :: l, w :: k, n + 1, h, h' => by
    rw [pm_w8, Bool.and_eq_true] at h'
    have := sd_st.w8 h.2 h'.2
    rw [List.map_cons, List.sum_cons, h.1.w1 h'.1]
    omega
  | [], _ :: _, _, h, _ => h.elim
  | _ :: _, [], _, h, _ => h.elim
/-- the locals -/
def sd_l (ad : Nat → Nat) (N nL : Nat) (ls : List Value) (Ls : Array Slot) : Prop :=
  ls.length = nL ∧ ∃ lv : List (Nat × Value), lv_has Ls nL lv ∧ (∀ q ∈ lv, q.2.category = 1) ∧ ∀ (k : Nat) (v : Value), ls[k]? = some v → (∃ x, v = .double x) ∨ ∃ w, sd_r ad N v w ∧ (k, w) ∈ lv
theorem sd_l.up {ad ad' : Nat → Nat} {N N' nL : Nat} {ls : List Value} {Ls : Array Slot} (hN : N ≤ N') (hl : sd_le N ad ad') (h : sd_l ad N nL ls Ls) : sd_l ad' N' nL ls Ls := by
  obtain ⟨h1, lv, h2, h3, h4⟩ := h
  refine ⟨h1, lv, h2, h3, fun k v hk => ?_⟩
  rcases h4 k v hk with h | ⟨w, hw, hm⟩
  · exact Or.inl h
  · exact Or.inr ⟨w, hw.up hN hl, hm⟩
theorem sd_l.get {ad : Nat → Nat} {N nL k : Nat} {ls : List Value} {Ls : Array Slot} {v : Value} (h : sd_l ad N nL ls Ls) (hk : ls[k]? = some v) (hv : ∀ x, v ≠ .double x) : ∃ w, sd_r ad N v w ∧ Ls[k]? = some (.val w) := by
  obtain ⟨h1, lv, h2, h3, h4⟩ := h
  rcases h4 k v hk with ⟨x, h⟩ | ⟨w, hw, hm⟩
  · exact absurd h (hv x)
  · exact ⟨w, hw, h2.2.2 _ hm⟩
theorem sd_l.size {ad : Nat → Nat} {N nL : Nat} {ls : List Value} {Ls : Array Slot} (h : sd_l ad N nL ls Ls) : Ls.size = nL := by
  obtain ⟨h1, lv, h2, h3, h4⟩ := h
  exact h2.1
theorem sd_l.put {ad : Nat → Nat} {N nL i : Nat} {ls : List Value} {lv : List (Nat × Value)} {Ls' : Array Slot} {v w : Value} (h1 : ls.length = nL) (h3 : ∀ q ∈ lv, q.2.category = 1) (h4 : ∀ (k : Nat) (v : Value), ls[k]? = some v → (∃ x, v = .double x) ∨ ∃ w, sd_r ad N v w ∧ (k, w) ∈ lv)
    (hw : sd_r ad N v w) (hc : w.category = 1) (h' : lv_has Ls' nL ((i, w) :: lv.filter (fun q => !(q.1 == i) && !(q.1 + 1 == i && q.2.category == 2)))) : sd_l ad N nL (ls.set i v) Ls' := by
  refine ⟨by simpa using h1, _, h', ?_, ?_⟩
  · intro q hq
    rcases List.mem_cons.mp hq with rfl | hq
    · exact hc
    · exact h3 q ((List.mem_filter.mp hq).1)
  · intro k u hk
    rw [List.getElem?_set] at hk
    by_cases hki : i = k
    · subst hki
      rw [if_pos rfl] at hk
      split at hk
      · cases hk
        exact Or.inr ⟨w, hw, List.mem_cons_self⟩
      · cases hk
    · rw [if_neg hki] at hk
      rcases h4 k u hk with h | ⟨w', hw', hm⟩
      · exact Or.inl h
      · refine Or.inr ⟨w', hw', List.mem_cons_of_mem _ (List.mem_filter.mpr ⟨hm, ?_⟩)⟩
        have := h3 _ hm
        simp only at this ⊢
        simp [this, Ne.symm hki]
/-- the world of a frame: what the walk keeps at each pc -/
def sd_A (base : Nat) : Nat → Prop := fun q => base ≤ q
def sd_W (D : va_G) (cI cL : ClassId) (base : Nat) (adX : Nat → Nat) (ad : Nat → Nat) (h : pm_H) (H : Heap) : Prop :=
  va_P D vwCl (sd_ws ad cI cL h.1) H ∧ va_D (sd_A base) (sd_ws ad cI cL h.1) ∧ sd_wf h.1 ∧ h.1.length ≤ 1000 ∧ ∀ k, 1000 ≤ k → ad k = adX k
def sd_R (D : va_G) (cI cL : ClassId) (base : Nat) (adX : Nat → Nat) (s : State) (R : Room) (k0 s0 nL : Nat) (ad : Nat → Nat) (ls st : List Value) (h : pm_H) (Ls : Array Slot) (St : List Value) (H : Heap) (locs : List Loc) (cells slots : Nat) : Prop :=
  sd_W D cI cL base adX ad h H ∧ va_S (sd_A base) s.heap H locs ∧ sd_l ad h.1.length nL ls Ls ∧ sd_st ad h.1.length st St ∧ (k0 + cells = h.2.1 ∧ s0 + slots = h.2.2 ∧ k0 + R.cells = pm_mc ∧ s0 + R.slots = pm_ms)
/-- the pure machine's run: n steps at most, d calls deep at most, from an instruction of method mi -/
noncomputable def pm_rn (X : pm_X) : Nat → Nat → Nat → Nat → List Value → List Value → pm_H → Option (pm_O × pm_H)
  | 0, _, _, _, _, _, _ => none
  | n + 1, d, mi, pc, ls, st, h => match pm_code mi pc with
    | none => none
    | some i => match pm_stp X i ls st h with
      | none => none
      | some (.inl (pc', ls', st', h')) => pm_rn X n d mi pc' ls' st' h'
      | some (.inr (.inl (v, h'))) => some (.inl v, h')
      | some (.inr (.inr (.inl e))) => some (.inr e, (h.1, (h.2.1 + 1, h.2.2 + 6)))
      | some (.inr (.inr (.inr (mj, args, rest)))) => if args.all pm_w1 = false then none else match d with
        | 0 => none
        | d' + 1 => match pm_rn X n d' mj 0 (pm_pad mj args) [] h with
          | none => none
          | some (.inl v, h') => pm_rn X n (d' + 1) mi i.2.1 ls (v.toList ++ rest) h'
          | some (.inr e, h') => if pm_hs mi = [] then some (.inr e, h') else match pm_hnd (pm_hs mi) pc e with
            | none => none
            | some pc' => pm_rn X n (d' + 1) mi pc' ls [.float 0] h'
