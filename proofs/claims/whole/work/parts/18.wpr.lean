/-! ===== rules of WP, one an instruction ===== -/
def pm_op {α : Type} (o : Option α) (P : α → Prop) : Prop := match o with
  | some w => P w
  | none => False
theorem pm_op_some {α : Type} (w : α) (P : α → Prop) : pm_op (some w) P ↔ P w := Iff.rfl
section WPR
variable {X : pm_X} {d mi pc nx a b : Nat} {v : Int} {ts : List Nat} {ls st : List Value} {h : pm_H} {Φ : pm_O → pm_H → Prop} {x y : Int32} {q : Nat}
theorem WP_op {α : Type} {i : pm_I} (o : Option α) (f : α → Nat × (List Value × (List Value × pm_H))) (hc : pm_code mi pc = some i) (hs : pm_stp X i ls st h = o.bind fun w => some (.inl (f w))) : WP X d mi pc ls st h Φ ↔ pm_op o fun w => WP X d mi (f w).1 (f w).2.1 (f w).2.2.1 (f w).2.2.2 Φ := by
  cases o with
  | none => exact WP_no hc hs
  | some w => exact WP_nx hc hs
theorem WP_if (c : Bool) {i : pm_I} {p1 p2 : Nat} {l2 s2 : List Value} {h2 : pm_H} (hc : pm_code mi pc = some i) (hs : pm_stp X i ls st h = some (.inl (if c then p1 else p2, l2, s2, h2))) : WP X d mi pc ls st h Φ ↔ if c = true then WP X d mi p1 l2 s2 h2 Φ else WP X d mi p2 l2 s2 h2 Φ := by
  cases c with
  | true => exact WP_nx hc hs
  | false => exact WP_nx hc hs
theorem wr7 (hc : pm_code mi pc = some (7, nx, a, b, v, ts)) : WP X d mi pc ls (.ref q :: st) h Φ ↔ pm_op (pm_fld h q a b) fun w => WP X d mi nx ls (w :: st) h Φ := WP_op _ (fun w => (nx, ls, w :: st, h)) hc rfl
theorem wr9 (hc : pm_code mi pc = some (9, nx, a, b, v, ts)) : WP X d mi pc ls (.int x :: .ref q :: st) h Φ ↔ pm_op (pm_ald X h q x) fun w => WP X d mi nx ls (.int w :: st) h Φ := WP_op _ (fun w => (nx, ls, .int w :: st, h)) hc rfl
theorem wr10 (hc : pm_code mi pc = some (10, nx, a, b, v, ts)) : WP X d mi pc ls (.int y :: .int x :: .ref q :: st) h Φ ↔ pm_op (pm_ast h q x y) fun h2 => WP X d mi nx ls st h2 Φ := WP_op _ (fun h2 => (nx, ls, st, h2)) hc rfl
theorem wr8i (hc : pm_code mi pc = some (8, nx, a, b, 0, ts)) : WP X d mi pc ls (.int x :: .ref q :: st) h Φ ↔ pm_op (pm_put h q a b (.int x)) fun h2 => WP X d mi nx ls st h2 Φ := WP_op _ (fun h2 => (nx, ls, st, h2)) hc rfl
theorem wr8z (hc : pm_code mi pc = some (8, nx, a, b, 1, ts)) (hx : x = 0 ∨ x = 1) : WP X d mi pc ls (.int x :: .ref q :: st) h Φ ↔ pm_op (pm_put h q a b (.int x)) fun h2 => WP X d mi nx ls st h2 Φ := WP_op _ (fun h2 => (nx, ls, st, h2)) hc (by
  show (if (1 : Int) = 0 ∨ ((1 : Int) = 1 ∧ (x = 0 ∨ x = 1)) then _ else none) = _
  rw [if_pos (Or.inr ⟨rfl, hx⟩)]
  rfl)
theorem wr31 (hc : pm_code mi pc = some (31, nx, a, b, v, ts)) : WP X d mi pc ls (.int x :: st) h Φ ↔ if pm_cnd a x 0 = true then WP X d mi b ls st h Φ else WP X d mi nx ls st h Φ := WP_if _ hc rfl
theorem wr32 (hc : pm_code mi pc = some (32, nx, a, b, v, ts)) : WP X d mi pc ls (.int y :: .int x :: st) h Φ ↔ if pm_cnd a x y = true then WP X d mi b ls st h Φ else WP X d mi nx ls st h Φ := WP_if _ hc rfl
theorem wr15 (hc : pm_code mi pc = some (15, nx, a, b, v, ts)) : WP X d mi pc ls (.int y :: .int x :: st) h Φ ↔ WP X d mi nx ls (.int (x + y) :: st) h Φ := WP_nx hc rfl
theorem wr16 (hc : pm_code mi pc = some (16, nx, a, b, v, ts)) : WP X d mi pc ls (.int y :: .int x :: st) h Φ ↔ WP X d mi nx ls (.int (x - y) :: st) h Φ := WP_nx hc rfl
theorem wr17 (hc : pm_code mi pc = some (17, nx, a, b, v, ts)) : WP X d mi pc ls (.int y :: .int x :: st) h Φ ↔ WP X d mi nx ls (.int (x * y) :: st) h Φ := WP_nx hc rfl
theorem wr33 (hc : pm_code mi pc = some (33, nx, a, b, v, ts)) : WP X d mi pc ls st h Φ ↔ WP X d mi b ls st h Φ := WP_nx hc rfl
theorem wr60i (hc : pm_code mi pc = some (60, nx, 0, b, v, ts)) : WP X d mi pc ls [.int x] h Φ ↔ Φ (.inl (some (.int x))) h := WP_re hc rfl
theorem wr60z (hc : pm_code mi pc = some (60, nx, 1, b, v, ts)) (hx : x = 0 ∨ x = 1) : WP X d mi pc ls [.int x] h Φ ↔ Φ (.inl (some (.int x))) h := WP_re hc (by
  show (if (decide (x = 0) || decide (x = 1)) = true then _ else none) = _
  rw [if_pos (by simpa using hx)])
theorem wr61 (hc : pm_code mi pc = some (61, nx, a, b, v, ts)) : WP X d mi pc ls [] h Φ ↔ Φ (.inl none) h := WP_re hc rfl
end WPR
