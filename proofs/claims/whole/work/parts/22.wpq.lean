/-! ===== more rules of WP ===== -/
section WPQ
variable {X : pm_X} {d mi pc nx a b : Nat} {v : Int} {ts : List Nat} {ls st : List Value} {h : pm_H} {Φ : pm_O → pm_H → Prop} {x y : Int32} {q : Nat}
/-- a truth as a number -/
def pm_b (p : Prop) [Decidable p] : Int32 := if p then 1 else 0
theorem pm_b01 (p : Prop) [Decidable p] : pm_b p = 0 ∨ pm_b p = 1 := by
  unfold pm_b
  split
  · exact Or.inr rfl
  · exact Or.inl rfl
theorem pm_b0 (p : Prop) [Decidable p] : pm_b p = 0 ↔ ¬ p := by
  unfold pm_b
  split
  · rename_i h
    exact ⟨fun h9 => absurd h9 (by decide), fun h9 => absurd h h9⟩
  · rename_i h
    exact ⟨fun _ => h, fun _ => rfl⟩
theorem pm_b1 (p : Prop) [Decidable p] : pm_b p = 1 ↔ p := by
  unfold pm_b
  split
  · rename_i h
    exact ⟨fun _ => h, fun _ => rfl⟩
  · rename_i h
    exact ⟨fun h9 => absurd h9 (by decide), fun h9 => absurd h9 h⟩
theorem pm_bn0 (p : Prop) [Decidable p] : ¬ pm_b p = 0 ↔ p := by rw [pm_b0, Decidable.not_not]
theorem WP_ifp (c : Bool) (p : Prop) [Decidable p] (hcp : c = decide p) {i : pm_I} {p1 p2 : Nat} {l2 s2 : List Value} {h2 : pm_H} (hc : pm_code mi pc = some i) (hs : pm_stp X i ls st h = some (.inl (if c then p1 else p2, l2, s2, h2))) : WP X d mi pc ls st h Φ ↔ if p then WP X d mi p1 l2 s2 h2 Φ else WP X d mi p2 l2 s2 h2 Φ := by
  subst hcp
  rw [WP_if _ hc hs]
  by_cases hp : p
  · simp [hp]
  · simp [hp]
theorem wq31_0 (hc : pm_code mi pc = some (31, nx, 0, b, v, ts)) : WP X d mi pc ls (.int x :: st) h Φ ↔ if x = 0 then WP X d mi b ls st h Φ else WP X d mi nx ls st h Φ := WP_ifp (pm_cnd 0 x 0) _ rfl hc rfl
theorem wq31_1 (hc : pm_code mi pc = some (31, nx, 1, b, v, ts)) : WP X d mi pc ls (.int x :: st) h Φ ↔ if x = 0 then WP X d mi nx ls st h Φ else WP X d mi b ls st h Φ := by
  rw [WP_ifp (pm_cnd 1 x 0) (¬ x = 0) rfl hc rfl]
  by_cases hp : x = 0
  · simp [hp]
  · simp [hp]
theorem wq31_2 (hc : pm_code mi pc = some (31, nx, 2, b, v, ts)) : WP X d mi pc ls (.int x :: st) h Φ ↔ if x < 0 then WP X d mi b ls st h Φ else WP X d mi nx ls st h Φ := WP_ifp (pm_cnd 2 x 0) _ rfl hc rfl
theorem wq31_3 (hc : pm_code mi pc = some (31, nx, 3, b, v, ts)) : WP X d mi pc ls (.int x :: st) h Φ ↔ if 0 ≤ x then WP X d mi b ls st h Φ else WP X d mi nx ls st h Φ := WP_ifp (pm_cnd 3 x 0) _ rfl hc rfl
theorem wq31_4 (hc : pm_code mi pc = some (31, nx, 4, b, v, ts)) : WP X d mi pc ls (.int x :: st) h Φ ↔ if 0 < x then WP X d mi b ls st h Φ else WP X d mi nx ls st h Φ := WP_ifp (pm_cnd 4 x 0) _ rfl hc rfl
theorem wq31_5 (hc : pm_code mi pc = some (31, nx, 5, b, v, ts)) : WP X d mi pc ls (.int x :: st) h Φ ↔ if x ≤ 0 then WP X d mi b ls st h Φ else WP X d mi nx ls st h Φ := WP_ifp (pm_cnd 5 x 0) _ rfl hc rfl
theorem wq32_0 (hc : pm_code mi pc = some (32, nx, 0, b, v, ts)) : WP X d mi pc ls (.int y :: .int x :: st) h Φ ↔ if x = y then WP X d mi b ls st h Φ else WP X d mi nx ls st h Φ := WP_ifp (pm_cnd 0 x y) _ rfl hc rfl
theorem wq32_1 (hc : pm_code mi pc = some (32, nx, 1, b, v, ts)) : WP X d mi pc ls (.int y :: .int x :: st) h Φ ↔ if x = y then WP X d mi nx ls st h Φ else WP X d mi b ls st h Φ := by
  rw [WP_ifp (pm_cnd 1 x y) (¬ x = y) rfl hc rfl]
  by_cases hp : x = y
  · simp [hp]
  · simp [hp]
theorem wq32_2 (hc : pm_code mi pc = some (32, nx, 2, b, v, ts)) : WP X d mi pc ls (.int y :: .int x :: st) h Φ ↔ if x < y then WP X d mi b ls st h Φ else WP X d mi nx ls st h Φ := WP_ifp (pm_cnd 2 x y) _ rfl hc rfl
theorem wq32_3 (hc : pm_code mi pc = some (32, nx, 3, b, v, ts)) : WP X d mi pc ls (.int y :: .int x :: st) h Φ ↔ if y ≤ x then WP X d mi b ls st h Φ else WP X d mi nx ls st h Φ := WP_ifp (pm_cnd 3 x y) _ rfl hc rfl
theorem wq32_4 (hc : pm_code mi pc = some (32, nx, 4, b, v, ts)) : WP X d mi pc ls (.int y :: .int x :: st) h Φ ↔ if y < x then WP X d mi b ls st h Φ else WP X d mi nx ls st h Φ := WP_ifp (pm_cnd 4 x y) _ rfl hc rfl
theorem wq32_5 (hc : pm_code mi pc = some (32, nx, 5, b, v, ts)) : WP X d mi pc ls (.int y :: .int x :: st) h Φ ↔ if x ≤ y then WP X d mi b ls st h Φ else WP X d mi nx ls st h Φ := WP_ifp (pm_cnd 5 x y) _ rfl hc rfl
/-- where a switch goes -/
def pm_sw (b : Nat) (v : Int) (ts : List Nat) (x : Int32) : Nat := if x.toInt < v ∨ v + ts.length ≤ x.toInt then b else ts.getD (x.toInt - v).toNat 0
theorem wq34 (hc : pm_code mi pc = some (34, nx, a, b, v, ts)) : WP X d mi pc ls (.int x :: st) h Φ ↔ WP X d mi (pm_sw b v ts x) ls st h Φ := WP_nx hc rfl
end WPQ
