/-! ===== one rule an instruction, for any place ===== -/
def wz01 (x : Int32) (P : Prop) : Prop := (x = 0 ∨ x = 1) ∧ P
def wif (b : Bool) (P : Prop) : Prop := b = true ∧ P
theorem wif_t (P : Prop) : wif true P ↔ P := ⟨fun h => h.2, fun h => ⟨rfl, h⟩⟩
theorem wz01_0 (P : Prop) : wz01 (wn 0) P ↔ P := ⟨fun h => h.2, fun h => ⟨Or.inl rfl, h⟩⟩
theorem wz01_1 (P : Prop) : wz01 (wn 1) P ↔ P := ⟨fun h => h.2, fun h => ⟨Or.inr rfl, h⟩⟩
theorem wz01_b (p : Prop) [Decidable p] (P : Prop) : wz01 (pm_b p) P ↔ P := ⟨fun h => h.2, fun h => ⟨pm_b01 p, h⟩⟩
def wrem (x y : Int32) : Int32 := x - x / y * y
def wushr (x y : Int32) : Int32 := (x.toUInt32 >>> (y.toUInt32 &&& Int32.toUInt32 31)).toInt32
def wok (c : Nat × Nat) : Prop := c.1 + 1 ≤ 601024 ∧ c.2 + 6 ≤ 7293034
def wthr (k : Nat) (h : pm_H) (Φ : pm_O → pm_H → Prop) : Prop := wok h.2 ∧ Φ (.inr k) (h.1, (h.2.1 + 1, h.2.2 + 6))
def wup (c : Nat × Nat) : Nat × Nat := (c.1 + 1, c.2 + 6)
theorem wthr_hp {k : Nat} {D : wD} {o : Nat → Int64} {c : Nat × Nat} {Φ : pm_O → pm_H → Prop} (h : wok c) : wthr k (hp D o c) Φ ↔ Φ (.inr k) (hp D o (wup c)) := ⟨fun h9 => h9.2, fun h9 => ⟨h, h9⟩⟩
theorem pm_op_s {α : Type} (w : α) (P : α → Prop) : pm_op (some w) P ↔ P w := Iff.rfl
theorem pm_b_wn0 (p : Prop) [Decidable p] : (pm_b p = wn 0) = ¬ p := propext (pm_b0 p)
theorem pm_b_wn1 (p : Prop) [Decidable p] : (pm_b p = wn 1) = p := propext (pm_b1 p)
section WX
variable {X : pm_X} {d mi pc nx a b : Nat} {v : Int} {ts : List Nat} {ls st : List Value} {h : pm_H} {Φ : pm_O → pm_H → Prop} {x y : Int32} {q : Nat} {w u : Value} {n : Nat}
theorem wx1 (n : Nat) (hc : pm_code mi pc = some (1, nx, a, b, (n : Int), ts)) : WP X d mi pc ls st h Φ ↔ WP X d mi nx ls (.int (wn n) :: st) h Φ := WP_nx hc (by
  show pm_nx nx ls (.int (Int32.ofInt (n : Int)) :: st) h = _
  rw [Int32.ofInt_eq_ofNat]
  rfl)
theorem wx1i (z : Int) (hc : pm_code mi pc = some (1, nx, a, b, z, ts)) : WP X d mi pc ls st h Φ ↔ WP X d mi nx ls (.int (wi z) :: st) h Φ := WP_nx hc rfl
theorem wx2 (hc : pm_code mi pc = some (2, nx, a, b, v, ts)) (hl : ls[a]? = some (.int x)) : WP X d mi pc ls st h Φ ↔ WP X d mi nx ls (.int x :: st) h Φ := WP_nx hc (by
  show pm_s2 nx a ls st h = _
  unfold pm_s2
  rw [hl]
  rfl)
theorem wx3 (hc : pm_code mi pc = some (3, nx, a, b, v, ts)) (hl : ls[a]? = some (.ref q)) : WP X d mi pc ls st h Φ ↔ WP X d mi nx ls (.ref q :: st) h Φ := WP_nx hc (by
  show pm_s3 nx a ls st h = _
  unfold pm_s3
  rw [hl]
  rfl)
theorem wx4 (hc : pm_code mi pc = some (4, nx, a, b, v, ts)) (hl : a < ls.length) : WP X d mi pc ls (.int x :: st) h Φ ↔ WP X d mi nx (ls.set a (.int x)) st h Φ := WP_nx hc (by
  show (if a < ls.length then _ else none) = _
  rw [if_pos hl]
  rfl)
theorem wx5 (hc : pm_code mi pc = some (5, nx, a, b, v, ts)) (hl : a < ls.length) : WP X d mi pc ls (.ref q :: st) h Φ ↔ WP X d mi nx (ls.set a (.ref q)) st h Φ := WP_nx hc (by
  show (if a < ls.length then _ else none) = _
  rw [if_pos hl]
  rfl)
theorem wx5f (hc : pm_code mi pc = some (5, nx, a, b, v, ts)) (hl : a < ls.length) : WP X d mi pc ls (.float 0 :: st) h Φ ↔ WP X d mi nx (ls.set a (.float 0)) st h Φ := WP_nx hc (by
  show (if (0 : UInt32) = 0 ∧ a < ls.length then _ else none) = _
  rw [if_pos ⟨rfl, hl⟩]
  rfl)
theorem wx6 (n : Nat) (hc : pm_code mi pc = some (6, nx, a, b, (n : Int), ts)) (hl : ls[a]? = some (.int x)) : WP X d mi pc ls st h Φ ↔ WP X d mi nx (ls.set a (.int (x + wn n))) st h Φ := WP_nx hc (by
  show pm_s6 nx a (n : Int) ls st h = _
  unfold pm_s6
  rw [hl, Int32.ofInt_eq_ofNat]
  rfl)
theorem wx6i (z : Int) (hc : pm_code mi pc = some (6, nx, a, b, z, ts)) (hl : ls[a]? = some (.int x)) : WP X d mi pc ls st h Φ ↔ WP X d mi nx (ls.set a (.int (x + wi z))) st h Φ := WP_nx hc (by
  show pm_s6 nx a z ls st h = _
  unfold pm_s6
  rw [hl]
  rfl)
theorem wx7 (hc : pm_code mi pc = some (7, nx, a, b, v, ts)) : WP X d mi pc ls (.ref q :: st) h Φ ↔ pm_op (pm_fld h q a b) fun w => WP X d mi nx ls (w :: st) h Φ := wr7 hc
theorem wx8 (hc : pm_code mi pc = some (8, nx, a, b, 0, ts)) : WP X d mi pc ls (.int x :: .ref q :: st) h Φ ↔ pm_op (pm_put h q a b (.int x)) fun h2 => WP X d mi nx ls st h2 Φ := wr8i hc
theorem wx8z (hc : pm_code mi pc = some (8, nx, a, b, 1, ts)) : WP X d mi pc ls (.int x :: .ref q :: st) h Φ ↔ wz01 x (pm_op (pm_put h q a b (.int x)) fun h2 => WP X d mi nx ls st h2 Φ) := by
  by_cases hx : x = 0 ∨ x = 1
  · rw [wr8z hc hx]
    exact ⟨fun h9 => ⟨hx, h9⟩, fun h9 => h9.2⟩
  · rw [WP_no (ls := ls) (st := .int x :: .ref q :: st) (h := h) hc (show (if (1 : Int) = 0 ∨ ((1 : Int) = 1 ∧ (x = 0 ∨ x = 1)) then _ else none) = none from if_neg fun h9 => h9.elim (by decide) (fun h8 => hx h8.2))]
    exact ⟨False.elim, fun h9 => hx h9.1⟩
theorem wx9 (hc : pm_code mi pc = some (9, nx, a, b, v, ts)) : WP X d mi pc ls (.int x :: .ref q :: st) h Φ ↔ pm_op (pm_ald X h q x) fun w => WP X d mi nx ls (.int w :: st) h Φ := wr9 hc
theorem wx10 (hc : pm_code mi pc = some (10, nx, a, b, v, ts)) : WP X d mi pc ls (.int y :: .int x :: .ref q :: st) h Φ ↔ pm_op (pm_ast h q x y) fun h2 => WP X d mi nx ls st h2 Φ := wr10 hc
theorem wx11 (hc : pm_code mi pc = some (11, nx, a, b, v, ts)) : WP X d mi pc ls (.int x :: .ref q :: st) h Φ ↔ pm_op (pm_lald h q x) fun w => WP X d mi nx ls (.long w :: st) h Φ := WP_op _ (fun w => (nx, ls, .long w :: st, h)) hc rfl
theorem wx12 {l : Int64} (hc : pm_code mi pc = some (12, nx, a, b, v, ts)) : WP X d mi pc ls (.long l :: .int x :: .ref q :: st) h Φ ↔ pm_op (pm_last h q x l) fun h2 => WP X d mi nx ls st h2 Φ := WP_op _ (fun h2 => (nx, ls, st, h2)) hc rfl
theorem wx13 (hc : pm_code mi pc = some (13, nx, a, b, v, ts)) : WP X d mi pc ls (.int x :: .ref q :: st) h Φ ↔ pm_op (pm_bald q x) fun w => WP X d mi nx ls (.int w :: st) h Φ := WP_op _ (fun w => (nx, ls, .int w :: st, h)) hc rfl
theorem wx14 (hc : pm_code mi pc = some (14, nx, a, b, v, ts)) : WP X d mi pc ls (.ref q :: st) h Φ ↔ pm_op (pm_len X h q) fun w => WP X d mi nx ls (.int w :: st) h Φ := WP_op _ (fun w => (nx, ls, .int w :: st, h)) hc rfl
theorem wx15 (hc : pm_code mi pc = some (15, nx, a, b, v, ts)) : WP X d mi pc ls (.int y :: .int x :: st) h Φ ↔ WP X d mi nx ls (.int (x + y) :: st) h Φ := WP_nx hc rfl
theorem wx16 (hc : pm_code mi pc = some (16, nx, a, b, v, ts)) : WP X d mi pc ls (.int y :: .int x :: st) h Φ ↔ WP X d mi nx ls (.int (x - y) :: st) h Φ := WP_nx hc rfl
theorem wx17 (hc : pm_code mi pc = some (17, nx, a, b, v, ts)) : WP X d mi pc ls (.int y :: .int x :: st) h Φ ↔ WP X d mi nx ls (.int (x * y) :: st) h Φ := WP_nx hc rfl
theorem wx18 (hc : pm_code mi pc = some (18, nx, a, b, v, ts)) : WP X d mi pc ls (.int y :: .int x :: st) h Φ ↔ if y = wn 0 then False else WP X d mi nx ls (.int (x / y) :: st) h Φ := by
  by_cases hy : y = wn 0
  · rw [if_pos hy]
    exact WP_no hc (by show Option.bind (if y = 0 then none else some (x / y)) _ = none; rw [if_pos (show y = 0 from hy)]; rfl)
  · rw [if_neg hy]
    exact WP_nx hc (by show Option.bind (if y = 0 then none else some (x / y)) _ = _; rw [if_neg (show ¬ y = 0 from hy)]; rfl)
theorem wx19 (hc : pm_code mi pc = some (19, nx, a, b, v, ts)) : WP X d mi pc ls (.int y :: .int x :: st) h Φ ↔ if y = wn 0 then False else WP X d mi nx ls (.int (wrem x y) :: st) h Φ := by
  by_cases hy : y = wn 0
  · rw [if_pos hy]
    exact WP_no hc (by show Option.bind (if y = 0 then none else some (x - x / y * y)) _ = none; rw [if_pos (show y = 0 from hy)]; rfl)
  · rw [if_neg hy]
    exact WP_nx hc (by show Option.bind (if y = 0 then none else some (x - x / y * y)) _ = _; rw [if_neg (show ¬ y = 0 from hy)]; rfl)
theorem wx20 (hc : pm_code mi pc = some (20, nx, a, b, v, ts)) : WP X d mi pc ls (.int x :: st) h Φ ↔ WP X d mi nx ls (.int (-x) :: st) h Φ := WP_nx hc rfl
theorem wx21 (hc : pm_code mi pc = some (21, nx, a, b, v, ts)) : WP X d mi pc ls (.int y :: .int x :: st) h Φ ↔ WP X d mi nx ls (.int (x <<< (y &&& 31)) :: st) h Φ := WP_nx hc rfl
theorem wx22 (hc : pm_code mi pc = some (22, nx, a, b, v, ts)) : WP X d mi pc ls (.int y :: .int x :: st) h Φ ↔ WP X d mi nx ls (.int (x >>> (y &&& 31)) :: st) h Φ := WP_nx hc rfl
theorem wx23 (hc : pm_code mi pc = some (23, nx, a, b, v, ts)) : WP X d mi pc ls (.int y :: .int x :: st) h Φ ↔ WP X d mi nx ls (.int (wushr x y) :: st) h Φ := WP_nx hc rfl
theorem wx24 (hc : pm_code mi pc = some (24, nx, a, b, v, ts)) : WP X d mi pc ls (.int y :: .int x :: st) h Φ ↔ WP X d mi nx ls (.int (x &&& y) :: st) h Φ := WP_nx hc rfl
theorem wx25 (hc : pm_code mi pc = some (25, nx, a, b, v, ts)) : WP X d mi pc ls (.int y :: .int x :: st) h Φ ↔ WP X d mi nx ls (.int (x ||| y) :: st) h Φ := WP_nx hc rfl
theorem wx26 (hc : pm_code mi pc = some (26, nx, a, b, v, ts)) : WP X d mi pc ls (.int y :: .int x :: st) h Φ ↔ WP X d mi nx ls (.int (x ^^^ y) :: st) h Φ := WP_nx hc rfl
theorem wx27 (hc : pm_code mi pc = some (27, nx, a, b, v, ts)) : WP X d mi pc ls (.int x :: st) h Φ ↔ WP X d mi nx ls (.long x.toInt64 :: st) h Φ := WP_nx hc rfl
theorem wx28 (hc : pm_code mi pc = some (28, nx, a, b, v, ts)) : WP X d mi pc ls (.int x :: st) h Φ ↔ WP X d mi nx ls (.int (x.toUInt32 % 65536).toInt32 :: st) h Φ := WP_nx hc rfl
theorem wx29 {l m : Int64} (hc : pm_code mi pc = some (29, nx, a, b, v, ts)) : WP X d mi pc ls (.long m :: .long l :: st) h Φ ↔ WP X d mi nx ls (.int (lg_cmp l m) :: st) h Φ := WP_nx hc rfl
theorem wx30 (z : Int) (hc : pm_code mi pc = some (30, nx, a, b, z, ts)) : WP X d mi pc ls st h Φ ↔ WP X d mi nx ls (.long (Int64.ofInt z) :: st) h Φ := WP_nx hc rfl
theorem wx31_0 (hc : pm_code mi pc = some (31, nx, 0, b, v, ts)) : WP X d mi pc ls (.int x :: st) h Φ ↔ if x = wn 0 then WP X d mi b ls st h Φ else WP X d mi nx ls st h Φ := wq31_0 hc
theorem wx31_1 (hc : pm_code mi pc = some (31, nx, 1, b, v, ts)) : WP X d mi pc ls (.int x :: st) h Φ ↔ if x = wn 0 then WP X d mi nx ls st h Φ else WP X d mi b ls st h Φ := wq31_1 hc
theorem wx31_2 (hc : pm_code mi pc = some (31, nx, 2, b, v, ts)) : WP X d mi pc ls (.int x :: st) h Φ ↔ if x < wn 0 then WP X d mi b ls st h Φ else WP X d mi nx ls st h Φ := wq31_2 hc
theorem wx31_3 (hc : pm_code mi pc = some (31, nx, 3, b, v, ts)) : WP X d mi pc ls (.int x :: st) h Φ ↔ if wn 0 ≤ x then WP X d mi b ls st h Φ else WP X d mi nx ls st h Φ := wq31_3 hc
theorem wx31_4 (hc : pm_code mi pc = some (31, nx, 4, b, v, ts)) : WP X d mi pc ls (.int x :: st) h Φ ↔ if wn 0 < x then WP X d mi b ls st h Φ else WP X d mi nx ls st h Φ := wq31_4 hc
theorem wx31_5 (hc : pm_code mi pc = some (31, nx, 5, b, v, ts)) : WP X d mi pc ls (.int x :: st) h Φ ↔ if x ≤ wn 0 then WP X d mi b ls st h Φ else WP X d mi nx ls st h Φ := wq31_5 hc
theorem wx32_0 (hc : pm_code mi pc = some (32, nx, 0, b, v, ts)) : WP X d mi pc ls (.int y :: .int x :: st) h Φ ↔ if x = y then WP X d mi b ls st h Φ else WP X d mi nx ls st h Φ := wq32_0 hc
theorem wx32_1 (hc : pm_code mi pc = some (32, nx, 1, b, v, ts)) : WP X d mi pc ls (.int y :: .int x :: st) h Φ ↔ if x = y then WP X d mi nx ls st h Φ else WP X d mi b ls st h Φ := wq32_1 hc
theorem wx32_2 (hc : pm_code mi pc = some (32, nx, 2, b, v, ts)) : WP X d mi pc ls (.int y :: .int x :: st) h Φ ↔ if x < y then WP X d mi b ls st h Φ else WP X d mi nx ls st h Φ := wq32_2 hc
theorem wx32_3 (hc : pm_code mi pc = some (32, nx, 3, b, v, ts)) : WP X d mi pc ls (.int y :: .int x :: st) h Φ ↔ if y ≤ x then WP X d mi b ls st h Φ else WP X d mi nx ls st h Φ := wq32_3 hc
theorem wx32_4 (hc : pm_code mi pc = some (32, nx, 4, b, v, ts)) : WP X d mi pc ls (.int y :: .int x :: st) h Φ ↔ if y < x then WP X d mi b ls st h Φ else WP X d mi nx ls st h Φ := wq32_4 hc
theorem wx32_5 (hc : pm_code mi pc = some (32, nx, 5, b, v, ts)) : WP X d mi pc ls (.int y :: .int x :: st) h Φ ↔ if x ≤ y then WP X d mi b ls st h Φ else WP X d mi nx ls st h Φ := wq32_5 hc
theorem wx33 (hc : pm_code mi pc = some (33, nx, a, b, v, ts)) : WP X d mi pc ls st h Φ ↔ WP X d mi b ls st h Φ := WP_nx hc rfl
theorem wx34 (hc : pm_code mi pc = some (34, nx, a, b, v, ts)) : WP X d mi pc ls (.int x :: st) h Φ ↔ WP X d mi (pm_sw b v ts x) ls st h Φ := wq34 hc
theorem wx35 (hc : pm_code mi pc = some (35, nx, a, b, v, ts)) (hw : pm_w1 w = true) : WP X d mi pc ls (w :: st) h Φ ↔ WP X d mi nx ls (w :: w :: st) h Φ := WP_nx hc (by
  show (if pm_w1 w then _ else none) = _
  rw [if_pos hw]
  rfl)
theorem wx36 (hc : pm_code mi pc = some (36, nx, a, b, v, ts)) (hw : pm_w1 w = true) : WP X d mi pc ls (w :: st) h Φ ↔ WP X d mi nx ls st h Φ := WP_nx hc (by
  show (if pm_w1 w then _ else none) = _
  rw [if_pos hw]
  rfl)
theorem wx37 (hc : pm_code mi pc = some (37, nx, a, b, v, ts)) (hw : pm_w1 w = true) (hu : pm_w1 u = true) : WP X d mi pc ls (w :: u :: st) h Φ ↔ WP X d mi nx ls (w :: u :: w :: u :: st) h Φ := WP_nx hc (by
  show (if pm_w1 w && pm_w1 u then _ else none) = _
  rw [hw, hu]
  rfl)
theorem wx40 {av rest : List Value} (hc : pm_code mi pc = some (40, nx, a, b, v, ts)) (hs : st.drop (pm_na a - 1) = .ref q :: rest) (hr : pm_w8 rest 8 = true) (hav : .ref q :: (st.take (pm_na a - 1)).reverse = av) (ha : av.all pm_w1 = true) : WP X (d + 1) mi pc ls st h Φ ↔ wif (if b = 100 then decide (2000 ≤ q ∧ q < 2000 + pm_str.length) else pm_isC h q b) (WC X d a av h (WK X (d + 1) mi pc nx ls rest Φ)) := by
  have he : ∀ B : Bool, (if b = 100 then decide (2000 ≤ q ∧ q < 2000 + pm_str.length) else pm_isC h q b) = B → pm_stp X (40, nx, a, b, v, ts) ls st h = if B = true then some (.inr (.inr (.inr (a, av, rest)))) else none := by
    intro B hB
    show pm_s40 a b st h = _
    unfold pm_s40
    rw [hs]
    simp only
    rw [hB, hr, hav, Bool.and_true]
  cases hB : (if b = 100 then decide (2000 ≤ q ∧ q < 2000 + pm_str.length) else pm_isC h q b) with
  | true => rw [wif_t]; exact WP_ca hc (he _ hB) ha
  | false =>
    rw [WP_no hc (he _ hB)]
    exact ⟨False.elim, fun h9 => by cases h9.1⟩
theorem wx41 {av rest : List Value} (hc : pm_code mi pc = some (41, nx, a, b, v, ts)) (hn : pm_na a ≤ st.length) (hs : st.drop (pm_na a) = rest) (hr : pm_w8 rest 8 = true) (hav : (st.take (pm_na a)).reverse = av) (ha : av.all pm_w1 = true) : WP X (d + 1) mi pc ls st h Φ ↔ WC X d a av h (WK X (d + 1) mi pc nx ls rest Φ) := WP_ca hc (by
  show pm_s41 a st = _
  unfold pm_s41
  rw [hs, hr, hav, decide_eq_true hn]
  rfl) ha
theorem wx42 {av rest : List Value} (hc : pm_code mi pc = some (42, nx, a, b, v, ts)) (hs : st.drop (pm_na a - 1) = .ref q :: rest) (hr : pm_w8 rest 8 = true) (hav : .ref q :: (st.take (pm_na a - 1)).reverse = av) (ha : av.all pm_w1 = true) (hq : q < h.1.length) : WP X (d + 1) mi pc ls st h Φ ↔ WC X d a av h (WK X (d + 1) mi pc nx ls rest Φ) := WP_ca hc (by
  show pm_s42 a st h = _
  unfold pm_s42
  rw [hs]
  simp only
  rw [hr, hav, decide_eq_true hq]
  rfl) ha
theorem wx44 {m : Int32} {p : Nat} (hc : pm_code mi pc = some (44, nx, a, b, v, ts)) : WP X d mi pc ls [.int m, .int y, .ref p, .int x, .ref q] h Φ ↔ pm_op (pm_acp h q x p y m) fun h2 => WP X d mi nx ls [] h2 Φ := WP_op _ (fun h2 => (nx, ls, [], h2)) hc rfl
theorem wx45 (hc : pm_code mi pc = some (45, nx, a, b, v, ts)) : WP X d mi pc ls [] h Φ ↔ wthr a h Φ := by
  by_cases hk : wok h.2
  · rw [WP_th hc (show (if pm_w8 [] 8 && decide (h.2.1 + 1 ≤ pm_mc) && decide (h.2.2 + 6 ≤ pm_ms) then _ else none) = _ from if_pos (by rw [decide_eq_true (show h.2.1 + 1 ≤ pm_mc from hk.1), decide_eq_true (show h.2.2 + 6 ≤ pm_ms from hk.2)]; rfl))]
    exact ⟨fun h9 => ⟨hk, h9⟩, fun h9 => h9.2⟩
  · rw [WP_no hc (show (if pm_w8 [] 8 && decide (h.2.1 + 1 ≤ pm_mc) && decide (h.2.2 + 6 ≤ pm_ms) then _ else none) = none from if_neg (fun h9 => hk (by
      simp only [Bool.and_eq_true, decide_eq_true_eq] at h9
      exact ⟨h9.1.2, h9.2⟩)))]
    exact ⟨False.elim, fun h9 => hk h9.1⟩
theorem wx49 (hc : pm_code mi pc = some (49, nx, a, b, v, ts)) (hn : 2000 + a = n) : WP X d mi pc ls st h Φ ↔ WP X d mi nx ls (.ref n :: st) h Φ := by
  subst hn
  exact WP_nx hc rfl
theorem wx50 (hc : pm_code mi pc = some (50, nx, a, b, v, ts)) (hq : 2000 ≤ q ∧ q < 2000 + pm_str.length) : WP X d mi pc ls (.ref q :: st) h Φ ↔ WP X d mi nx ls (.ref (q + 1000) :: st) h Φ := WP_nx hc (if_pos hq)
theorem wx51 (hc : pm_code mi pc = some (51, nx, a, b, v, ts)) (hq : 2000 ≤ q ∧ q < 2000 + pm_str.length) : WP X d mi pc ls (.ref q :: st) h Φ ↔ WP X d mi nx ls (.int (wn 0) :: st) h Φ := WP_nx hc (if_pos hq)
theorem wx52 (hc : pm_code mi pc = some (52, nx, a, b, v, ts)) : WP X d mi pc ls st h Φ ↔ WP X d mi nx ls (.int (wn 1) :: st) h Φ := WP_nx hc rfl
theorem wx53 (hc : pm_code mi pc = some (53, nx, a, b, v, ts)) : WP X d mi pc ls st h Φ ↔ WP X d mi nx ls (.float 1 :: st) h Φ := WP_nx hc rfl
theorem wx60 (hc : pm_code mi pc = some (60, nx, 0, b, v, ts)) : WP X d mi pc ls [.int x] h Φ ↔ Φ (.inl (some (.int x))) h := wr60i hc
theorem wx60z (hc : pm_code mi pc = some (60, nx, 1, b, v, ts)) : WP X d mi pc ls [.int x] h Φ ↔ wz01 x (Φ (.inl (some (.int x))) h) := by
  by_cases hx : x = 0 ∨ x = 1
  · rw [wr60z hc hx]
    exact ⟨fun h9 => ⟨hx, h9⟩, fun h9 => h9.2⟩
  · rw [WP_no (ls := ls) (st := [.int x]) (h := h) hc (show (if (decide (x = 0) || decide (x = 1)) = true then _ else none) = none from if_neg (by simpa using hx))]
    exact ⟨False.elim, fun h9 => hx h9.1⟩
theorem wx60c (hc : pm_code mi pc = some (60, nx, 2, b, v, ts)) (hx : 0 ≤ x) (hx2 : x < 65536) : WP X d mi pc ls [.int x] h Φ ↔ Φ (.inl (some (.int x))) h := WP_re hc (by
  show (if (decide (0 ≤ x) && decide (x < 65536)) = true then _ else none) = _
  rw [if_pos (by simp [hx, hx2])])
theorem wx60b (hc : pm_code mi pc = some (60, nx, 3, b, v, ts)) : WP X d mi pc ls [.int (wn 0)] h Φ ↔ Φ (.inl (some (.int (wn 0)))) h := WP_re hc rfl
theorem wx61 (hc : pm_code mi pc = some (61, nx, a, b, v, ts)) : WP X d mi pc ls [] h Φ ↔ Φ (.inl none) h := WP_re hc rfl
/-- how a caller goes on, on an answer -/
theorem wk_s {d mi pc nx : Nat} {ls rest : List Value} {w : Value} : WK X d mi pc nx ls rest Φ (.inl (some w)) h ↔ WP X d mi nx ls (w :: rest) h Φ := Iff.rfl
theorem wk_n {d mi pc nx : Nat} {ls rest : List Value} : WK X d mi pc nx ls rest Φ (.inl none) h ↔ WP X d mi nx ls rest h Φ := Iff.rfl
theorem wk_x {d mi pc nx e : Nat} {ls rest : List Value} (hm : pm_hs mi = []) : WK X d mi pc nx ls rest Φ (.inr e) h ↔ Φ (.inr e) h := by
  show (if pm_hs mi = [] then _ else _) ↔ _
  rw [if_pos hm]
theorem wk_h {d mi pc nx e t : Nat} {ls rest : List Value} (hm : ¬ pm_hs mi = []) (ht : pm_hnd (pm_hs mi) pc e = some t) : WK X d mi pc nx ls rest Φ (.inr e) h ↔ WP X d mi t ls [.float 0] h Φ := by
  show (if pm_hs mi = [] then _ else _) ↔ _
  rw [if_neg hm, ht]
/-- both ways go on at one place -/
theorem wmg {p : Prop} [Decidable p] {ls st : List Value} : (if p then WP X d mi pc ls (.int x :: st) h Φ else WP X d mi pc ls (.int y :: st) h Φ) ↔ WP X d mi pc ls (.int (if p then x else y) :: st) h Φ := by
  by_cases hp : p
  · rw [if_pos hp, if_pos hp]
  · rw [if_neg hp, if_neg hp]
theorem wmb {p : Prop} [Decidable p] {ls st : List Value} : (if p then WP X d mi pc ls (.int (wn 1) :: st) h Φ else WP X d mi pc ls (.int (wn 0) :: st) h Φ) ↔ WP X d mi pc ls (.int (pm_b p) :: st) h Φ := by
  by_cases hp : p
  · rw [if_pos hp, show pm_b p = wn 1 from (pm_b1 p).mpr hp]
  · rw [if_neg hp, show pm_b p = wn 0 from (pm_b0 p).mpr hp]
theorem wrb {p : Prop} [Decidable p] : (if p then Φ (.inl (some (.int (wn 1)))) h else Φ (.inl (some (.int (wn 0)))) h) ↔ Φ (.inl (some (.int (pm_b p)))) h := by
  by_cases hp : p
  · rw [if_pos hp, show pm_b p = wn 1 from (pm_b1 p).mpr hp]
  · rw [if_neg hp, show pm_b p = wn 0 from (pm_b0 p).mpr hp]
theorem wrb2 {p : Prop} [Decidable p] : (if p then Φ (.inl (some (.int (wn 0)))) h else Φ (.inl (some (.int (wn 1)))) h) ↔ Φ (.inl (some (.int (pm_b (¬ p))))) h := by
  by_cases hp : p
  · rw [if_pos hp, show pm_b (¬ p) = wn 0 from (pm_b0 _).mpr (not_not_intro hp)]
  · rw [if_neg hp, show pm_b (¬ p) = wn 1 from (pm_b1 _).mpr hp]
end WX
/-- an instruction stands at a place -/
def pm_ieq (i j : pm_I) : Bool := Nat.beq i.1 j.1 && (Nat.beq i.2.1 j.2.1 && (Nat.beq i.2.2.1 j.2.2.1 && (Nat.beq i.2.2.2.1 j.2.2.2.1 && (decide (i.2.2.2.2.1 = j.2.2.2.2.1) && decide (i.2.2.2.2.2 = j.2.2.2.2.2)))))
noncomputable def pm_is (mi pc : Nat) (i : pm_I) : Bool := match pm_code mi pc with
  | some j => pm_ieq j i
  | none => false
theorem pm_is_ok {mi pc : Nat} {i : pm_I} (h : pm_is mi pc i = true) : pm_code mi pc = some i := by
  unfold pm_is at h
  cases hc : pm_code mi pc with
  | none => rw [hc] at h; cases h
  | some j =>
    rw [hc] at h
    obtain ⟨j1, j2, j3, j4, j5, j6⟩ := j
    obtain ⟨i1, i2, i3, i4, i5, i6⟩ := i
    simp only [pm_ieq, Bool.and_eq_true, decide_eq_true_eq, Nat.beq_eq] at h
    obtain ⟨rfl, rfl, rfl, rfl, rfl, rfl⟩ := h
    rfl
