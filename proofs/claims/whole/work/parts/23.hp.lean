/-! ===== numbers of the machine: wn of a natural number, wi of a whole one ===== -/
def wn (k : Nat) : Int32 := Int32.ofNat k
def wi (z : Int) : Int32 := Int32.ofInt z
section WNUM
variable {a b : Nat} {x y : Int32} {z : Int}
theorem wn_add : wn a + wn b = wn (a + b) := (Int32.ofNat_add a b).symm
theorem wn_mul : wn a * wn b = wn (a * b) := (Int32.ofNat_mul a b).symm
theorem wn_sub (h : b ≤ a) : wn a - wn b = wn (a - b) := (Int32.ofNat_sub a b h).symm
theorem wn_toInt (h : a < 2147483648) : (wn a).toInt = a := Int32.toInt_ofNat_of_lt h
theorem wi_toInt (h : -2147483648 ≤ z) (h2 : z < 2147483648) : (wi z).toInt = z := Int32.toInt_ofInt_of_le h h2
theorem wn_nat (h : a < 2147483648) : (wn a).toNatClampNeg = a := Int32.toNatClampNeg_ofNat_of_lt h
theorem wn_eq (h : a < 2147483648) (h2 : b < 2147483648) : (wn a = wn b) = (a = b) := by
  rw [← Int32.toInt_inj, wn_toInt h, wn_toInt h2]
  exact propext Int.ofNat_inj
theorem wn_lt (h : a < 2147483648) (h2 : b < 2147483648) : (wn a < wn b) = (a < b) := by
  rw [Int32.lt_iff_toInt_lt, wn_toInt h, wn_toInt h2]
  exact propext Int.ofNat_lt
theorem wn_le (h : a < 2147483648) (h2 : b < 2147483648) : (wn a ≤ wn b) = (a ≤ b) := by
  rw [Int32.le_iff_toInt_le, wn_toInt h, wn_toInt h2]
  exact propext Int.ofNat_le
theorem wt_lt : (x < y) = (x.toInt < y.toInt) := propext Int32.lt_iff_toInt_lt
theorem wt_le : (x ≤ y) = (x.toInt ≤ y.toInt) := propext Int32.le_iff_toInt_le
theorem wt_eq : (x = y) = (x.toInt = y.toInt) := propext Int32.toInt_inj.symm
theorem w_bmod (h : -2147483648 ≤ z) (h2 : z < 2147483648) : z.bmod (2 ^ 32) = z := by
  apply Int.bmod_eq_of_le
  · show -(((2 ^ 32 : Nat) : Int) / 2) ≤ z
    have : (((2 ^ 32 : Nat) : Int) / 2) = 2147483648 := by decide
    omega
  · have : ((((2 ^ 32 : Nat) : Int) + 1) / 2) = 2147483648 := by decide
    omega
theorem wt_add (h : -2147483648 ≤ x.toInt + y.toInt) (h2 : x.toInt + y.toInt < 2147483648) : (x + y).toInt = x.toInt + y.toInt := by rw [Int32.toInt_add]; exact w_bmod h h2
theorem wt_sub (h : -2147483648 ≤ x.toInt - y.toInt) (h2 : x.toInt - y.toInt < 2147483648) : (x - y).toInt = x.toInt - y.toInt := by rw [Int32.toInt_sub]; exact w_bmod h h2
theorem wt_mul (h : -2147483648 ≤ x.toInt * y.toInt) (h2 : x.toInt * y.toInt < 2147483648) : (x * y).toInt = x.toInt * y.toInt := by rw [Int32.toInt_mul]; exact w_bmod h h2
theorem wt_neg (h : -2147483648 ≤ -x.toInt) (h2 : -x.toInt < 2147483648) : (-x).toInt = -x.toInt := by rw [Int32.toInt_neg]; exact w_bmod h h2
theorem wt_div (h : y.toInt ≠ -1) : (x / y).toInt = x.toInt.tdiv y.toInt := Int32.toInt_div_of_ne_right _ _ fun h9 => h (by rw [h9]; decide)
theorem wt_lo : -2147483648 ≤ x.toInt := Int32.le_toInt x
theorem wt_hi : x.toInt < 2147483648 := Int32.toInt_lt x
theorem w_of (h : 0 ≤ x.toInt) : wn x.toInt.toNat = x := by
  rw [← Int32.toInt_inj, wn_toInt (by have := wt_hi (x := x); omega)]
  omega
theorem wn_of (h : 0 ≤ x.toInt) : ∃ k : Nat, x = wn k ∧ (k : Int) = x.toInt ∧ k < 2147483648 := ⟨x.toInt.toNat, (w_of h).symm, by omega, by have := wt_hi (x := x); omega⟩
theorem wi_of : wi x.toInt = x := Int32.ofInt_toInt x
theorem wi_wn (k : Nat) : wi (k : Int) = wn k := Int32.ofInt_eq_ofNat
end WNUM
/-! ===== the heap of the run, as a table of numbers ===== -/
abbrev wD : Type := Nat → Nat → Int32
def wst (D : wD) (a k : Nat) (v : Int32) : wD := fun a' k' => if a' = a ∧ k' = k then v else D a' k'
def wcp (D : wD) (a b n : Nat) : wD := fun a' k' => if a' = b ∧ k' < n then D a k' else D a' k'
theorem wst_ap (D : wD) (a k : Nat) (v : Int32) (a' k' : Nat) : wst D a k v a' k' = if a' = a ∧ k' = k then v else D a' k' := rfl
theorem wcp_ap (D : wD) (a b n : Nat) (a' k' : Nat) : wcp D a b n a' k' = if a' = b ∧ k' < n then D a k' else D a' k' := rfl
abbrev wS : Type := Nat ⊕ (Nat × List (Option Nat))
def wsh : List wS := [.inr (11, [some 1, some 26, some 32, some 34, some 35, some 59, some 83, some 85, some 86, some 89, none, none]), .inr (2, [some 2]), .inr (7, [some 3, some 12, some 17, some 23, some 24, some 25, none, none, none, none, none, none, none, none, none, none, none]), .inr (0, [some 4, some 5, some 6, some 7, some 8, some 9, some 10, some 11, none, none]), .inl 16, .inl 16, .inl 16, .inl 16, .inl 16, .inl 16, .inl 16, .inl 16, .inr (3, [some 13, some 14, some 15, some 16, none, none]), .inl 12, .inl 12, .inl 400, .inl 40, .inr (9, [some 18, some 19, some 20, some 21, some 22, none]), .inl 40, .inl 40, .inl 40, .inl 40, .inl 40, .inl 3, .inl 3, .inl 12, .inr (4, [some 27]), .inr (3, [some 28, some 29, some 30, some 31, none, none]), .inl 12, .inl 12, .inl 400, .inl 40, .inr (8, [some 33, none, none, none]), .inl 400, .inr (6, [some 35, some 36, none, none, none, none, none, none]), .inr (7, [some 36, some 45, some 50, some 56, some 57, some 58, none, none, none, none, none, none, none, none, none, none, none]), .inr (0, [some 37, some 38, some 39, some 40, some 41, some 42, some 43, some 44, none, none]), .inl 16, .inl 16, .inl 16, .inl 16, .inl 16, .inl 16, .inl 16, .inl 16, .inr (3, [some 46, some 47, some 48, some 49, none, none]), .inl 12, .inl 12, .inl 400, .inl 40, .inr (9, [some 51, some 52, some 53, some 54, some 55, none]), .inl 40, .inl 40, .inl 40, .inl 40, .inl 40, .inl 3, .inl 3, .inl 12, .inr (7, [some 60, some 69, some 74, some 80, some 81, some 82, none, none, none, none, none, none, none, none, none, none, none]), .inr (0, [some 61, some 62, some 63, some 64, some 65, some 66, some 67, some 68, none, none]), .inl 16, .inl 16, .inl 16, .inl 16, .inl 16, .inl 16, .inl 16, .inl 16, .inr (3, [some 70, some 71, some 72, some 73, none, none]), .inl 12, .inl 12, .inl 400, .inl 40, .inr (9, [some 75, some 76, some 77, some 78, some 79, none]), .inl 40, .inl 40, .inl 40, .inl 40, .inl 40, .inl 3, .inl 3, .inl 12, .inr (1, [some 84, none, none, none]), .inl 200, .inr (5, [none, none, none, none]), .inr (10, [some 87, some 88, none]), .inl 78, .inl 13, .inl 8, .inr (12, [none, some 91, some 92, none, some 93, some 94, none, none, none, none, none, none, some 95, none, none, none, none, none, none, none, none, some 96]), .inl 762, .inl 762, .inl 362, .inl 400, .inl 6, .inl 78]
def wsl (D : wD) (a j : Nat) (s : Option Nat) : Value := match s with
  | some r => .ref r
  | none => .int (D a j)
def wce (D : wD) (a : Nat) (e : wS) : pm_E := match e with
  | .inl n => .inl (n, D a)
  | .inr (k, sl) => .inr (.inr (k, sl.mapIdx (wsl D a)))
def hpg (S : List wS) (D : wD) (o : Nat → Int64) (c : Nat × Nat) : pm_H := (S.mapIdx (wce D) ++ [.inr (.inl (1, o))], c)
def hp (D : wD) (o : Nat → Int64) (c : Nat × Nat) : pm_H := hpg wsh D o c
section HP
variable {X : pm_X} {D D' : wD} {o : Nat → Int64} {c : Nat × Nat} {a b k j n : Nat} {v : Int32} {i : Nat} {e : wS} {sl : List (Option Nat)} {r : Nat} {S : List wS}
theorem hpg_get (h : S[a]? = some e) : (hpg S D o c).1[a]? = some (wce D a e) := by
  have hl := (List.getElem?_eq_some_iff.mp h).1
  show (S.mapIdx (wce D) ++ ([.inr (.inl (1, o))] : List pm_E))[a]? = _
  rw [List.getElem?_append_left (by rw [List.length_mapIdx]; exact hl), List.getElem?_mapIdx, h]
  rfl
theorem hpg_get97 (hS : S.length = 97) : (hpg S D o c).1[97]? = some (.inr (.inl (1, o))) := by
  show (S.mapIdx (wce D) ++ ([.inr (.inl (1, o))] : List pm_E))[97]? = _
  rw [List.getElem?_append_right (by rw [List.length_mapIdx, hS]; decide), List.length_mapIdx, hS]
  rfl
theorem hpg_len (hS : S.length = 97) : (hpg S D o c).1.length = 98 := by
  show (S.mapIdx (wce D) ++ ([.inr (.inl (1, o))] : List pm_E)).length = 98
  rw [List.length_append, List.length_mapIdx, hS]
  rfl
theorem wce_congr (h : D' a = D a) : wce D a e = wce D' a e := by
  rcases e with n | ⟨k, sl⟩
  · simp only [wce, h]
  · have : wsl D' a = wsl D a := by funext j s; simp only [wsl, h]
    simp only [wce, this]
theorem hpg_set {w : pm_E} (h : S[a]? = some e) (h1 : ∀ a', a' ≠ a → D' a' = D a') (h2 : wce D' a e = w) : ((hpg S D o c).1.set a w, c) = hpg S D' o c := by
  have hl := (List.getElem?_eq_some_iff.mp h).1
  show ((S.mapIdx (wce D) ++ ([.inr (.inl (1, o))] : List pm_E)).set a w, c) = (S.mapIdx (wce D') ++ ([.inr (.inl (1, o))] : List pm_E), c)
  rw [List.set_append_left a w (by rw [List.length_mapIdx]; exact hl)]
  have : (S.mapIdx (wce D)).set a w = S.mapIdx (wce D') := by
    apply List.ext_getElem?
    intro i
    rw [List.getElem?_set, List.getElem?_mapIdx, List.getElem?_mapIdx, List.length_mapIdx]
    by_cases hi : a = i
    · subst hi
      rw [if_pos rfl, if_pos hl, h]
      exact congrArg some h2.symm
    · rw [if_neg hi]
      cases S[i]? with
      | none => rfl
      | some e' => exact congrArg some (wce_congr (h1 i (Ne.symm hi)))
  rw [this]
theorem whpg_fi (h : S[a]? = some (.inr (k, sl))) (hj : sl[j]? = some none) : pm_fld (hpg S D o c) a k j = some (.int (D a j)) := by
  unfold pm_fld
  rw [hpg_get h]
  show (if k = k then (sl.mapIdx (wsl D a))[j]? else none) = _
  rw [if_pos rfl, List.getElem?_mapIdx, hj]
  rfl
theorem whpg_fr (h : S[a]? = some (.inr (k, sl))) (hj : sl[j]? = some (some r)) : pm_fld (hpg S D o c) a k j = some (.ref r) := by
  unfold pm_fld
  rw [hpg_get h]
  show (if k = k then (sl.mapIdx (wsl D a))[j]? else none) = _
  rw [if_pos rfl, List.getElem?_mapIdx, hj]
  rfl
theorem whpg_put (h : S[a]? = some (.inr (k, sl))) (hj : sl[j]? = some none) : pm_put (hpg S D o c) a k j (.int v) = some (hpg S (wst D a j v) o c) := by
  have hjl := (List.getElem?_eq_some_iff.mp hj).1
  unfold pm_put
  rw [hpg_get h]
  show (if k = k ∧ j < (sl.mapIdx (wsl D a)).length then some ((hpg S D o c).1.set a (.inr (.inr (k, (sl.mapIdx (wsl D a)).set j (.int v)))), c) else none) = _
  rw [if_pos ⟨rfl, by rw [List.length_mapIdx]; exact hjl⟩]
  refine congrArg some (hpg_set h (fun a' ha => ?_) ?_)
  · funext k'
    rw [wst_ap, if_neg (fun h9 => ha h9.1)]
  · show (Sum.inr (Sum.inr (k, sl.mapIdx (wsl (wst D a j v) a))) : pm_E) = _
    have : sl.mapIdx (wsl (wst D a j v) a) = (sl.mapIdx (wsl D a)).set j (.int v) := by
      apply List.ext_getElem?
      intro i
      rw [List.getElem?_set, List.getElem?_mapIdx, List.getElem?_mapIdx, List.length_mapIdx]
      by_cases hi : j = i
      · subst hi
        rw [if_pos rfl, if_pos hjl, hj]
        show some (wsl (wst D a j v) a j none) = _
        simp [wsl, wst_ap]
      · rw [if_neg hi]
        cases sl[i]? with
        | none => rfl
        | some s =>
          cases s with
          | none => simp [wsl, wst_ap, Ne.symm hi]
          | some r => rfl
    rw [this]
theorem pm_ix_wn (hi : i < n) (hn : n < 2147483648) : pm_ix (wn i) n = some i := by
  have h1 : (wn i).toNatClampNeg = i := wn_nat (by omega)
  unfold pm_ix
  rw [h1, if_neg]
  rw [wt_lt, wn_toInt (by omega)]
  have : (0 : Int32).toInt = 0 := rfl
  omega
theorem whpg_ald (h : S[a]? = some (.inl n)) (ha : a ≠ pm_scr) (hi : i < n) (hn : n < 2147483648) : pm_ald X (hpg S D o c) a (wn i) = some (D a i) := by
  unfold pm_ald
  rw [if_neg ha, hpg_get h]
  show (pm_ix (wn i) n).map (D a) = _
  rw [pm_ix_wn hi hn]
  rfl
theorem whp_scr (hi : i < X.1) (hn : X.1 < 2147483648) {h : pm_H} : pm_ald X h 1000 (wn i) = some (X.2 i) := by
  unfold pm_ald
  rw [if_pos (show 1000 = pm_scr from rfl), pm_ix_wn hi hn]
  rfl
theorem whpg_ast (h : S[a]? = some (.inl n)) (hi : i < n) (hn : n < 2147483648) : pm_ast (hpg S D o c) a (wn i) v = some (hpg S (wst D a i v) o c) := by
  unfold pm_ast
  rw [hpg_get h]
  show (pm_ix (wn i) n).map (fun j => ((hpg S D o c).1.set a (.inl (n, upd (D a) j v)), c)) = _
  rw [pm_ix_wn hi hn]
  refine congrArg some (hpg_set h (fun a' ha => ?_) ?_)
  · funext k'
    rw [wst_ap, if_neg (fun h9 => ha h9.1)]
  · show (Sum.inl (n, wst D a i v a) : pm_E) = .inl (n, upd (D a) i v)
    have : wst D a i v a = upd (D a) i v := by
      funext k'
      rw [wst_ap]
      unfold upd
      simp
    rw [this]
theorem whpg_acp {na nb m : Nat} (ha : S[a]? = some (.inl na)) (hb : S[b]? = some (.inl nb)) (hab : a ≠ b) (h1 : m ≤ na) (h2 : m ≤ nb) (h3 : na < 2147483648) (h4 : nb < 2147483648) : pm_acp (hpg S D o c) a (wn 0) b (wn 0) (wn m) = some (hpg S (wcp D a b m) o c) := by
  have hm : (wn m).toNatClampNeg = m := wn_nat (by omega)
  unfold pm_acp
  rw [hpg_get ha, hpg_get hb]
  show (if a ≠ b ∧ wn 0 = 0 ∧ wn 0 = 0 ∧ ¬ wn m < 0 ∧ (wn m).toNatClampNeg ≤ na ∧ (wn m).toNatClampNeg ≤ nb ∧ na < 2 ^ 31 ∧ nb < 2 ^ 31 then some ((hpg S D o c).1.set b (.inl (nb, fun k => if k < (wn m).toNatClampNeg then D a k else D b k)), c) else none) = _
  rw [hm, if_pos ⟨hab, rfl, rfl, by rw [wt_lt, wn_toInt (by omega)]; have : (0 : Int32).toInt = 0 := rfl; omega, h1, h2, h3, h4⟩]
  refine congrArg some (hpg_set hb (fun a' ha => ?_) ?_)
  · funext k'
    rw [wcp_ap, if_neg (fun h9 => ha h9.1)]
  · show (Sum.inl (nb, wcp D a b m b) : pm_E) = _
    have : wcp D a b m b = fun k => if k < m then D a k else D b k := by
      funext k'
      rw [wcp_ap]
      simp
    rw [this]
theorem whpg_isC (h : S[a]? = some (.inr (k, sl))) : pm_isC (hpg S D o c) a k = true := by
  unfold pm_isC
  rw [hpg_get h]
  exact Nat.beq_refl k
theorem whpg_len (h : S[a]? = some (.inl n)) (ha : a < 1000) : pm_len X (hpg S D o c) a = some (wn n) := by
  unfold pm_len
  rw [if_neg (show ¬ a = pm_scr by unfold pm_scr; omega), if_neg (by omega), hpg_get h]
  rfl
theorem whp_lenS {h : pm_H} : pm_len X h 1000 = some (wn X.1) := by
  unfold pm_len
  rw [if_pos (show 1000 = pm_scr from rfl)]
  rfl
theorem hpg_set97 (hS : S.length = 97) {f : Nat → Int64} : (hpg S D o c).1.set 97 (.inr (.inl (1, f))) = (hpg S D f c).1 := by
  show (S.mapIdx (wce D) ++ ([.inr (.inl (1, o))] : List pm_E)).set 97 (.inr (.inl (1, f))) = S.mapIdx (wce D) ++ ([.inr (.inl (1, f))] : List pm_E)
  rw [List.set_append_right _ _ (by rw [List.length_mapIdx, hS]; decide), List.length_mapIdx, hS]
  rfl
theorem whpg_last (hS : S.length = 97) {w : Int64} : pm_last (hpg S D o c) 97 (wn 0) w = some (hpg S D (vp_updL o 0 w) c) := by
  have h1 : pm_last (hpg S D o c) 97 (wn 0) w = (pm_ix (wn 0) 1).map (fun j => ((hpg S D o c).1.set 97 (.inr (.inl (1, vp_updL o j w))), c)) := by
    unfold pm_last
    rw [hpg_get97 hS]
    rfl
  rw [h1, pm_ix_wn (by decide) (by decide), Option.map_some, hpg_set97 hS]
  rfl
theorem whpg_lald (hS : S.length = 97) : pm_lald (hpg S D o c) 97 (wn 0) = some (o 0) := by
  unfold pm_lald
  rw [hpg_get97 hS]
  show (pm_ix (wn 0) 1).map o = _
  rw [pm_ix_wn (by decide) (by decide)]
  rfl
end HP
section HP2
variable {X : pm_X} {D : wD} {o : Nat → Int64} {c : Nat × Nat} {a b k j n : Nat} {v : Int32} {i : Nat} {sl : List (Option Nat)} {r : Nat}
theorem wsh_len : wsh.length = 97 := rfl
theorem hp_len : (hp D o c).1.length = 98 := hpg_len wsh_len
theorem whp_fi (h : wsh[a]? = some (.inr (k, sl))) (hj : sl[j]? = some none) : pm_fld (hp D o c) a k j = some (.int (D a j)) := whpg_fi h hj
theorem whp_fr (h : wsh[a]? = some (.inr (k, sl))) (hj : sl[j]? = some (some r)) : pm_fld (hp D o c) a k j = some (.ref r) := whpg_fr h hj
theorem whp_put (h : wsh[a]? = some (.inr (k, sl))) (hj : sl[j]? = some none) : pm_put (hp D o c) a k j (.int v) = some (hp (wst D a j v) o c) := whpg_put h hj
theorem whp_ald (h : wsh[a]? = some (.inl n)) (ha : a ≠ pm_scr) (hi : i < n) (hn : n < 2147483648) : pm_ald X (hp D o c) a (wn i) = some (D a i) := whpg_ald h ha hi hn
theorem whp_ast (h : wsh[a]? = some (.inl n)) (hi : i < n) (hn : n < 2147483648) : pm_ast (hp D o c) a (wn i) v = some (hp (wst D a i v) o c) := whpg_ast h hi hn
theorem whp_acp {na nb m : Nat} (ha : wsh[a]? = some (.inl na)) (hb : wsh[b]? = some (.inl nb)) (hab : a ≠ b) (h1 : m ≤ na) (h2 : m ≤ nb) (h3 : na < 2147483648) (h4 : nb < 2147483648) : pm_acp (hp D o c) a (wn 0) b (wn 0) (wn m) = some (hp (wcp D a b m) o c) := whpg_acp ha hb hab h1 h2 h3 h4
theorem whp_isC (h : wsh[a]? = some (.inr (k, sl))) : pm_isC (hp D o c) a k = true := whpg_isC h
theorem whp_len (h : wsh[a]? = some (.inl n)) (ha : a < 1000) : pm_len X (hp D o c) a = some (wn n) := whpg_len h ha
theorem whp_last {w : Int64} : pm_last (hp D o c) 97 (wn 0) w = some (hp D (vp_updL o 0 w) c) := whpg_last wsh_len
theorem whp_lald : pm_lald (hp D o c) 97 (wn 0) = some (o 0) := whpg_lald wsh_len
end HP2

section HPR
variable {X : pm_X} {D : wD} {o : Nat → Int64} {c : Nat × Nat} {v : Int32} {i : Nat} {n : Int32}
theorem hf_0_0 : pm_fld (hp D o c) 0 11 0 = some (.ref 1) := whp_fr (sl := _) rfl rfl
theorem hf_0_1 : pm_fld (hp D o c) 0 11 1 = some (.ref 26) := whp_fr (sl := _) rfl rfl
theorem hf_0_2 : pm_fld (hp D o c) 0 11 2 = some (.ref 32) := whp_fr (sl := _) rfl rfl
theorem hf_0_3 : pm_fld (hp D o c) 0 11 3 = some (.ref 34) := whp_fr (sl := _) rfl rfl
theorem hf_0_4 : pm_fld (hp D o c) 0 11 4 = some (.ref 35) := whp_fr (sl := _) rfl rfl
theorem hf_0_5 : pm_fld (hp D o c) 0 11 5 = some (.ref 59) := whp_fr (sl := _) rfl rfl
theorem hf_0_6 : pm_fld (hp D o c) 0 11 6 = some (.ref 83) := whp_fr (sl := _) rfl rfl
theorem hf_0_7 : pm_fld (hp D o c) 0 11 7 = some (.ref 85) := whp_fr (sl := _) rfl rfl
theorem hf_0_8 : pm_fld (hp D o c) 0 11 8 = some (.ref 86) := whp_fr (sl := _) rfl rfl
theorem hf_0_9 : pm_fld (hp D o c) 0 11 9 = some (.ref 89) := whp_fr (sl := _) rfl rfl
theorem hf_0_10 : pm_fld (hp D o c) 0 11 10 = some (.int (D 0 10)) := whp_fi (sl := _) rfl rfl
theorem hs_0_10 : pm_put (hp D o c) 0 11 10 (.int v) = some (hp (wst D 0 10 v) o c) := whp_put (sl := _) rfl rfl
theorem hf_0_11 : pm_fld (hp D o c) 0 11 11 = some (.int (D 0 11)) := whp_fi (sl := _) rfl rfl
theorem hs_0_11 : pm_put (hp D o c) 0 11 11 (.int v) = some (hp (wst D 0 11 v) o c) := whp_put (sl := _) rfl rfl
theorem hc_0 : pm_isC (hp D o c) 0 11 = true := whp_isC (sl := _) rfl
theorem hf_1_0 : pm_fld (hp D o c) 1 2 0 = some (.ref 2) := whp_fr (sl := _) rfl rfl
theorem hc_1 : pm_isC (hp D o c) 1 2 = true := whp_isC (sl := _) rfl
theorem hf_2_0 : pm_fld (hp D o c) 2 7 0 = some (.ref 3) := whp_fr (sl := _) rfl rfl
theorem hf_2_1 : pm_fld (hp D o c) 2 7 1 = some (.ref 12) := whp_fr (sl := _) rfl rfl
theorem hf_2_2 : pm_fld (hp D o c) 2 7 2 = some (.ref 17) := whp_fr (sl := _) rfl rfl
theorem hf_2_3 : pm_fld (hp D o c) 2 7 3 = some (.ref 23) := whp_fr (sl := _) rfl rfl
theorem hf_2_4 : pm_fld (hp D o c) 2 7 4 = some (.ref 24) := whp_fr (sl := _) rfl rfl
theorem hf_2_5 : pm_fld (hp D o c) 2 7 5 = some (.ref 25) := whp_fr (sl := _) rfl rfl
theorem hf_2_6 : pm_fld (hp D o c) 2 7 6 = some (.int (D 2 6)) := whp_fi (sl := _) rfl rfl
theorem hs_2_6 : pm_put (hp D o c) 2 7 6 (.int v) = some (hp (wst D 2 6 v) o c) := whp_put (sl := _) rfl rfl
theorem hf_2_7 : pm_fld (hp D o c) 2 7 7 = some (.int (D 2 7)) := whp_fi (sl := _) rfl rfl
theorem hs_2_7 : pm_put (hp D o c) 2 7 7 (.int v) = some (hp (wst D 2 7 v) o c) := whp_put (sl := _) rfl rfl
theorem hf_2_8 : pm_fld (hp D o c) 2 7 8 = some (.int (D 2 8)) := whp_fi (sl := _) rfl rfl
theorem hs_2_8 : pm_put (hp D o c) 2 7 8 (.int v) = some (hp (wst D 2 8 v) o c) := whp_put (sl := _) rfl rfl
theorem hf_2_9 : pm_fld (hp D o c) 2 7 9 = some (.int (D 2 9)) := whp_fi (sl := _) rfl rfl
theorem hs_2_9 : pm_put (hp D o c) 2 7 9 (.int v) = some (hp (wst D 2 9 v) o c) := whp_put (sl := _) rfl rfl
theorem hf_2_10 : pm_fld (hp D o c) 2 7 10 = some (.int (D 2 10)) := whp_fi (sl := _) rfl rfl
theorem hs_2_10 : pm_put (hp D o c) 2 7 10 (.int v) = some (hp (wst D 2 10 v) o c) := whp_put (sl := _) rfl rfl
theorem hf_2_11 : pm_fld (hp D o c) 2 7 11 = some (.int (D 2 11)) := whp_fi (sl := _) rfl rfl
theorem hs_2_11 : pm_put (hp D o c) 2 7 11 (.int v) = some (hp (wst D 2 11 v) o c) := whp_put (sl := _) rfl rfl
theorem hf_2_12 : pm_fld (hp D o c) 2 7 12 = some (.int (D 2 12)) := whp_fi (sl := _) rfl rfl
theorem hs_2_12 : pm_put (hp D o c) 2 7 12 (.int v) = some (hp (wst D 2 12 v) o c) := whp_put (sl := _) rfl rfl
theorem hf_2_13 : pm_fld (hp D o c) 2 7 13 = some (.int (D 2 13)) := whp_fi (sl := _) rfl rfl
theorem hs_2_13 : pm_put (hp D o c) 2 7 13 (.int v) = some (hp (wst D 2 13 v) o c) := whp_put (sl := _) rfl rfl
theorem hf_2_14 : pm_fld (hp D o c) 2 7 14 = some (.int (D 2 14)) := whp_fi (sl := _) rfl rfl
theorem hs_2_14 : pm_put (hp D o c) 2 7 14 (.int v) = some (hp (wst D 2 14 v) o c) := whp_put (sl := _) rfl rfl
theorem hf_2_15 : pm_fld (hp D o c) 2 7 15 = some (.int (D 2 15)) := whp_fi (sl := _) rfl rfl
theorem hs_2_15 : pm_put (hp D o c) 2 7 15 (.int v) = some (hp (wst D 2 15 v) o c) := whp_put (sl := _) rfl rfl
theorem hf_2_16 : pm_fld (hp D o c) 2 7 16 = some (.int (D 2 16)) := whp_fi (sl := _) rfl rfl
theorem hs_2_16 : pm_put (hp D o c) 2 7 16 (.int v) = some (hp (wst D 2 16 v) o c) := whp_put (sl := _) rfl rfl
theorem hc_2 : pm_isC (hp D o c) 2 7 = true := whp_isC (sl := _) rfl
theorem hf_3_0 : pm_fld (hp D o c) 3 0 0 = some (.ref 4) := whp_fr (sl := _) rfl rfl
theorem hf_3_1 : pm_fld (hp D o c) 3 0 1 = some (.ref 5) := whp_fr (sl := _) rfl rfl
theorem hf_3_2 : pm_fld (hp D o c) 3 0 2 = some (.ref 6) := whp_fr (sl := _) rfl rfl
theorem hf_3_3 : pm_fld (hp D o c) 3 0 3 = some (.ref 7) := whp_fr (sl := _) rfl rfl
theorem hf_3_4 : pm_fld (hp D o c) 3 0 4 = some (.ref 8) := whp_fr (sl := _) rfl rfl
theorem hf_3_5 : pm_fld (hp D o c) 3 0 5 = some (.ref 9) := whp_fr (sl := _) rfl rfl
theorem hf_3_6 : pm_fld (hp D o c) 3 0 6 = some (.ref 10) := whp_fr (sl := _) rfl rfl
theorem hf_3_7 : pm_fld (hp D o c) 3 0 7 = some (.ref 11) := whp_fr (sl := _) rfl rfl
theorem hf_3_8 : pm_fld (hp D o c) 3 0 8 = some (.int (D 3 8)) := whp_fi (sl := _) rfl rfl
theorem hs_3_8 : pm_put (hp D o c) 3 0 8 (.int v) = some (hp (wst D 3 8 v) o c) := whp_put (sl := _) rfl rfl
theorem hf_3_9 : pm_fld (hp D o c) 3 0 9 = some (.int (D 3 9)) := whp_fi (sl := _) rfl rfl
theorem hs_3_9 : pm_put (hp D o c) 3 0 9 (.int v) = some (hp (wst D 3 9 v) o c) := whp_put (sl := _) rfl rfl
theorem hc_3 : pm_isC (hp D o c) 3 0 = true := whp_isC (sl := _) rfl
theorem ha_4 (hi : i < 16) : pm_ald X (hp D o c) 4 (wn i) = some (D 4 i) := whp_ald (n := 16) rfl (by decide) hi (by decide)
theorem hw_4 (hi : i < 16) : pm_ast (hp D o c) 4 (wn i) v = some (hp (wst D 4 i v) o c) := whp_ast (n := 16) rfl hi (by decide)
theorem hl_4 : pm_len X (hp D o c) 4 = some (wn 16) := whp_len (n := 16) rfl (by decide)
theorem ha_5 (hi : i < 16) : pm_ald X (hp D o c) 5 (wn i) = some (D 5 i) := whp_ald (n := 16) rfl (by decide) hi (by decide)
theorem hw_5 (hi : i < 16) : pm_ast (hp D o c) 5 (wn i) v = some (hp (wst D 5 i v) o c) := whp_ast (n := 16) rfl hi (by decide)
theorem hl_5 : pm_len X (hp D o c) 5 = some (wn 16) := whp_len (n := 16) rfl (by decide)
theorem ha_6 (hi : i < 16) : pm_ald X (hp D o c) 6 (wn i) = some (D 6 i) := whp_ald (n := 16) rfl (by decide) hi (by decide)
theorem hw_6 (hi : i < 16) : pm_ast (hp D o c) 6 (wn i) v = some (hp (wst D 6 i v) o c) := whp_ast (n := 16) rfl hi (by decide)
theorem hl_6 : pm_len X (hp D o c) 6 = some (wn 16) := whp_len (n := 16) rfl (by decide)
theorem ha_7 (hi : i < 16) : pm_ald X (hp D o c) 7 (wn i) = some (D 7 i) := whp_ald (n := 16) rfl (by decide) hi (by decide)
theorem hw_7 (hi : i < 16) : pm_ast (hp D o c) 7 (wn i) v = some (hp (wst D 7 i v) o c) := whp_ast (n := 16) rfl hi (by decide)
theorem hl_7 : pm_len X (hp D o c) 7 = some (wn 16) := whp_len (n := 16) rfl (by decide)
theorem ha_8 (hi : i < 16) : pm_ald X (hp D o c) 8 (wn i) = some (D 8 i) := whp_ald (n := 16) rfl (by decide) hi (by decide)
theorem hw_8 (hi : i < 16) : pm_ast (hp D o c) 8 (wn i) v = some (hp (wst D 8 i v) o c) := whp_ast (n := 16) rfl hi (by decide)
theorem hl_8 : pm_len X (hp D o c) 8 = some (wn 16) := whp_len (n := 16) rfl (by decide)
theorem ha_9 (hi : i < 16) : pm_ald X (hp D o c) 9 (wn i) = some (D 9 i) := whp_ald (n := 16) rfl (by decide) hi (by decide)
theorem hw_9 (hi : i < 16) : pm_ast (hp D o c) 9 (wn i) v = some (hp (wst D 9 i v) o c) := whp_ast (n := 16) rfl hi (by decide)
theorem hl_9 : pm_len X (hp D o c) 9 = some (wn 16) := whp_len (n := 16) rfl (by decide)
theorem ha_10 (hi : i < 16) : pm_ald X (hp D o c) 10 (wn i) = some (D 10 i) := whp_ald (n := 16) rfl (by decide) hi (by decide)
theorem hw_10 (hi : i < 16) : pm_ast (hp D o c) 10 (wn i) v = some (hp (wst D 10 i v) o c) := whp_ast (n := 16) rfl hi (by decide)
theorem hl_10 : pm_len X (hp D o c) 10 = some (wn 16) := whp_len (n := 16) rfl (by decide)
theorem ha_11 (hi : i < 16) : pm_ald X (hp D o c) 11 (wn i) = some (D 11 i) := whp_ald (n := 16) rfl (by decide) hi (by decide)
theorem hw_11 (hi : i < 16) : pm_ast (hp D o c) 11 (wn i) v = some (hp (wst D 11 i v) o c) := whp_ast (n := 16) rfl hi (by decide)
theorem hl_11 : pm_len X (hp D o c) 11 = some (wn 16) := whp_len (n := 16) rfl (by decide)
theorem hf_12_0 : pm_fld (hp D o c) 12 3 0 = some (.ref 13) := whp_fr (sl := _) rfl rfl
theorem hf_12_1 : pm_fld (hp D o c) 12 3 1 = some (.ref 14) := whp_fr (sl := _) rfl rfl
theorem hf_12_2 : pm_fld (hp D o c) 12 3 2 = some (.ref 15) := whp_fr (sl := _) rfl rfl
theorem hf_12_3 : pm_fld (hp D o c) 12 3 3 = some (.ref 16) := whp_fr (sl := _) rfl rfl
theorem hf_12_4 : pm_fld (hp D o c) 12 3 4 = some (.int (D 12 4)) := whp_fi (sl := _) rfl rfl
theorem hs_12_4 : pm_put (hp D o c) 12 3 4 (.int v) = some (hp (wst D 12 4 v) o c) := whp_put (sl := _) rfl rfl
theorem hf_12_5 : pm_fld (hp D o c) 12 3 5 = some (.int (D 12 5)) := whp_fi (sl := _) rfl rfl
theorem hs_12_5 : pm_put (hp D o c) 12 3 5 (.int v) = some (hp (wst D 12 5 v) o c) := whp_put (sl := _) rfl rfl
theorem hc_12 : pm_isC (hp D o c) 12 3 = true := whp_isC (sl := _) rfl
theorem ha_13 (hi : i < 12) : pm_ald X (hp D o c) 13 (wn i) = some (D 13 i) := whp_ald (n := 12) rfl (by decide) hi (by decide)
theorem hw_13 (hi : i < 12) : pm_ast (hp D o c) 13 (wn i) v = some (hp (wst D 13 i v) o c) := whp_ast (n := 12) rfl hi (by decide)
theorem hl_13 : pm_len X (hp D o c) 13 = some (wn 12) := whp_len (n := 12) rfl (by decide)
theorem ha_14 (hi : i < 12) : pm_ald X (hp D o c) 14 (wn i) = some (D 14 i) := whp_ald (n := 12) rfl (by decide) hi (by decide)
theorem hw_14 (hi : i < 12) : pm_ast (hp D o c) 14 (wn i) v = some (hp (wst D 14 i v) o c) := whp_ast (n := 12) rfl hi (by decide)
theorem hl_14 : pm_len X (hp D o c) 14 = some (wn 12) := whp_len (n := 12) rfl (by decide)
theorem ha_15 (hi : i < 400) : pm_ald X (hp D o c) 15 (wn i) = some (D 15 i) := whp_ald (n := 400) rfl (by decide) hi (by decide)
theorem hw_15 (hi : i < 400) : pm_ast (hp D o c) 15 (wn i) v = some (hp (wst D 15 i v) o c) := whp_ast (n := 400) rfl hi (by decide)
theorem hl_15 : pm_len X (hp D o c) 15 = some (wn 400) := whp_len (n := 400) rfl (by decide)
theorem ha_16 (hi : i < 40) : pm_ald X (hp D o c) 16 (wn i) = some (D 16 i) := whp_ald (n := 40) rfl (by decide) hi (by decide)
theorem hw_16 (hi : i < 40) : pm_ast (hp D o c) 16 (wn i) v = some (hp (wst D 16 i v) o c) := whp_ast (n := 40) rfl hi (by decide)
theorem hl_16 : pm_len X (hp D o c) 16 = some (wn 40) := whp_len (n := 40) rfl (by decide)
theorem hf_17_0 : pm_fld (hp D o c) 17 9 0 = some (.ref 18) := whp_fr (sl := _) rfl rfl
theorem hf_17_1 : pm_fld (hp D o c) 17 9 1 = some (.ref 19) := whp_fr (sl := _) rfl rfl
theorem hf_17_2 : pm_fld (hp D o c) 17 9 2 = some (.ref 20) := whp_fr (sl := _) rfl rfl
theorem hf_17_3 : pm_fld (hp D o c) 17 9 3 = some (.ref 21) := whp_fr (sl := _) rfl rfl
theorem hf_17_4 : pm_fld (hp D o c) 17 9 4 = some (.ref 22) := whp_fr (sl := _) rfl rfl
theorem hf_17_5 : pm_fld (hp D o c) 17 9 5 = some (.int (D 17 5)) := whp_fi (sl := _) rfl rfl
theorem hs_17_5 : pm_put (hp D o c) 17 9 5 (.int v) = some (hp (wst D 17 5 v) o c) := whp_put (sl := _) rfl rfl
theorem hc_17 : pm_isC (hp D o c) 17 9 = true := whp_isC (sl := _) rfl
theorem ha_18 (hi : i < 40) : pm_ald X (hp D o c) 18 (wn i) = some (D 18 i) := whp_ald (n := 40) rfl (by decide) hi (by decide)
theorem hw_18 (hi : i < 40) : pm_ast (hp D o c) 18 (wn i) v = some (hp (wst D 18 i v) o c) := whp_ast (n := 40) rfl hi (by decide)
theorem hl_18 : pm_len X (hp D o c) 18 = some (wn 40) := whp_len (n := 40) rfl (by decide)
theorem ha_19 (hi : i < 40) : pm_ald X (hp D o c) 19 (wn i) = some (D 19 i) := whp_ald (n := 40) rfl (by decide) hi (by decide)
theorem hw_19 (hi : i < 40) : pm_ast (hp D o c) 19 (wn i) v = some (hp (wst D 19 i v) o c) := whp_ast (n := 40) rfl hi (by decide)
theorem hl_19 : pm_len X (hp D o c) 19 = some (wn 40) := whp_len (n := 40) rfl (by decide)
theorem ha_20 (hi : i < 40) : pm_ald X (hp D o c) 20 (wn i) = some (D 20 i) := whp_ald (n := 40) rfl (by decide) hi (by decide)
theorem hw_20 (hi : i < 40) : pm_ast (hp D o c) 20 (wn i) v = some (hp (wst D 20 i v) o c) := whp_ast (n := 40) rfl hi (by decide)
theorem hl_20 : pm_len X (hp D o c) 20 = some (wn 40) := whp_len (n := 40) rfl (by decide)
theorem ha_21 (hi : i < 40) : pm_ald X (hp D o c) 21 (wn i) = some (D 21 i) := whp_ald (n := 40) rfl (by decide) hi (by decide)
theorem hw_21 (hi : i < 40) : pm_ast (hp D o c) 21 (wn i) v = some (hp (wst D 21 i v) o c) := whp_ast (n := 40) rfl hi (by decide)
theorem hl_21 : pm_len X (hp D o c) 21 = some (wn 40) := whp_len (n := 40) rfl (by decide)
theorem ha_22 (hi : i < 40) : pm_ald X (hp D o c) 22 (wn i) = some (D 22 i) := whp_ald (n := 40) rfl (by decide) hi (by decide)
theorem hw_22 (hi : i < 40) : pm_ast (hp D o c) 22 (wn i) v = some (hp (wst D 22 i v) o c) := whp_ast (n := 40) rfl hi (by decide)
theorem hl_22 : pm_len X (hp D o c) 22 = some (wn 40) := whp_len (n := 40) rfl (by decide)
theorem ha_23 (hi : i < 3) : pm_ald X (hp D o c) 23 (wn i) = some (D 23 i) := whp_ald (n := 3) rfl (by decide) hi (by decide)
theorem hw_23 (hi : i < 3) : pm_ast (hp D o c) 23 (wn i) v = some (hp (wst D 23 i v) o c) := whp_ast (n := 3) rfl hi (by decide)
theorem hl_23 : pm_len X (hp D o c) 23 = some (wn 3) := whp_len (n := 3) rfl (by decide)
theorem ha_24 (hi : i < 3) : pm_ald X (hp D o c) 24 (wn i) = some (D 24 i) := whp_ald (n := 3) rfl (by decide) hi (by decide)
theorem hw_24 (hi : i < 3) : pm_ast (hp D o c) 24 (wn i) v = some (hp (wst D 24 i v) o c) := whp_ast (n := 3) rfl hi (by decide)
theorem hl_24 : pm_len X (hp D o c) 24 = some (wn 3) := whp_len (n := 3) rfl (by decide)
theorem ha_25 (hi : i < 12) : pm_ald X (hp D o c) 25 (wn i) = some (D 25 i) := whp_ald (n := 12) rfl (by decide) hi (by decide)
theorem hw_25 (hi : i < 12) : pm_ast (hp D o c) 25 (wn i) v = some (hp (wst D 25 i v) o c) := whp_ast (n := 12) rfl hi (by decide)
theorem hl_25 : pm_len X (hp D o c) 25 = some (wn 12) := whp_len (n := 12) rfl (by decide)
theorem hf_26_0 : pm_fld (hp D o c) 26 4 0 = some (.ref 27) := whp_fr (sl := _) rfl rfl
theorem hc_26 : pm_isC (hp D o c) 26 4 = true := whp_isC (sl := _) rfl
theorem hf_27_0 : pm_fld (hp D o c) 27 3 0 = some (.ref 28) := whp_fr (sl := _) rfl rfl
theorem hf_27_1 : pm_fld (hp D o c) 27 3 1 = some (.ref 29) := whp_fr (sl := _) rfl rfl
theorem hf_27_2 : pm_fld (hp D o c) 27 3 2 = some (.ref 30) := whp_fr (sl := _) rfl rfl
theorem hf_27_3 : pm_fld (hp D o c) 27 3 3 = some (.ref 31) := whp_fr (sl := _) rfl rfl
theorem hf_27_4 : pm_fld (hp D o c) 27 3 4 = some (.int (D 27 4)) := whp_fi (sl := _) rfl rfl
theorem hs_27_4 : pm_put (hp D o c) 27 3 4 (.int v) = some (hp (wst D 27 4 v) o c) := whp_put (sl := _) rfl rfl
theorem hf_27_5 : pm_fld (hp D o c) 27 3 5 = some (.int (D 27 5)) := whp_fi (sl := _) rfl rfl
theorem hs_27_5 : pm_put (hp D o c) 27 3 5 (.int v) = some (hp (wst D 27 5 v) o c) := whp_put (sl := _) rfl rfl
theorem hc_27 : pm_isC (hp D o c) 27 3 = true := whp_isC (sl := _) rfl
theorem ha_28 (hi : i < 12) : pm_ald X (hp D o c) 28 (wn i) = some (D 28 i) := whp_ald (n := 12) rfl (by decide) hi (by decide)
theorem hw_28 (hi : i < 12) : pm_ast (hp D o c) 28 (wn i) v = some (hp (wst D 28 i v) o c) := whp_ast (n := 12) rfl hi (by decide)
theorem hl_28 : pm_len X (hp D o c) 28 = some (wn 12) := whp_len (n := 12) rfl (by decide)
theorem ha_29 (hi : i < 12) : pm_ald X (hp D o c) 29 (wn i) = some (D 29 i) := whp_ald (n := 12) rfl (by decide) hi (by decide)
theorem hw_29 (hi : i < 12) : pm_ast (hp D o c) 29 (wn i) v = some (hp (wst D 29 i v) o c) := whp_ast (n := 12) rfl hi (by decide)
theorem hl_29 : pm_len X (hp D o c) 29 = some (wn 12) := whp_len (n := 12) rfl (by decide)
theorem ha_30 (hi : i < 400) : pm_ald X (hp D o c) 30 (wn i) = some (D 30 i) := whp_ald (n := 400) rfl (by decide) hi (by decide)
theorem hw_30 (hi : i < 400) : pm_ast (hp D o c) 30 (wn i) v = some (hp (wst D 30 i v) o c) := whp_ast (n := 400) rfl hi (by decide)
theorem hl_30 : pm_len X (hp D o c) 30 = some (wn 400) := whp_len (n := 400) rfl (by decide)
theorem ha_31 (hi : i < 40) : pm_ald X (hp D o c) 31 (wn i) = some (D 31 i) := whp_ald (n := 40) rfl (by decide) hi (by decide)
theorem hw_31 (hi : i < 40) : pm_ast (hp D o c) 31 (wn i) v = some (hp (wst D 31 i v) o c) := whp_ast (n := 40) rfl hi (by decide)
theorem hl_31 : pm_len X (hp D o c) 31 = some (wn 40) := whp_len (n := 40) rfl (by decide)
theorem hf_32_0 : pm_fld (hp D o c) 32 8 0 = some (.ref 33) := whp_fr (sl := _) rfl rfl
theorem hf_32_1 : pm_fld (hp D o c) 32 8 1 = some (.int (D 32 1)) := whp_fi (sl := _) rfl rfl
theorem hs_32_1 : pm_put (hp D o c) 32 8 1 (.int v) = some (hp (wst D 32 1 v) o c) := whp_put (sl := _) rfl rfl
theorem hf_32_2 : pm_fld (hp D o c) 32 8 2 = some (.int (D 32 2)) := whp_fi (sl := _) rfl rfl
theorem hs_32_2 : pm_put (hp D o c) 32 8 2 (.int v) = some (hp (wst D 32 2 v) o c) := whp_put (sl := _) rfl rfl
theorem hf_32_3 : pm_fld (hp D o c) 32 8 3 = some (.int (D 32 3)) := whp_fi (sl := _) rfl rfl
theorem hs_32_3 : pm_put (hp D o c) 32 8 3 (.int v) = some (hp (wst D 32 3 v) o c) := whp_put (sl := _) rfl rfl
theorem hc_32 : pm_isC (hp D o c) 32 8 = true := whp_isC (sl := _) rfl
theorem ha_33 (hi : i < 400) : pm_ald X (hp D o c) 33 (wn i) = some (D 33 i) := whp_ald (n := 400) rfl (by decide) hi (by decide)
theorem hw_33 (hi : i < 400) : pm_ast (hp D o c) 33 (wn i) v = some (hp (wst D 33 i v) o c) := whp_ast (n := 400) rfl hi (by decide)
theorem hl_33 : pm_len X (hp D o c) 33 = some (wn 400) := whp_len (n := 400) rfl (by decide)
theorem hf_34_0 : pm_fld (hp D o c) 34 6 0 = some (.ref 35) := whp_fr (sl := _) rfl rfl
theorem hf_34_1 : pm_fld (hp D o c) 34 6 1 = some (.ref 36) := whp_fr (sl := _) rfl rfl
theorem hf_34_2 : pm_fld (hp D o c) 34 6 2 = some (.int (D 34 2)) := whp_fi (sl := _) rfl rfl
theorem hs_34_2 : pm_put (hp D o c) 34 6 2 (.int v) = some (hp (wst D 34 2 v) o c) := whp_put (sl := _) rfl rfl
theorem hf_34_3 : pm_fld (hp D o c) 34 6 3 = some (.int (D 34 3)) := whp_fi (sl := _) rfl rfl
theorem hs_34_3 : pm_put (hp D o c) 34 6 3 (.int v) = some (hp (wst D 34 3 v) o c) := whp_put (sl := _) rfl rfl
theorem hf_34_4 : pm_fld (hp D o c) 34 6 4 = some (.int (D 34 4)) := whp_fi (sl := _) rfl rfl
theorem hs_34_4 : pm_put (hp D o c) 34 6 4 (.int v) = some (hp (wst D 34 4 v) o c) := whp_put (sl := _) rfl rfl
theorem hf_34_5 : pm_fld (hp D o c) 34 6 5 = some (.int (D 34 5)) := whp_fi (sl := _) rfl rfl
theorem hs_34_5 : pm_put (hp D o c) 34 6 5 (.int v) = some (hp (wst D 34 5 v) o c) := whp_put (sl := _) rfl rfl
theorem hf_34_6 : pm_fld (hp D o c) 34 6 6 = some (.int (D 34 6)) := whp_fi (sl := _) rfl rfl
theorem hs_34_6 : pm_put (hp D o c) 34 6 6 (.int v) = some (hp (wst D 34 6 v) o c) := whp_put (sl := _) rfl rfl
theorem hf_34_7 : pm_fld (hp D o c) 34 6 7 = some (.int (D 34 7)) := whp_fi (sl := _) rfl rfl
theorem hs_34_7 : pm_put (hp D o c) 34 6 7 (.int v) = some (hp (wst D 34 7 v) o c) := whp_put (sl := _) rfl rfl
theorem hc_34 : pm_isC (hp D o c) 34 6 = true := whp_isC (sl := _) rfl
theorem hf_35_0 : pm_fld (hp D o c) 35 7 0 = some (.ref 36) := whp_fr (sl := _) rfl rfl
theorem hf_35_1 : pm_fld (hp D o c) 35 7 1 = some (.ref 45) := whp_fr (sl := _) rfl rfl
theorem hf_35_2 : pm_fld (hp D o c) 35 7 2 = some (.ref 50) := whp_fr (sl := _) rfl rfl
theorem hf_35_3 : pm_fld (hp D o c) 35 7 3 = some (.ref 56) := whp_fr (sl := _) rfl rfl
theorem hf_35_4 : pm_fld (hp D o c) 35 7 4 = some (.ref 57) := whp_fr (sl := _) rfl rfl
theorem hf_35_5 : pm_fld (hp D o c) 35 7 5 = some (.ref 58) := whp_fr (sl := _) rfl rfl
theorem hf_35_6 : pm_fld (hp D o c) 35 7 6 = some (.int (D 35 6)) := whp_fi (sl := _) rfl rfl
theorem hs_35_6 : pm_put (hp D o c) 35 7 6 (.int v) = some (hp (wst D 35 6 v) o c) := whp_put (sl := _) rfl rfl
theorem hf_35_7 : pm_fld (hp D o c) 35 7 7 = some (.int (D 35 7)) := whp_fi (sl := _) rfl rfl
theorem hs_35_7 : pm_put (hp D o c) 35 7 7 (.int v) = some (hp (wst D 35 7 v) o c) := whp_put (sl := _) rfl rfl
theorem hf_35_8 : pm_fld (hp D o c) 35 7 8 = some (.int (D 35 8)) := whp_fi (sl := _) rfl rfl
theorem hs_35_8 : pm_put (hp D o c) 35 7 8 (.int v) = some (hp (wst D 35 8 v) o c) := whp_put (sl := _) rfl rfl
theorem hf_35_9 : pm_fld (hp D o c) 35 7 9 = some (.int (D 35 9)) := whp_fi (sl := _) rfl rfl
theorem hs_35_9 : pm_put (hp D o c) 35 7 9 (.int v) = some (hp (wst D 35 9 v) o c) := whp_put (sl := _) rfl rfl
theorem hf_35_10 : pm_fld (hp D o c) 35 7 10 = some (.int (D 35 10)) := whp_fi (sl := _) rfl rfl
theorem hs_35_10 : pm_put (hp D o c) 35 7 10 (.int v) = some (hp (wst D 35 10 v) o c) := whp_put (sl := _) rfl rfl
theorem hf_35_11 : pm_fld (hp D o c) 35 7 11 = some (.int (D 35 11)) := whp_fi (sl := _) rfl rfl
theorem hs_35_11 : pm_put (hp D o c) 35 7 11 (.int v) = some (hp (wst D 35 11 v) o c) := whp_put (sl := _) rfl rfl
theorem hf_35_12 : pm_fld (hp D o c) 35 7 12 = some (.int (D 35 12)) := whp_fi (sl := _) rfl rfl
theorem hs_35_12 : pm_put (hp D o c) 35 7 12 (.int v) = some (hp (wst D 35 12 v) o c) := whp_put (sl := _) rfl rfl
theorem hf_35_13 : pm_fld (hp D o c) 35 7 13 = some (.int (D 35 13)) := whp_fi (sl := _) rfl rfl
theorem hs_35_13 : pm_put (hp D o c) 35 7 13 (.int v) = some (hp (wst D 35 13 v) o c) := whp_put (sl := _) rfl rfl
theorem hf_35_14 : pm_fld (hp D o c) 35 7 14 = some (.int (D 35 14)) := whp_fi (sl := _) rfl rfl
theorem hs_35_14 : pm_put (hp D o c) 35 7 14 (.int v) = some (hp (wst D 35 14 v) o c) := whp_put (sl := _) rfl rfl
theorem hf_35_15 : pm_fld (hp D o c) 35 7 15 = some (.int (D 35 15)) := whp_fi (sl := _) rfl rfl
theorem hs_35_15 : pm_put (hp D o c) 35 7 15 (.int v) = some (hp (wst D 35 15 v) o c) := whp_put (sl := _) rfl rfl
theorem hf_35_16 : pm_fld (hp D o c) 35 7 16 = some (.int (D 35 16)) := whp_fi (sl := _) rfl rfl
theorem hs_35_16 : pm_put (hp D o c) 35 7 16 (.int v) = some (hp (wst D 35 16 v) o c) := whp_put (sl := _) rfl rfl
theorem hc_35 : pm_isC (hp D o c) 35 7 = true := whp_isC (sl := _) rfl
theorem hf_36_0 : pm_fld (hp D o c) 36 0 0 = some (.ref 37) := whp_fr (sl := _) rfl rfl
theorem hf_36_1 : pm_fld (hp D o c) 36 0 1 = some (.ref 38) := whp_fr (sl := _) rfl rfl
theorem hf_36_2 : pm_fld (hp D o c) 36 0 2 = some (.ref 39) := whp_fr (sl := _) rfl rfl
theorem hf_36_3 : pm_fld (hp D o c) 36 0 3 = some (.ref 40) := whp_fr (sl := _) rfl rfl
theorem hf_36_4 : pm_fld (hp D o c) 36 0 4 = some (.ref 41) := whp_fr (sl := _) rfl rfl
theorem hf_36_5 : pm_fld (hp D o c) 36 0 5 = some (.ref 42) := whp_fr (sl := _) rfl rfl
theorem hf_36_6 : pm_fld (hp D o c) 36 0 6 = some (.ref 43) := whp_fr (sl := _) rfl rfl
theorem hf_36_7 : pm_fld (hp D o c) 36 0 7 = some (.ref 44) := whp_fr (sl := _) rfl rfl
theorem hf_36_8 : pm_fld (hp D o c) 36 0 8 = some (.int (D 36 8)) := whp_fi (sl := _) rfl rfl
theorem hs_36_8 : pm_put (hp D o c) 36 0 8 (.int v) = some (hp (wst D 36 8 v) o c) := whp_put (sl := _) rfl rfl
theorem hf_36_9 : pm_fld (hp D o c) 36 0 9 = some (.int (D 36 9)) := whp_fi (sl := _) rfl rfl
theorem hs_36_9 : pm_put (hp D o c) 36 0 9 (.int v) = some (hp (wst D 36 9 v) o c) := whp_put (sl := _) rfl rfl
theorem hc_36 : pm_isC (hp D o c) 36 0 = true := whp_isC (sl := _) rfl
theorem ha_37 (hi : i < 16) : pm_ald X (hp D o c) 37 (wn i) = some (D 37 i) := whp_ald (n := 16) rfl (by decide) hi (by decide)
theorem hw_37 (hi : i < 16) : pm_ast (hp D o c) 37 (wn i) v = some (hp (wst D 37 i v) o c) := whp_ast (n := 16) rfl hi (by decide)
theorem hl_37 : pm_len X (hp D o c) 37 = some (wn 16) := whp_len (n := 16) rfl (by decide)
theorem ha_38 (hi : i < 16) : pm_ald X (hp D o c) 38 (wn i) = some (D 38 i) := whp_ald (n := 16) rfl (by decide) hi (by decide)
theorem hw_38 (hi : i < 16) : pm_ast (hp D o c) 38 (wn i) v = some (hp (wst D 38 i v) o c) := whp_ast (n := 16) rfl hi (by decide)
theorem hl_38 : pm_len X (hp D o c) 38 = some (wn 16) := whp_len (n := 16) rfl (by decide)
theorem ha_39 (hi : i < 16) : pm_ald X (hp D o c) 39 (wn i) = some (D 39 i) := whp_ald (n := 16) rfl (by decide) hi (by decide)
theorem hw_39 (hi : i < 16) : pm_ast (hp D o c) 39 (wn i) v = some (hp (wst D 39 i v) o c) := whp_ast (n := 16) rfl hi (by decide)
theorem hl_39 : pm_len X (hp D o c) 39 = some (wn 16) := whp_len (n := 16) rfl (by decide)
theorem ha_40 (hi : i < 16) : pm_ald X (hp D o c) 40 (wn i) = some (D 40 i) := whp_ald (n := 16) rfl (by decide) hi (by decide)
theorem hw_40 (hi : i < 16) : pm_ast (hp D o c) 40 (wn i) v = some (hp (wst D 40 i v) o c) := whp_ast (n := 16) rfl hi (by decide)
theorem hl_40 : pm_len X (hp D o c) 40 = some (wn 16) := whp_len (n := 16) rfl (by decide)
theorem ha_41 (hi : i < 16) : pm_ald X (hp D o c) 41 (wn i) = some (D 41 i) := whp_ald (n := 16) rfl (by decide) hi (by decide)
theorem hw_41 (hi : i < 16) : pm_ast (hp D o c) 41 (wn i) v = some (hp (wst D 41 i v) o c) := whp_ast (n := 16) rfl hi (by decide)
theorem hl_41 : pm_len X (hp D o c) 41 = some (wn 16) := whp_len (n := 16) rfl (by decide)
theorem ha_42 (hi : i < 16) : pm_ald X (hp D o c) 42 (wn i) = some (D 42 i) := whp_ald (n := 16) rfl (by decide) hi (by decide)
theorem hw_42 (hi : i < 16) : pm_ast (hp D o c) 42 (wn i) v = some (hp (wst D 42 i v) o c) := whp_ast (n := 16) rfl hi (by decide)
theorem hl_42 : pm_len X (hp D o c) 42 = some (wn 16) := whp_len (n := 16) rfl (by decide)
theorem ha_43 (hi : i < 16) : pm_ald X (hp D o c) 43 (wn i) = some (D 43 i) := whp_ald (n := 16) rfl (by decide) hi (by decide)
theorem hw_43 (hi : i < 16) : pm_ast (hp D o c) 43 (wn i) v = some (hp (wst D 43 i v) o c) := whp_ast (n := 16) rfl hi (by decide)
theorem hl_43 : pm_len X (hp D o c) 43 = some (wn 16) := whp_len (n := 16) rfl (by decide)
theorem ha_44 (hi : i < 16) : pm_ald X (hp D o c) 44 (wn i) = some (D 44 i) := whp_ald (n := 16) rfl (by decide) hi (by decide)
theorem hw_44 (hi : i < 16) : pm_ast (hp D o c) 44 (wn i) v = some (hp (wst D 44 i v) o c) := whp_ast (n := 16) rfl hi (by decide)
theorem hl_44 : pm_len X (hp D o c) 44 = some (wn 16) := whp_len (n := 16) rfl (by decide)
theorem hf_45_0 : pm_fld (hp D o c) 45 3 0 = some (.ref 46) := whp_fr (sl := _) rfl rfl
theorem hf_45_1 : pm_fld (hp D o c) 45 3 1 = some (.ref 47) := whp_fr (sl := _) rfl rfl
theorem hf_45_2 : pm_fld (hp D o c) 45 3 2 = some (.ref 48) := whp_fr (sl := _) rfl rfl
theorem hf_45_3 : pm_fld (hp D o c) 45 3 3 = some (.ref 49) := whp_fr (sl := _) rfl rfl
theorem hf_45_4 : pm_fld (hp D o c) 45 3 4 = some (.int (D 45 4)) := whp_fi (sl := _) rfl rfl
theorem hs_45_4 : pm_put (hp D o c) 45 3 4 (.int v) = some (hp (wst D 45 4 v) o c) := whp_put (sl := _) rfl rfl
theorem hf_45_5 : pm_fld (hp D o c) 45 3 5 = some (.int (D 45 5)) := whp_fi (sl := _) rfl rfl
theorem hs_45_5 : pm_put (hp D o c) 45 3 5 (.int v) = some (hp (wst D 45 5 v) o c) := whp_put (sl := _) rfl rfl
theorem hc_45 : pm_isC (hp D o c) 45 3 = true := whp_isC (sl := _) rfl
theorem ha_46 (hi : i < 12) : pm_ald X (hp D o c) 46 (wn i) = some (D 46 i) := whp_ald (n := 12) rfl (by decide) hi (by decide)
theorem hw_46 (hi : i < 12) : pm_ast (hp D o c) 46 (wn i) v = some (hp (wst D 46 i v) o c) := whp_ast (n := 12) rfl hi (by decide)
theorem hl_46 : pm_len X (hp D o c) 46 = some (wn 12) := whp_len (n := 12) rfl (by decide)
theorem ha_47 (hi : i < 12) : pm_ald X (hp D o c) 47 (wn i) = some (D 47 i) := whp_ald (n := 12) rfl (by decide) hi (by decide)
theorem hw_47 (hi : i < 12) : pm_ast (hp D o c) 47 (wn i) v = some (hp (wst D 47 i v) o c) := whp_ast (n := 12) rfl hi (by decide)
theorem hl_47 : pm_len X (hp D o c) 47 = some (wn 12) := whp_len (n := 12) rfl (by decide)
theorem ha_48 (hi : i < 400) : pm_ald X (hp D o c) 48 (wn i) = some (D 48 i) := whp_ald (n := 400) rfl (by decide) hi (by decide)
theorem hw_48 (hi : i < 400) : pm_ast (hp D o c) 48 (wn i) v = some (hp (wst D 48 i v) o c) := whp_ast (n := 400) rfl hi (by decide)
theorem hl_48 : pm_len X (hp D o c) 48 = some (wn 400) := whp_len (n := 400) rfl (by decide)
theorem ha_49 (hi : i < 40) : pm_ald X (hp D o c) 49 (wn i) = some (D 49 i) := whp_ald (n := 40) rfl (by decide) hi (by decide)
theorem hw_49 (hi : i < 40) : pm_ast (hp D o c) 49 (wn i) v = some (hp (wst D 49 i v) o c) := whp_ast (n := 40) rfl hi (by decide)
theorem hl_49 : pm_len X (hp D o c) 49 = some (wn 40) := whp_len (n := 40) rfl (by decide)
theorem hf_50_0 : pm_fld (hp D o c) 50 9 0 = some (.ref 51) := whp_fr (sl := _) rfl rfl
theorem hf_50_1 : pm_fld (hp D o c) 50 9 1 = some (.ref 52) := whp_fr (sl := _) rfl rfl
theorem hf_50_2 : pm_fld (hp D o c) 50 9 2 = some (.ref 53) := whp_fr (sl := _) rfl rfl
theorem hf_50_3 : pm_fld (hp D o c) 50 9 3 = some (.ref 54) := whp_fr (sl := _) rfl rfl
theorem hf_50_4 : pm_fld (hp D o c) 50 9 4 = some (.ref 55) := whp_fr (sl := _) rfl rfl
theorem hf_50_5 : pm_fld (hp D o c) 50 9 5 = some (.int (D 50 5)) := whp_fi (sl := _) rfl rfl
theorem hs_50_5 : pm_put (hp D o c) 50 9 5 (.int v) = some (hp (wst D 50 5 v) o c) := whp_put (sl := _) rfl rfl
theorem hc_50 : pm_isC (hp D o c) 50 9 = true := whp_isC (sl := _) rfl
theorem ha_51 (hi : i < 40) : pm_ald X (hp D o c) 51 (wn i) = some (D 51 i) := whp_ald (n := 40) rfl (by decide) hi (by decide)
theorem hw_51 (hi : i < 40) : pm_ast (hp D o c) 51 (wn i) v = some (hp (wst D 51 i v) o c) := whp_ast (n := 40) rfl hi (by decide)
theorem hl_51 : pm_len X (hp D o c) 51 = some (wn 40) := whp_len (n := 40) rfl (by decide)
theorem ha_52 (hi : i < 40) : pm_ald X (hp D o c) 52 (wn i) = some (D 52 i) := whp_ald (n := 40) rfl (by decide) hi (by decide)
theorem hw_52 (hi : i < 40) : pm_ast (hp D o c) 52 (wn i) v = some (hp (wst D 52 i v) o c) := whp_ast (n := 40) rfl hi (by decide)
theorem hl_52 : pm_len X (hp D o c) 52 = some (wn 40) := whp_len (n := 40) rfl (by decide)
theorem ha_53 (hi : i < 40) : pm_ald X (hp D o c) 53 (wn i) = some (D 53 i) := whp_ald (n := 40) rfl (by decide) hi (by decide)
theorem hw_53 (hi : i < 40) : pm_ast (hp D o c) 53 (wn i) v = some (hp (wst D 53 i v) o c) := whp_ast (n := 40) rfl hi (by decide)
theorem hl_53 : pm_len X (hp D o c) 53 = some (wn 40) := whp_len (n := 40) rfl (by decide)
theorem ha_54 (hi : i < 40) : pm_ald X (hp D o c) 54 (wn i) = some (D 54 i) := whp_ald (n := 40) rfl (by decide) hi (by decide)
theorem hw_54 (hi : i < 40) : pm_ast (hp D o c) 54 (wn i) v = some (hp (wst D 54 i v) o c) := whp_ast (n := 40) rfl hi (by decide)
theorem hl_54 : pm_len X (hp D o c) 54 = some (wn 40) := whp_len (n := 40) rfl (by decide)
theorem ha_55 (hi : i < 40) : pm_ald X (hp D o c) 55 (wn i) = some (D 55 i) := whp_ald (n := 40) rfl (by decide) hi (by decide)
theorem hw_55 (hi : i < 40) : pm_ast (hp D o c) 55 (wn i) v = some (hp (wst D 55 i v) o c) := whp_ast (n := 40) rfl hi (by decide)
theorem hl_55 : pm_len X (hp D o c) 55 = some (wn 40) := whp_len (n := 40) rfl (by decide)
theorem ha_56 (hi : i < 3) : pm_ald X (hp D o c) 56 (wn i) = some (D 56 i) := whp_ald (n := 3) rfl (by decide) hi (by decide)
theorem hw_56 (hi : i < 3) : pm_ast (hp D o c) 56 (wn i) v = some (hp (wst D 56 i v) o c) := whp_ast (n := 3) rfl hi (by decide)
theorem hl_56 : pm_len X (hp D o c) 56 = some (wn 3) := whp_len (n := 3) rfl (by decide)
theorem ha_57 (hi : i < 3) : pm_ald X (hp D o c) 57 (wn i) = some (D 57 i) := whp_ald (n := 3) rfl (by decide) hi (by decide)
theorem hw_57 (hi : i < 3) : pm_ast (hp D o c) 57 (wn i) v = some (hp (wst D 57 i v) o c) := whp_ast (n := 3) rfl hi (by decide)
theorem hl_57 : pm_len X (hp D o c) 57 = some (wn 3) := whp_len (n := 3) rfl (by decide)
theorem ha_58 (hi : i < 12) : pm_ald X (hp D o c) 58 (wn i) = some (D 58 i) := whp_ald (n := 12) rfl (by decide) hi (by decide)
theorem hw_58 (hi : i < 12) : pm_ast (hp D o c) 58 (wn i) v = some (hp (wst D 58 i v) o c) := whp_ast (n := 12) rfl hi (by decide)
theorem hl_58 : pm_len X (hp D o c) 58 = some (wn 12) := whp_len (n := 12) rfl (by decide)
theorem hf_59_0 : pm_fld (hp D o c) 59 7 0 = some (.ref 60) := whp_fr (sl := _) rfl rfl
theorem hf_59_1 : pm_fld (hp D o c) 59 7 1 = some (.ref 69) := whp_fr (sl := _) rfl rfl
theorem hf_59_2 : pm_fld (hp D o c) 59 7 2 = some (.ref 74) := whp_fr (sl := _) rfl rfl
theorem hf_59_3 : pm_fld (hp D o c) 59 7 3 = some (.ref 80) := whp_fr (sl := _) rfl rfl
theorem hf_59_4 : pm_fld (hp D o c) 59 7 4 = some (.ref 81) := whp_fr (sl := _) rfl rfl
theorem hf_59_5 : pm_fld (hp D o c) 59 7 5 = some (.ref 82) := whp_fr (sl := _) rfl rfl
theorem hf_59_6 : pm_fld (hp D o c) 59 7 6 = some (.int (D 59 6)) := whp_fi (sl := _) rfl rfl
theorem hs_59_6 : pm_put (hp D o c) 59 7 6 (.int v) = some (hp (wst D 59 6 v) o c) := whp_put (sl := _) rfl rfl
theorem hf_59_7 : pm_fld (hp D o c) 59 7 7 = some (.int (D 59 7)) := whp_fi (sl := _) rfl rfl
theorem hs_59_7 : pm_put (hp D o c) 59 7 7 (.int v) = some (hp (wst D 59 7 v) o c) := whp_put (sl := _) rfl rfl
theorem hf_59_8 : pm_fld (hp D o c) 59 7 8 = some (.int (D 59 8)) := whp_fi (sl := _) rfl rfl
theorem hs_59_8 : pm_put (hp D o c) 59 7 8 (.int v) = some (hp (wst D 59 8 v) o c) := whp_put (sl := _) rfl rfl
theorem hf_59_9 : pm_fld (hp D o c) 59 7 9 = some (.int (D 59 9)) := whp_fi (sl := _) rfl rfl
theorem hs_59_9 : pm_put (hp D o c) 59 7 9 (.int v) = some (hp (wst D 59 9 v) o c) := whp_put (sl := _) rfl rfl
theorem hf_59_10 : pm_fld (hp D o c) 59 7 10 = some (.int (D 59 10)) := whp_fi (sl := _) rfl rfl
theorem hs_59_10 : pm_put (hp D o c) 59 7 10 (.int v) = some (hp (wst D 59 10 v) o c) := whp_put (sl := _) rfl rfl
theorem hf_59_11 : pm_fld (hp D o c) 59 7 11 = some (.int (D 59 11)) := whp_fi (sl := _) rfl rfl
theorem hs_59_11 : pm_put (hp D o c) 59 7 11 (.int v) = some (hp (wst D 59 11 v) o c) := whp_put (sl := _) rfl rfl
theorem hf_59_12 : pm_fld (hp D o c) 59 7 12 = some (.int (D 59 12)) := whp_fi (sl := _) rfl rfl
theorem hs_59_12 : pm_put (hp D o c) 59 7 12 (.int v) = some (hp (wst D 59 12 v) o c) := whp_put (sl := _) rfl rfl
theorem hf_59_13 : pm_fld (hp D o c) 59 7 13 = some (.int (D 59 13)) := whp_fi (sl := _) rfl rfl
theorem hs_59_13 : pm_put (hp D o c) 59 7 13 (.int v) = some (hp (wst D 59 13 v) o c) := whp_put (sl := _) rfl rfl
theorem hf_59_14 : pm_fld (hp D o c) 59 7 14 = some (.int (D 59 14)) := whp_fi (sl := _) rfl rfl
theorem hs_59_14 : pm_put (hp D o c) 59 7 14 (.int v) = some (hp (wst D 59 14 v) o c) := whp_put (sl := _) rfl rfl
theorem hf_59_15 : pm_fld (hp D o c) 59 7 15 = some (.int (D 59 15)) := whp_fi (sl := _) rfl rfl
theorem hs_59_15 : pm_put (hp D o c) 59 7 15 (.int v) = some (hp (wst D 59 15 v) o c) := whp_put (sl := _) rfl rfl
theorem hf_59_16 : pm_fld (hp D o c) 59 7 16 = some (.int (D 59 16)) := whp_fi (sl := _) rfl rfl
theorem hs_59_16 : pm_put (hp D o c) 59 7 16 (.int v) = some (hp (wst D 59 16 v) o c) := whp_put (sl := _) rfl rfl
theorem hc_59 : pm_isC (hp D o c) 59 7 = true := whp_isC (sl := _) rfl
theorem hf_60_0 : pm_fld (hp D o c) 60 0 0 = some (.ref 61) := whp_fr (sl := _) rfl rfl
theorem hf_60_1 : pm_fld (hp D o c) 60 0 1 = some (.ref 62) := whp_fr (sl := _) rfl rfl
theorem hf_60_2 : pm_fld (hp D o c) 60 0 2 = some (.ref 63) := whp_fr (sl := _) rfl rfl
theorem hf_60_3 : pm_fld (hp D o c) 60 0 3 = some (.ref 64) := whp_fr (sl := _) rfl rfl
theorem hf_60_4 : pm_fld (hp D o c) 60 0 4 = some (.ref 65) := whp_fr (sl := _) rfl rfl
theorem hf_60_5 : pm_fld (hp D o c) 60 0 5 = some (.ref 66) := whp_fr (sl := _) rfl rfl
theorem hf_60_6 : pm_fld (hp D o c) 60 0 6 = some (.ref 67) := whp_fr (sl := _) rfl rfl
theorem hf_60_7 : pm_fld (hp D o c) 60 0 7 = some (.ref 68) := whp_fr (sl := _) rfl rfl
theorem hf_60_8 : pm_fld (hp D o c) 60 0 8 = some (.int (D 60 8)) := whp_fi (sl := _) rfl rfl
theorem hs_60_8 : pm_put (hp D o c) 60 0 8 (.int v) = some (hp (wst D 60 8 v) o c) := whp_put (sl := _) rfl rfl
theorem hf_60_9 : pm_fld (hp D o c) 60 0 9 = some (.int (D 60 9)) := whp_fi (sl := _) rfl rfl
theorem hs_60_9 : pm_put (hp D o c) 60 0 9 (.int v) = some (hp (wst D 60 9 v) o c) := whp_put (sl := _) rfl rfl
theorem hc_60 : pm_isC (hp D o c) 60 0 = true := whp_isC (sl := _) rfl
theorem ha_61 (hi : i < 16) : pm_ald X (hp D o c) 61 (wn i) = some (D 61 i) := whp_ald (n := 16) rfl (by decide) hi (by decide)
theorem hw_61 (hi : i < 16) : pm_ast (hp D o c) 61 (wn i) v = some (hp (wst D 61 i v) o c) := whp_ast (n := 16) rfl hi (by decide)
theorem hl_61 : pm_len X (hp D o c) 61 = some (wn 16) := whp_len (n := 16) rfl (by decide)
theorem ha_62 (hi : i < 16) : pm_ald X (hp D o c) 62 (wn i) = some (D 62 i) := whp_ald (n := 16) rfl (by decide) hi (by decide)
theorem hw_62 (hi : i < 16) : pm_ast (hp D o c) 62 (wn i) v = some (hp (wst D 62 i v) o c) := whp_ast (n := 16) rfl hi (by decide)
theorem hl_62 : pm_len X (hp D o c) 62 = some (wn 16) := whp_len (n := 16) rfl (by decide)
theorem ha_63 (hi : i < 16) : pm_ald X (hp D o c) 63 (wn i) = some (D 63 i) := whp_ald (n := 16) rfl (by decide) hi (by decide)
theorem hw_63 (hi : i < 16) : pm_ast (hp D o c) 63 (wn i) v = some (hp (wst D 63 i v) o c) := whp_ast (n := 16) rfl hi (by decide)
theorem hl_63 : pm_len X (hp D o c) 63 = some (wn 16) := whp_len (n := 16) rfl (by decide)
theorem ha_64 (hi : i < 16) : pm_ald X (hp D o c) 64 (wn i) = some (D 64 i) := whp_ald (n := 16) rfl (by decide) hi (by decide)
theorem hw_64 (hi : i < 16) : pm_ast (hp D o c) 64 (wn i) v = some (hp (wst D 64 i v) o c) := whp_ast (n := 16) rfl hi (by decide)
theorem hl_64 : pm_len X (hp D o c) 64 = some (wn 16) := whp_len (n := 16) rfl (by decide)
theorem ha_65 (hi : i < 16) : pm_ald X (hp D o c) 65 (wn i) = some (D 65 i) := whp_ald (n := 16) rfl (by decide) hi (by decide)
theorem hw_65 (hi : i < 16) : pm_ast (hp D o c) 65 (wn i) v = some (hp (wst D 65 i v) o c) := whp_ast (n := 16) rfl hi (by decide)
theorem hl_65 : pm_len X (hp D o c) 65 = some (wn 16) := whp_len (n := 16) rfl (by decide)
theorem ha_66 (hi : i < 16) : pm_ald X (hp D o c) 66 (wn i) = some (D 66 i) := whp_ald (n := 16) rfl (by decide) hi (by decide)
theorem hw_66 (hi : i < 16) : pm_ast (hp D o c) 66 (wn i) v = some (hp (wst D 66 i v) o c) := whp_ast (n := 16) rfl hi (by decide)
theorem hl_66 : pm_len X (hp D o c) 66 = some (wn 16) := whp_len (n := 16) rfl (by decide)
theorem ha_67 (hi : i < 16) : pm_ald X (hp D o c) 67 (wn i) = some (D 67 i) := whp_ald (n := 16) rfl (by decide) hi (by decide)
theorem hw_67 (hi : i < 16) : pm_ast (hp D o c) 67 (wn i) v = some (hp (wst D 67 i v) o c) := whp_ast (n := 16) rfl hi (by decide)
theorem hl_67 : pm_len X (hp D o c) 67 = some (wn 16) := whp_len (n := 16) rfl (by decide)
theorem ha_68 (hi : i < 16) : pm_ald X (hp D o c) 68 (wn i) = some (D 68 i) := whp_ald (n := 16) rfl (by decide) hi (by decide)
theorem hw_68 (hi : i < 16) : pm_ast (hp D o c) 68 (wn i) v = some (hp (wst D 68 i v) o c) := whp_ast (n := 16) rfl hi (by decide)
theorem hl_68 : pm_len X (hp D o c) 68 = some (wn 16) := whp_len (n := 16) rfl (by decide)
theorem hf_69_0 : pm_fld (hp D o c) 69 3 0 = some (.ref 70) := whp_fr (sl := _) rfl rfl
theorem hf_69_1 : pm_fld (hp D o c) 69 3 1 = some (.ref 71) := whp_fr (sl := _) rfl rfl
theorem hf_69_2 : pm_fld (hp D o c) 69 3 2 = some (.ref 72) := whp_fr (sl := _) rfl rfl
theorem hf_69_3 : pm_fld (hp D o c) 69 3 3 = some (.ref 73) := whp_fr (sl := _) rfl rfl
theorem hf_69_4 : pm_fld (hp D o c) 69 3 4 = some (.int (D 69 4)) := whp_fi (sl := _) rfl rfl
theorem hs_69_4 : pm_put (hp D o c) 69 3 4 (.int v) = some (hp (wst D 69 4 v) o c) := whp_put (sl := _) rfl rfl
theorem hf_69_5 : pm_fld (hp D o c) 69 3 5 = some (.int (D 69 5)) := whp_fi (sl := _) rfl rfl
theorem hs_69_5 : pm_put (hp D o c) 69 3 5 (.int v) = some (hp (wst D 69 5 v) o c) := whp_put (sl := _) rfl rfl
theorem hc_69 : pm_isC (hp D o c) 69 3 = true := whp_isC (sl := _) rfl
theorem ha_70 (hi : i < 12) : pm_ald X (hp D o c) 70 (wn i) = some (D 70 i) := whp_ald (n := 12) rfl (by decide) hi (by decide)
theorem hw_70 (hi : i < 12) : pm_ast (hp D o c) 70 (wn i) v = some (hp (wst D 70 i v) o c) := whp_ast (n := 12) rfl hi (by decide)
theorem hl_70 : pm_len X (hp D o c) 70 = some (wn 12) := whp_len (n := 12) rfl (by decide)
theorem ha_71 (hi : i < 12) : pm_ald X (hp D o c) 71 (wn i) = some (D 71 i) := whp_ald (n := 12) rfl (by decide) hi (by decide)
theorem hw_71 (hi : i < 12) : pm_ast (hp D o c) 71 (wn i) v = some (hp (wst D 71 i v) o c) := whp_ast (n := 12) rfl hi (by decide)
theorem hl_71 : pm_len X (hp D o c) 71 = some (wn 12) := whp_len (n := 12) rfl (by decide)
theorem ha_72 (hi : i < 400) : pm_ald X (hp D o c) 72 (wn i) = some (D 72 i) := whp_ald (n := 400) rfl (by decide) hi (by decide)
theorem hw_72 (hi : i < 400) : pm_ast (hp D o c) 72 (wn i) v = some (hp (wst D 72 i v) o c) := whp_ast (n := 400) rfl hi (by decide)
theorem hl_72 : pm_len X (hp D o c) 72 = some (wn 400) := whp_len (n := 400) rfl (by decide)
theorem ha_73 (hi : i < 40) : pm_ald X (hp D o c) 73 (wn i) = some (D 73 i) := whp_ald (n := 40) rfl (by decide) hi (by decide)
theorem hw_73 (hi : i < 40) : pm_ast (hp D o c) 73 (wn i) v = some (hp (wst D 73 i v) o c) := whp_ast (n := 40) rfl hi (by decide)
theorem hl_73 : pm_len X (hp D o c) 73 = some (wn 40) := whp_len (n := 40) rfl (by decide)
theorem hf_74_0 : pm_fld (hp D o c) 74 9 0 = some (.ref 75) := whp_fr (sl := _) rfl rfl
theorem hf_74_1 : pm_fld (hp D o c) 74 9 1 = some (.ref 76) := whp_fr (sl := _) rfl rfl
theorem hf_74_2 : pm_fld (hp D o c) 74 9 2 = some (.ref 77) := whp_fr (sl := _) rfl rfl
theorem hf_74_3 : pm_fld (hp D o c) 74 9 3 = some (.ref 78) := whp_fr (sl := _) rfl rfl
theorem hf_74_4 : pm_fld (hp D o c) 74 9 4 = some (.ref 79) := whp_fr (sl := _) rfl rfl
theorem hf_74_5 : pm_fld (hp D o c) 74 9 5 = some (.int (D 74 5)) := whp_fi (sl := _) rfl rfl
theorem hs_74_5 : pm_put (hp D o c) 74 9 5 (.int v) = some (hp (wst D 74 5 v) o c) := whp_put (sl := _) rfl rfl
theorem hc_74 : pm_isC (hp D o c) 74 9 = true := whp_isC (sl := _) rfl
theorem ha_75 (hi : i < 40) : pm_ald X (hp D o c) 75 (wn i) = some (D 75 i) := whp_ald (n := 40) rfl (by decide) hi (by decide)
theorem hw_75 (hi : i < 40) : pm_ast (hp D o c) 75 (wn i) v = some (hp (wst D 75 i v) o c) := whp_ast (n := 40) rfl hi (by decide)
theorem hl_75 : pm_len X (hp D o c) 75 = some (wn 40) := whp_len (n := 40) rfl (by decide)
theorem ha_76 (hi : i < 40) : pm_ald X (hp D o c) 76 (wn i) = some (D 76 i) := whp_ald (n := 40) rfl (by decide) hi (by decide)
theorem hw_76 (hi : i < 40) : pm_ast (hp D o c) 76 (wn i) v = some (hp (wst D 76 i v) o c) := whp_ast (n := 40) rfl hi (by decide)
theorem hl_76 : pm_len X (hp D o c) 76 = some (wn 40) := whp_len (n := 40) rfl (by decide)
theorem ha_77 (hi : i < 40) : pm_ald X (hp D o c) 77 (wn i) = some (D 77 i) := whp_ald (n := 40) rfl (by decide) hi (by decide)
theorem hw_77 (hi : i < 40) : pm_ast (hp D o c) 77 (wn i) v = some (hp (wst D 77 i v) o c) := whp_ast (n := 40) rfl hi (by decide)
theorem hl_77 : pm_len X (hp D o c) 77 = some (wn 40) := whp_len (n := 40) rfl (by decide)
theorem ha_78 (hi : i < 40) : pm_ald X (hp D o c) 78 (wn i) = some (D 78 i) := whp_ald (n := 40) rfl (by decide) hi (by decide)
theorem hw_78 (hi : i < 40) : pm_ast (hp D o c) 78 (wn i) v = some (hp (wst D 78 i v) o c) := whp_ast (n := 40) rfl hi (by decide)
theorem hl_78 : pm_len X (hp D o c) 78 = some (wn 40) := whp_len (n := 40) rfl (by decide)
theorem ha_79 (hi : i < 40) : pm_ald X (hp D o c) 79 (wn i) = some (D 79 i) := whp_ald (n := 40) rfl (by decide) hi (by decide)
theorem hw_79 (hi : i < 40) : pm_ast (hp D o c) 79 (wn i) v = some (hp (wst D 79 i v) o c) := whp_ast (n := 40) rfl hi (by decide)
theorem hl_79 : pm_len X (hp D o c) 79 = some (wn 40) := whp_len (n := 40) rfl (by decide)
theorem ha_80 (hi : i < 3) : pm_ald X (hp D o c) 80 (wn i) = some (D 80 i) := whp_ald (n := 3) rfl (by decide) hi (by decide)
theorem hw_80 (hi : i < 3) : pm_ast (hp D o c) 80 (wn i) v = some (hp (wst D 80 i v) o c) := whp_ast (n := 3) rfl hi (by decide)
theorem hl_80 : pm_len X (hp D o c) 80 = some (wn 3) := whp_len (n := 3) rfl (by decide)
theorem ha_81 (hi : i < 3) : pm_ald X (hp D o c) 81 (wn i) = some (D 81 i) := whp_ald (n := 3) rfl (by decide) hi (by decide)
theorem hw_81 (hi : i < 3) : pm_ast (hp D o c) 81 (wn i) v = some (hp (wst D 81 i v) o c) := whp_ast (n := 3) rfl hi (by decide)
theorem hl_81 : pm_len X (hp D o c) 81 = some (wn 3) := whp_len (n := 3) rfl (by decide)
theorem ha_82 (hi : i < 12) : pm_ald X (hp D o c) 82 (wn i) = some (D 82 i) := whp_ald (n := 12) rfl (by decide) hi (by decide)
theorem hw_82 (hi : i < 12) : pm_ast (hp D o c) 82 (wn i) v = some (hp (wst D 82 i v) o c) := whp_ast (n := 12) rfl hi (by decide)
theorem hl_82 : pm_len X (hp D o c) 82 = some (wn 12) := whp_len (n := 12) rfl (by decide)
theorem hf_83_0 : pm_fld (hp D o c) 83 1 0 = some (.ref 84) := whp_fr (sl := _) rfl rfl
theorem hf_83_1 : pm_fld (hp D o c) 83 1 1 = some (.int (D 83 1)) := whp_fi (sl := _) rfl rfl
theorem hs_83_1 : pm_put (hp D o c) 83 1 1 (.int v) = some (hp (wst D 83 1 v) o c) := whp_put (sl := _) rfl rfl
theorem hf_83_2 : pm_fld (hp D o c) 83 1 2 = some (.int (D 83 2)) := whp_fi (sl := _) rfl rfl
theorem hs_83_2 : pm_put (hp D o c) 83 1 2 (.int v) = some (hp (wst D 83 2 v) o c) := whp_put (sl := _) rfl rfl
theorem hf_83_3 : pm_fld (hp D o c) 83 1 3 = some (.int (D 83 3)) := whp_fi (sl := _) rfl rfl
theorem hs_83_3 : pm_put (hp D o c) 83 1 3 (.int v) = some (hp (wst D 83 3 v) o c) := whp_put (sl := _) rfl rfl
theorem hc_83 : pm_isC (hp D o c) 83 1 = true := whp_isC (sl := _) rfl
theorem ha_84 (hi : i < 200) : pm_ald X (hp D o c) 84 (wn i) = some (D 84 i) := whp_ald (n := 200) rfl (by decide) hi (by decide)
theorem hw_84 (hi : i < 200) : pm_ast (hp D o c) 84 (wn i) v = some (hp (wst D 84 i v) o c) := whp_ast (n := 200) rfl hi (by decide)
theorem hl_84 : pm_len X (hp D o c) 84 = some (wn 200) := whp_len (n := 200) rfl (by decide)
theorem hf_85_0 : pm_fld (hp D o c) 85 5 0 = some (.int (D 85 0)) := whp_fi (sl := _) rfl rfl
theorem hs_85_0 : pm_put (hp D o c) 85 5 0 (.int v) = some (hp (wst D 85 0 v) o c) := whp_put (sl := _) rfl rfl
theorem hf_85_1 : pm_fld (hp D o c) 85 5 1 = some (.int (D 85 1)) := whp_fi (sl := _) rfl rfl
theorem hs_85_1 : pm_put (hp D o c) 85 5 1 (.int v) = some (hp (wst D 85 1 v) o c) := whp_put (sl := _) rfl rfl
theorem hf_85_2 : pm_fld (hp D o c) 85 5 2 = some (.int (D 85 2)) := whp_fi (sl := _) rfl rfl
theorem hs_85_2 : pm_put (hp D o c) 85 5 2 (.int v) = some (hp (wst D 85 2 v) o c) := whp_put (sl := _) rfl rfl
theorem hf_85_3 : pm_fld (hp D o c) 85 5 3 = some (.int (D 85 3)) := whp_fi (sl := _) rfl rfl
theorem hs_85_3 : pm_put (hp D o c) 85 5 3 (.int v) = some (hp (wst D 85 3 v) o c) := whp_put (sl := _) rfl rfl
theorem hc_85 : pm_isC (hp D o c) 85 5 = true := whp_isC (sl := _) rfl
theorem hf_86_0 : pm_fld (hp D o c) 86 10 0 = some (.ref 87) := whp_fr (sl := _) rfl rfl
theorem hf_86_1 : pm_fld (hp D o c) 86 10 1 = some (.ref 88) := whp_fr (sl := _) rfl rfl
theorem hf_86_2 : pm_fld (hp D o c) 86 10 2 = some (.int (D 86 2)) := whp_fi (sl := _) rfl rfl
theorem hs_86_2 : pm_put (hp D o c) 86 10 2 (.int v) = some (hp (wst D 86 2 v) o c) := whp_put (sl := _) rfl rfl
theorem hc_86 : pm_isC (hp D o c) 86 10 = true := whp_isC (sl := _) rfl
theorem ha_87 (hi : i < 78) : pm_ald X (hp D o c) 87 (wn i) = some (D 87 i) := whp_ald (n := 78) rfl (by decide) hi (by decide)
theorem hw_87 (hi : i < 78) : pm_ast (hp D o c) 87 (wn i) v = some (hp (wst D 87 i v) o c) := whp_ast (n := 78) rfl hi (by decide)
theorem hl_87 : pm_len X (hp D o c) 87 = some (wn 78) := whp_len (n := 78) rfl (by decide)
theorem ha_88 (hi : i < 13) : pm_ald X (hp D o c) 88 (wn i) = some (D 88 i) := whp_ald (n := 13) rfl (by decide) hi (by decide)
theorem hw_88 (hi : i < 13) : pm_ast (hp D o c) 88 (wn i) v = some (hp (wst D 88 i v) o c) := whp_ast (n := 13) rfl hi (by decide)
theorem hl_88 : pm_len X (hp D o c) 88 = some (wn 13) := whp_len (n := 13) rfl (by decide)
theorem ha_89 (hi : i < 8) : pm_ald X (hp D o c) 89 (wn i) = some (D 89 i) := whp_ald (n := 8) rfl (by decide) hi (by decide)
theorem hw_89 (hi : i < 8) : pm_ast (hp D o c) 89 (wn i) v = some (hp (wst D 89 i v) o c) := whp_ast (n := 8) rfl hi (by decide)
theorem hl_89 : pm_len X (hp D o c) 89 = some (wn 8) := whp_len (n := 8) rfl (by decide)
theorem hf_90_0 : pm_fld (hp D o c) 90 12 0 = some (.int (D 90 0)) := whp_fi (sl := _) rfl rfl
theorem hs_90_0 : pm_put (hp D o c) 90 12 0 (.int v) = some (hp (wst D 90 0 v) o c) := whp_put (sl := _) rfl rfl
theorem hf_90_1 : pm_fld (hp D o c) 90 12 1 = some (.ref 91) := whp_fr (sl := _) rfl rfl
theorem hf_90_2 : pm_fld (hp D o c) 90 12 2 = some (.ref 92) := whp_fr (sl := _) rfl rfl
theorem hf_90_3 : pm_fld (hp D o c) 90 12 3 = some (.int (D 90 3)) := whp_fi (sl := _) rfl rfl
theorem hs_90_3 : pm_put (hp D o c) 90 12 3 (.int v) = some (hp (wst D 90 3 v) o c) := whp_put (sl := _) rfl rfl
theorem hf_90_4 : pm_fld (hp D o c) 90 12 4 = some (.ref 93) := whp_fr (sl := _) rfl rfl
theorem hf_90_5 : pm_fld (hp D o c) 90 12 5 = some (.ref 94) := whp_fr (sl := _) rfl rfl
theorem hf_90_6 : pm_fld (hp D o c) 90 12 6 = some (.int (D 90 6)) := whp_fi (sl := _) rfl rfl
theorem hs_90_6 : pm_put (hp D o c) 90 12 6 (.int v) = some (hp (wst D 90 6 v) o c) := whp_put (sl := _) rfl rfl
theorem hf_90_7 : pm_fld (hp D o c) 90 12 7 = some (.int (D 90 7)) := whp_fi (sl := _) rfl rfl
theorem hs_90_7 : pm_put (hp D o c) 90 12 7 (.int v) = some (hp (wst D 90 7 v) o c) := whp_put (sl := _) rfl rfl
theorem hf_90_8 : pm_fld (hp D o c) 90 12 8 = some (.int (D 90 8)) := whp_fi (sl := _) rfl rfl
theorem hs_90_8 : pm_put (hp D o c) 90 12 8 (.int v) = some (hp (wst D 90 8 v) o c) := whp_put (sl := _) rfl rfl
theorem hf_90_9 : pm_fld (hp D o c) 90 12 9 = some (.int (D 90 9)) := whp_fi (sl := _) rfl rfl
theorem hs_90_9 : pm_put (hp D o c) 90 12 9 (.int v) = some (hp (wst D 90 9 v) o c) := whp_put (sl := _) rfl rfl
theorem hf_90_10 : pm_fld (hp D o c) 90 12 10 = some (.int (D 90 10)) := whp_fi (sl := _) rfl rfl
theorem hs_90_10 : pm_put (hp D o c) 90 12 10 (.int v) = some (hp (wst D 90 10 v) o c) := whp_put (sl := _) rfl rfl
theorem hf_90_11 : pm_fld (hp D o c) 90 12 11 = some (.int (D 90 11)) := whp_fi (sl := _) rfl rfl
theorem hs_90_11 : pm_put (hp D o c) 90 12 11 (.int v) = some (hp (wst D 90 11 v) o c) := whp_put (sl := _) rfl rfl
theorem hf_90_12 : pm_fld (hp D o c) 90 12 12 = some (.ref 95) := whp_fr (sl := _) rfl rfl
theorem hf_90_13 : pm_fld (hp D o c) 90 12 13 = some (.int (D 90 13)) := whp_fi (sl := _) rfl rfl
theorem hs_90_13 : pm_put (hp D o c) 90 12 13 (.int v) = some (hp (wst D 90 13 v) o c) := whp_put (sl := _) rfl rfl
theorem hf_90_14 : pm_fld (hp D o c) 90 12 14 = some (.int (D 90 14)) := whp_fi (sl := _) rfl rfl
theorem hs_90_14 : pm_put (hp D o c) 90 12 14 (.int v) = some (hp (wst D 90 14 v) o c) := whp_put (sl := _) rfl rfl
theorem hf_90_15 : pm_fld (hp D o c) 90 12 15 = some (.int (D 90 15)) := whp_fi (sl := _) rfl rfl
theorem hs_90_15 : pm_put (hp D o c) 90 12 15 (.int v) = some (hp (wst D 90 15 v) o c) := whp_put (sl := _) rfl rfl
theorem hf_90_16 : pm_fld (hp D o c) 90 12 16 = some (.int (D 90 16)) := whp_fi (sl := _) rfl rfl
theorem hs_90_16 : pm_put (hp D o c) 90 12 16 (.int v) = some (hp (wst D 90 16 v) o c) := whp_put (sl := _) rfl rfl
theorem hf_90_17 : pm_fld (hp D o c) 90 12 17 = some (.int (D 90 17)) := whp_fi (sl := _) rfl rfl
theorem hs_90_17 : pm_put (hp D o c) 90 12 17 (.int v) = some (hp (wst D 90 17 v) o c) := whp_put (sl := _) rfl rfl
theorem hf_90_18 : pm_fld (hp D o c) 90 12 18 = some (.int (D 90 18)) := whp_fi (sl := _) rfl rfl
theorem hs_90_18 : pm_put (hp D o c) 90 12 18 (.int v) = some (hp (wst D 90 18 v) o c) := whp_put (sl := _) rfl rfl
theorem hf_90_19 : pm_fld (hp D o c) 90 12 19 = some (.int (D 90 19)) := whp_fi (sl := _) rfl rfl
theorem hs_90_19 : pm_put (hp D o c) 90 12 19 (.int v) = some (hp (wst D 90 19 v) o c) := whp_put (sl := _) rfl rfl
theorem hf_90_20 : pm_fld (hp D o c) 90 12 20 = some (.int (D 90 20)) := whp_fi (sl := _) rfl rfl
theorem hs_90_20 : pm_put (hp D o c) 90 12 20 (.int v) = some (hp (wst D 90 20 v) o c) := whp_put (sl := _) rfl rfl
theorem hf_90_21 : pm_fld (hp D o c) 90 12 21 = some (.ref 96) := whp_fr (sl := _) rfl rfl
theorem hc_90 : pm_isC (hp D o c) 90 12 = true := whp_isC (sl := _) rfl
theorem ha_91 (hi : i < 762) : pm_ald X (hp D o c) 91 (wn i) = some (D 91 i) := whp_ald (n := 762) rfl (by decide) hi (by decide)
theorem hw_91 (hi : i < 762) : pm_ast (hp D o c) 91 (wn i) v = some (hp (wst D 91 i v) o c) := whp_ast (n := 762) rfl hi (by decide)
theorem hl_91 : pm_len X (hp D o c) 91 = some (wn 762) := whp_len (n := 762) rfl (by decide)
theorem ha_92 (hi : i < 762) : pm_ald X (hp D o c) 92 (wn i) = some (D 92 i) := whp_ald (n := 762) rfl (by decide) hi (by decide)
theorem hw_92 (hi : i < 762) : pm_ast (hp D o c) 92 (wn i) v = some (hp (wst D 92 i v) o c) := whp_ast (n := 762) rfl hi (by decide)
theorem hl_92 : pm_len X (hp D o c) 92 = some (wn 762) := whp_len (n := 762) rfl (by decide)
theorem ha_93 (hi : i < 362) : pm_ald X (hp D o c) 93 (wn i) = some (D 93 i) := whp_ald (n := 362) rfl (by decide) hi (by decide)
theorem hw_93 (hi : i < 362) : pm_ast (hp D o c) 93 (wn i) v = some (hp (wst D 93 i v) o c) := whp_ast (n := 362) rfl hi (by decide)
theorem hl_93 : pm_len X (hp D o c) 93 = some (wn 362) := whp_len (n := 362) rfl (by decide)
theorem ha_94 (hi : i < 400) : pm_ald X (hp D o c) 94 (wn i) = some (D 94 i) := whp_ald (n := 400) rfl (by decide) hi (by decide)
theorem hw_94 (hi : i < 400) : pm_ast (hp D o c) 94 (wn i) v = some (hp (wst D 94 i v) o c) := whp_ast (n := 400) rfl hi (by decide)
theorem hl_94 : pm_len X (hp D o c) 94 = some (wn 400) := whp_len (n := 400) rfl (by decide)
theorem ha_95 (hi : i < 6) : pm_ald X (hp D o c) 95 (wn i) = some (D 95 i) := whp_ald (n := 6) rfl (by decide) hi (by decide)
theorem hw_95 (hi : i < 6) : pm_ast (hp D o c) 95 (wn i) v = some (hp (wst D 95 i v) o c) := whp_ast (n := 6) rfl hi (by decide)
theorem hl_95 : pm_len X (hp D o c) 95 = some (wn 6) := whp_len (n := 6) rfl (by decide)
theorem ha_96 (hi : i < 78) : pm_ald X (hp D o c) 96 (wn i) = some (D 96 i) := whp_ald (n := 78) rfl (by decide) hi (by decide)
theorem hw_96 (hi : i < 78) : pm_ast (hp D o c) 96 (wn i) v = some (hp (wst D 96 i v) o c) := whp_ast (n := 78) rfl hi (by decide)
theorem hl_96 : pm_len X (hp D o c) 96 = some (wn 78) := whp_len (n := 78) rfl (by decide)
end HPR
