/-! ===== bits of a number; sums of some ===== -/
/-- the bit k of a number of the machine -/
def wbt (x : Int32) (k : Nat) : Nat := x.toBitVec.toNat / 2 ^ k % 2
/-- the sum of f over the n from t on -/
def wsm (f : Nat → Nat) : Nat → Nat → Nat
  | 0, _ => 0
  | n + 1, t => f t + wsm f n (t + 1)
/-- how many of the n from t on -/
def wct (P : Nat → Bool) (n t : Nat) : Nat := wsm (fun k => if P k then 1 else 0) n t
section BT2
variable {x y : Int32} {k n t j N : Nat} {f g : Nat → Nat} {P Q : Nat → Bool}
theorem w_shk : ∀ k, k < 32 → (wn k &&& 31).toBitVec.smod 32 = BitVec.ofNat 32 k := by decide +kernel
theorem w_bit (hk : k < 32) : x >>> (wn k &&& 31) &&& wn 1 = wn (wbt x k) := by
  have h3 : (x >>> (wn k &&& 31)).toBitVec = x.toBitVec.sshiftRight k := by
    rw [Int32.toBitVec_shiftRight, w_shk k hk, BitVec.sshiftRight'_ofNat_eq_sshiftRight, Nat.mod_eq_of_lt (by omega)]
  have h1 : (x.toBitVec.sshiftRight k).getLsbD 0 = x.toBitVec.getLsbD k := by
    rw [BitVec.getLsbD_sshiftRight]
    simp [hk]
  have h2 : decide ((x.toBitVec.sshiftRight k).toNat % 2 = 1) = decide (x.toBitVec.toNat / 2 ^ k % 2 = 1) := by
    rw [← Nat.testBit_zero, ← Nat.testBit_eq_decide_div_mod_eq]
    exact h1
  rw [decide_eq_decide] at h2
  apply Int32.toBitVec.inj
  show (x >>> (wn k &&& 31)).toBitVec &&& (BitVec.ofNat 32 1) = BitVec.ofNat 32 (x.toBitVec.toNat / 2 ^ k % 2)
  rw [h3]
  apply BitVec.eq_of_toNat_eq
  rw [BitVec.toNat_and, BitVec.toNat_ofNat, BitVec.toNat_ofNat]
  rw [show 1 % 2 ^ 32 = 1 from rfl, Nat.and_one_is_mod]
  generalize x.toBitVec.toNat / 2 ^ k = e at *
  rw [Nat.mod_eq_of_lt (show e % 2 < 2 ^ 32 by omega)]
  omega
theorem wbt_lt : wbt x k < 2 := Nat.mod_lt _ (by decide)
theorem w_1sh : ∀ k, k < 31 → wn 1 <<< (wn k &&& 31) = wn (2 ^ k) := by decide +kernel
theorem w_andn {a : Nat} (h : a < 2147483648) : x &&& wn a = wn (x.toBitVec.toNat &&& a) := by
  apply Int32.toBitVec.inj
  show x.toBitVec &&& BitVec.ofNat 32 a = BitVec.ofNat 32 (x.toBitVec.toNat &&& a)
  apply BitVec.eq_of_toNat_eq
  have h3 : x.toBitVec.toNat &&& a ≤ a := Nat.and_le_right
  rw [BitVec.toNat_and, BitVec.toNat_ofNat, BitVec.toNat_ofNat, Nat.mod_eq_of_lt (by omega), Nat.mod_eq_of_lt (by omega)]
theorem w_nand {a : Nat} (h : a < 2147483648) : wn a &&& x = wn (a &&& x.toBitVec.toNat) := by
  apply Int32.toBitVec.inj
  show BitVec.ofNat 32 a &&& x.toBitVec = BitVec.ofNat 32 (a &&& x.toBitVec.toNat)
  apply BitVec.eq_of_toNat_eq
  have h3 : a &&& x.toBitVec.toNat ≤ a := Nat.and_le_left
  rw [BitVec.toNat_and, BitVec.toNat_ofNat, BitVec.toNat_ofNat, Nat.mod_eq_of_lt (by omega), Nat.mod_eq_of_lt (by omega)]
theorem w_p2 : ∀ k, k < 31 → 1 ≤ 2 ^ k ∧ 2 ^ k ≤ 1073741824 := by decide +kernel
/-- the lowest bits -/
theorem w_low (hN : N ≤ 30) : x &&& (wn 1 <<< (wn N &&& 31) - wn 1) = wn (x.toBitVec.toNat % 2 ^ N) := by
  obtain ⟨h1, h2⟩ := w_p2 N (by omega)
  rw [w_1sh N (by omega), wn_sub h1, w_andn (by omega), Nat.and_two_pow_sub_one_eq_mod]
theorem wbt_wn (h : n < 2147483648) : wbt (wn n) k = n / 2 ^ k % 2 := by
  unfold wbt
  show (BitVec.ofNat 32 n).toNat / 2 ^ k % 2 = _
  rw [BitVec.toNat_ofNat, Nat.mod_eq_of_lt (show n < 2 ^ 32 by omega)]
theorem w_modb (hk : k < N) : n % 2 ^ N / 2 ^ k % 2 = n / 2 ^ k % 2 := by
  have h : decide (n % 2 ^ N / 2 ^ k % 2 = 1) = decide (n / 2 ^ k % 2 = 1) := by
    rw [← Nat.testBit_eq_decide_div_mod_eq, ← Nat.testBit_eq_decide_div_mod_eq, Nat.testBit_mod_two_pow]
    simp [hk]
  rw [decide_eq_decide] at h
  have h1 := Nat.mod_lt (n % 2 ^ N / 2 ^ k) (show 0 < 2 by decide)
  have h2 := Nat.mod_lt (n / 2 ^ k) (show 0 < 2 by decide)
  omega
theorem wbt_low (hN : N ≤ 30) (hk : k < N) : wbt (wn (x.toBitVec.toNat % 2 ^ N)) k = wbt x k := by
  have h2 := (w_p2 N (by omega))
  have h3 := Nat.mod_lt x.toBitVec.toNat (show 0 < 2 ^ N by omega)
  rw [wbt_wn (by omega), w_modb hk]
  rfl
theorem wsm_congr : ∀ (n t : Nat), (∀ k, t ≤ k → k < t + n → f k = g k) → wsm f n t = wsm g n t
  | 0, _, _ => rfl
  | n + 1, t, h => by
    rw [wsm, wsm, h t (by omega) (by omega), wsm_congr n (t + 1) (fun k h1 h2 => h k (by omega) (by omega))]
theorem wsm_app : ∀ (n j t : Nat), wsm f (n + j) t = wsm f n t + wsm f j (t + n)
  | 0, j, t => by rw [Nat.zero_add, wsm, Nat.zero_add, Nat.add_zero]
  | n + 1, j, t => by
    rw [show n + 1 + j = (n + j) + 1 by omega, wsm, wsm, wsm_app n j (t + 1), show t + 1 + n = t + (n + 1) by omega, Nat.add_assoc]
theorem wsm_0 : ∀ (n t : Nat), (∀ k, t ≤ k → k < t + n → f k = 0) → wsm f n t = 0
  | 0, _, _ => rfl
  | n + 1, t, h => by
    rw [wsm, h t (by omega) (by omega), wsm_0 n (t + 1) (fun k h1 h2 => h k (by omega) (by omega))]
theorem wsm_le : ∀ (n t : Nat), (∀ k, f k ≤ g k) → wsm f n t ≤ wsm g n t
  | 0, _, _ => Nat.le_refl _
  | n + 1, t, h => by
    rw [wsm, wsm]
    have := wsm_le n (t + 1) h
    have := h t
    omega
theorem wct_n : ∀ (n t : Nat), wct P n t ≤ n
  | 0, _ => Nat.le_refl _
  | n + 1, t => by
    have := wct_n n (t + 1)
    unfold wct at this ⊢
    rw [wsm]
    split <;> omega
theorem wct_s : wct P (n + 1) t = (if P t then 1 else 0) + wct P n (t + 1) := rfl
theorem w_q0 : (n % 256) % 2 = n % 2 := by omega
theorem w_q1 : (n % 256) / 2 % 2 = n / 2 % 2 := by omega
theorem w_q2 : (n % 256) / 4 % 2 = n / 4 % 2 := by omega
theorem w_q3 : (n % 256) / 8 % 2 = n / 8 % 2 := by omega
theorem w_q4 : (n % 256) / 16 % 2 = n / 16 % 2 := by omega
theorem w_q5 : (n % 256) / 32 % 2 = n / 32 % 2 := by omega
theorem w_q6 : (n % 256) / 64 % 2 = n / 64 % 2 := by omega
theorem w_q7 : (n % 256) / 128 % 2 = n / 128 % 2 := by omega
theorem w_q8 : (n / 256 % 256) % 2 = n / 256 % 2 := by omega
theorem w_q9 : (n / 256 % 256) / 2 % 2 = n / 512 % 2 := by omega
theorem w_q10 : (n / 256 % 256) / 4 % 2 = n / 1024 % 2 := by omega
theorem w_q11 : (n / 256 % 256) / 8 % 2 = n / 2048 % 2 := by omega
theorem w_q12 : (n / 256 % 256) / 16 % 2 = n / 4096 % 2 := by omega
theorem w_q13 : (n / 256 % 256) / 32 % 2 = n / 8192 % 2 := by omega
theorem w_q14 : (n / 256 % 256) / 64 % 2 = n / 16384 % 2 := by omega
theorem w_q15 : (n / 256 % 256) / 128 % 2 = n / 32768 % 2 := by omega
theorem w_q16 : (n / 65536 % 256) % 2 = n / 65536 % 2 := by omega
theorem w_q17 : (n / 65536 % 256) / 2 % 2 = n / 131072 % 2 := by omega
theorem w_q18 : (n / 65536 % 256) / 4 % 2 = n / 262144 % 2 := by omega
theorem w_q19 : (n / 65536 % 256) / 8 % 2 = n / 524288 % 2 := by omega
theorem w_q20 : (n / 65536 % 256) / 16 % 2 = n / 1048576 % 2 := by omega
theorem w_q21 : (n / 65536 % 256) / 32 % 2 = n / 2097152 % 2 := by omega
theorem w_q22 : (n / 65536 % 256) / 64 % 2 = n / 4194304 % 2 := by omega
theorem w_q23 : (n / 65536 % 256) / 128 % 2 = n / 8388608 % 2 := by omega
theorem w_q24 : (n / 16777216 % 256) % 2 = n / 16777216 % 2 := by omega
theorem w_q25 : (n / 16777216 % 256) / 2 % 2 = n / 33554432 % 2 := by omega
theorem w_q26 : (n / 16777216 % 256) / 4 % 2 = n / 67108864 % 2 := by omega
theorem w_q27 : (n / 16777216 % 256) / 8 % 2 = n / 134217728 % 2 := by omega
theorem w_q28 : (n / 16777216 % 256) / 16 % 2 = n / 268435456 % 2 := by omega
theorem w_q29 : (n / 16777216 % 256) / 32 % 2 = n / 536870912 % 2 := by omega
theorem w_q30 (h : n < 1073741824) : (n / 16777216 % 256) / 64 % 2 = 0 := by omega
theorem w_q31 (h : n < 1073741824) : (n / 16777216 % 256) / 128 % 2 = 0 := by omega
theorem wpc_sum (h : n < 1073741824) : wpc n = wsm (fun k => n / 2 ^ k % 2) 30 0 := by
  unfold wpc wp8
  rw [w_q0, w_q1, w_q2, w_q3, w_q4, w_q5, w_q6, w_q7, w_q8, w_q9, w_q10, w_q11, w_q12, w_q13, w_q14, w_q15, w_q16, w_q17, w_q18, w_q19, w_q20, w_q21, w_q22, w_q23, w_q24, w_q25, w_q26, w_q27, w_q28, w_q29, w_q30 h, w_q31 h]
  simp only [wsm, Nat.zero_add, Nat.reduceAdd, Nat.reducePow, Nat.add_assoc, Nat.add_zero, Nat.div_one]
theorem wpc_0 (h : n < 1073741824) (h2 : wpc n = 0) : n = 0 := by
  have h0 : ∀ b, b < 256 → wp8 b = 0 → b = 0 := by decide +kernel
  unfold wpc at h2
  have h3 := h0 (n % 256) (by omega) (by omega)
  have h4 := h0 (n / 256 % 256) (by omega) (by omega)
  have h5 := h0 (n / 65536 % 256) (by omega) (by omega)
  have h6 := h0 (n / 16777216 % 256) (by omega) (by omega)
  omega
theorem wpc_low (hN : N ≤ 30) : wpc (x.toBitVec.toNat % 2 ^ N) = wsm (fun k => wbt x k) N 0 := by
  have h2 := (w_p2 N (by omega))
  have h3 := Nat.mod_lt x.toBitVec.toNat (show 0 < 2 ^ N by omega)
  rw [wpc_sum (by omega), show 30 = N + (30 - N) by omega, wsm_app, wsm_0 (30 - N) (0 + N), Nat.add_zero]
  · exact wsm_congr N 0 (fun k h4 h5 => w_modb (by omega))
  · intro k h4 h5
    rw [Nat.div_eq_of_lt]
    have : 2 ^ N ≤ 2 ^ k := Nat.pow_le_pow_right (by decide) (by omega)
    omega
end BT2
