/-! ===== each instruction of the pure machine is that of the bytes ===== -/
abbrev sd_X : Type := Except DecodeError (Instr × Nat)
noncomputable def sd_c1 (oc pc nx : Nat) (v : Int) : sd_X → Bool
  | .ok (.iconst n, l) => decide (l = 1 ∧ nx = pc + 1 ∧ Int32.ofInt n = Int32.ofInt v)
  | .ok (.bipush n, l) => decide (l = 2 ∧ nx = pc + 2 ∧ (Int8.ofInt n).toInt32 = Int32.ofInt v)
  | .ok (.sipush n, l) => decide (l = 3 ∧ nx = pc + 3 ∧ (Int16.ofInt n).toInt32 = Int32.ofInt v)
  | .ok (.ldc_w x, l) => decide (l = 3 ∧ nx = pc + 3 ∧ (sd_cs.any fun q => decide (q.1 = oc ∧ q.2.1 = x ∧ q.2.2.1 = v)) = true)
  | _ => false
theorem sd_c1_inv {oc pc nx : Nat} {v : Int} {r : sd_X} (h : sd_c1 oc pc nx v r = true) : (∃ n, r = .ok (.iconst n, 1) ∧ nx = pc + 1 ∧ Int32.ofInt n = Int32.ofInt v) ∨ (∃ n, r = .ok (.bipush n, 2) ∧ nx = pc + 2 ∧ (Int8.ofInt n).toInt32 = Int32.ofInt v) ∨ (∃ n, r = .ok (.sipush n, 3) ∧ nx = pc + 3 ∧ (Int16.ofInt n).toInt32 = Int32.ofInt v) ∨ (∃ x, r = .ok (.ldc_w x, 3) ∧ nx = pc + 3 ∧ (sd_cs.any fun q => decide (q.1 = oc ∧ q.2.1 = x ∧ q.2.2.1 = v)) = true) := by
  unfold sd_c1 at h
  split at h
  · have h := of_decide_eq_true h
    exact Or.inl <| ⟨_, by rw [h.1], h.2⟩
  · have h := of_decide_eq_true h
    exact Or.inr <| Or.inl <| ⟨_, by rw [h.1], h.2⟩
  · have h := of_decide_eq_true h
    exact Or.inr <| Or.inr <| Or.inl <| ⟨_, by rw [h.1], h.2⟩
  · have h := of_decide_eq_true h
    exact Or.inr <| Or.inr <| Or.inr <| ⟨_, by rw [h.1], h.2⟩
  · cases h
noncomputable def sd_c2 (pc nx a : Nat) : sd_X → Bool
  | .ok (.iload_n k, l) => decide (l = 1 ∧ nx = pc + 1 ∧ (k : Nat) = a)
  | .ok (.iload k, l) => decide (l = 2 ∧ nx = pc + 2 ∧ k = a)
  | _ => false
theorem sd_c2_inv {pc nx a : Nat} {r : sd_X} (h : sd_c2 pc nx a r = true) : (∃ k, r = .ok (.iload_n k, 1) ∧ nx = pc + 1 ∧ (k : Nat) = a) ∨ (∃ k, r = .ok (.iload k, 2) ∧ nx = pc + 2 ∧ k = a) := by
  unfold sd_c2 at h
  split at h
  · have h := of_decide_eq_true h
    exact Or.inl <| ⟨_, by rw [h.1], h.2⟩
  · have h := of_decide_eq_true h
    exact Or.inr <| ⟨_, by rw [h.1], h.2⟩
  · cases h
noncomputable def sd_c3 (pc nx a : Nat) : sd_X → Bool
  | .ok (.aload_n k, l) => decide (l = 1 ∧ nx = pc + 1 ∧ (k : Nat) = a)
  | .ok (.aload k, l) => decide (l = 2 ∧ nx = pc + 2 ∧ k = a)
  | _ => false
theorem sd_c3_inv {pc nx a : Nat} {r : sd_X} (h : sd_c3 pc nx a r = true) : (∃ k, r = .ok (.aload_n k, 1) ∧ nx = pc + 1 ∧ (k : Nat) = a) ∨ (∃ k, r = .ok (.aload k, 2) ∧ nx = pc + 2 ∧ k = a) := by
  unfold sd_c3 at h
  split at h
  · have h := of_decide_eq_true h
    exact Or.inl <| ⟨_, by rw [h.1], h.2⟩
  · have h := of_decide_eq_true h
    exact Or.inr <| ⟨_, by rw [h.1], h.2⟩
  · cases h
noncomputable def sd_c4 (pc nx a : Nat) : sd_X → Bool
  | .ok (.istore_n k, l) => decide (l = 1 ∧ nx = pc + 1 ∧ (k : Nat) = a)
  | .ok (.istore k, l) => decide (l = 2 ∧ nx = pc + 2 ∧ k = a)
  | _ => false
theorem sd_c4_inv {pc nx a : Nat} {r : sd_X} (h : sd_c4 pc nx a r = true) : (∃ k, r = .ok (.istore_n k, 1) ∧ nx = pc + 1 ∧ (k : Nat) = a) ∨ (∃ k, r = .ok (.istore k, 2) ∧ nx = pc + 2 ∧ k = a) := by
  unfold sd_c4 at h
  split at h
  · have h := of_decide_eq_true h
    exact Or.inl <| ⟨_, by rw [h.1], h.2⟩
  · have h := of_decide_eq_true h
    exact Or.inr <| ⟨_, by rw [h.1], h.2⟩
  · cases h
noncomputable def sd_c5 (pc nx a : Nat) : sd_X → Bool
  | .ok (.astore_n k, l) => decide (l = 1 ∧ nx = pc + 1 ∧ (k : Nat) = a)
  | .ok (.astore k, l) => decide (l = 2 ∧ nx = pc + 2 ∧ k = a)
  | _ => false
theorem sd_c5_inv {pc nx a : Nat} {r : sd_X} (h : sd_c5 pc nx a r = true) : (∃ k, r = .ok (.astore_n k, 1) ∧ nx = pc + 1 ∧ (k : Nat) = a) ∨ (∃ k, r = .ok (.astore k, 2) ∧ nx = pc + 2 ∧ k = a) := by
  unfold sd_c5 at h
  split at h
  · have h := of_decide_eq_true h
    exact Or.inl <| ⟨_, by rw [h.1], h.2⟩
  · have h := of_decide_eq_true h
    exact Or.inr <| ⟨_, by rw [h.1], h.2⟩
  · cases h
noncomputable def sd_c6 (pc nx a : Nat) (v : Int) : sd_X → Bool
  | .ok (.iinc k n, l) => decide (l = 3 ∧ nx = pc + 3 ∧ k = a ∧ n = v)
  | _ => false
theorem sd_c6_inv {pc nx a : Nat} {v : Int} {r : sd_X} (h : sd_c6 pc nx a v r = true) : (∃ k n, r = .ok (.iinc k n, 3) ∧ nx = pc + 3 ∧ k = a ∧ n = v) := by
  unfold sd_c6 at h
  split at h
  · have h := of_decide_eq_true h
    exact ⟨_, _, by rw [h.1], h.2⟩
  · cases h
noncomputable def sd_c7 (oc pc nx a b : Nat) : sd_X → Bool
  | .ok (.getfield x, l) => decide (l = 3 ∧ nx = pc + 3 ∧ (sd_fl.any fun q => decide (q.1 = oc ∧ q.2.1 = x ∧ q.2.2.1 = a ∧ q.2.2.2.1 = b)) = true)
  | _ => false
theorem sd_c7_inv {oc pc nx a b : Nat} {r : sd_X} (h : sd_c7 oc pc nx a b r = true) : (∃ x, r = .ok (.getfield x, 3) ∧ nx = pc + 3 ∧ (sd_fl.any fun q => decide (q.1 = oc ∧ q.2.1 = x ∧ q.2.2.1 = a ∧ q.2.2.2.1 = b)) = true) := by
  unfold sd_c7 at h
  split at h
  · have h := of_decide_eq_true h
    exact ⟨_, by rw [h.1], h.2⟩
  · cases h
noncomputable def sd_c8 (oc pc nx a b : Nat) : sd_X → Bool
  | .ok (.putfield x, l) => decide (l = 3 ∧ nx = pc + 3 ∧ (sd_fl.any fun q => decide (q.1 = oc ∧ q.2.1 = x ∧ q.2.2.1 = a ∧ q.2.2.2.1 = b)) = true)
  | _ => false
theorem sd_c8_inv {oc pc nx a b : Nat} {r : sd_X} (h : sd_c8 oc pc nx a b r = true) : (∃ x, r = .ok (.putfield x, 3) ∧ nx = pc + 3 ∧ (sd_fl.any fun q => decide (q.1 = oc ∧ q.2.1 = x ∧ q.2.2.1 = a ∧ q.2.2.2.1 = b)) = true) := by
  unfold sd_c8 at h
  split at h
  · have h := of_decide_eq_true h
    exact ⟨_, by rw [h.1], h.2⟩
  · cases h
noncomputable def sd_c9 (pc nx : Nat) : sd_X → Bool
  | .ok (.iaload, l) => decide (l = 1 ∧ nx = pc + 1)
  | _ => false
theorem sd_c9_inv {pc nx : Nat} {r : sd_X} (h : sd_c9 pc nx r = true) : (r = .ok (.iaload, 1) ∧ nx = pc + 1) := by
  unfold sd_c9 at h
  split at h
  · have h := of_decide_eq_true h
    exact ⟨by rw [h.1], h.2⟩
  · cases h
noncomputable def sd_c10 (pc nx : Nat) : sd_X → Bool
  | .ok (.iastore, l) => decide (l = 1 ∧ nx = pc + 1)
  | _ => false
theorem sd_c10_inv {pc nx : Nat} {r : sd_X} (h : sd_c10 pc nx r = true) : (r = .ok (.iastore, 1) ∧ nx = pc + 1) := by
  unfold sd_c10 at h
  split at h
  · have h := of_decide_eq_true h
    exact ⟨by rw [h.1], h.2⟩
  · cases h
noncomputable def sd_c11 (pc nx : Nat) : sd_X → Bool
  | .ok (.laload, l) => decide (l = 1 ∧ nx = pc + 1)
  | _ => false
theorem sd_c11_inv {pc nx : Nat} {r : sd_X} (h : sd_c11 pc nx r = true) : (r = .ok (.laload, 1) ∧ nx = pc + 1) := by
  unfold sd_c11 at h
  split at h
  · have h := of_decide_eq_true h
    exact ⟨by rw [h.1], h.2⟩
  · cases h
noncomputable def sd_c12 (pc nx : Nat) : sd_X → Bool
  | .ok (.lastore, l) => decide (l = 1 ∧ nx = pc + 1)
  | _ => false
theorem sd_c12_inv {pc nx : Nat} {r : sd_X} (h : sd_c12 pc nx r = true) : (r = .ok (.lastore, 1) ∧ nx = pc + 1) := by
  unfold sd_c12 at h
  split at h
  · have h := of_decide_eq_true h
    exact ⟨by rw [h.1], h.2⟩
  · cases h
noncomputable def sd_c13 (pc nx : Nat) : sd_X → Bool
  | .ok (.baload, l) => decide (l = 1 ∧ nx = pc + 1)
  | _ => false
theorem sd_c13_inv {pc nx : Nat} {r : sd_X} (h : sd_c13 pc nx r = true) : (r = .ok (.baload, 1) ∧ nx = pc + 1) := by
  unfold sd_c13 at h
  split at h
  · have h := of_decide_eq_true h
    exact ⟨by rw [h.1], h.2⟩
  · cases h
noncomputable def sd_c14 (pc nx : Nat) : sd_X → Bool
  | .ok (.arraylength, l) => decide (l = 1 ∧ nx = pc + 1)
  | _ => false
theorem sd_c14_inv {pc nx : Nat} {r : sd_X} (h : sd_c14 pc nx r = true) : (r = .ok (.arraylength, 1) ∧ nx = pc + 1) := by
  unfold sd_c14 at h
  split at h
  · have h := of_decide_eq_true h
    exact ⟨by rw [h.1], h.2⟩
  · cases h
noncomputable def sd_c15 (pc nx : Nat) : sd_X → Bool
  | .ok (.iadd, l) => decide (l = 1 ∧ nx = pc + 1)
  | _ => false
theorem sd_c15_inv {pc nx : Nat} {r : sd_X} (h : sd_c15 pc nx r = true) : (r = .ok (.iadd, 1) ∧ nx = pc + 1) := by
  unfold sd_c15 at h
  split at h
  · have h := of_decide_eq_true h
    exact ⟨by rw [h.1], h.2⟩
  · cases h
noncomputable def sd_c16 (pc nx : Nat) : sd_X → Bool
  | .ok (.isub, l) => decide (l = 1 ∧ nx = pc + 1)
  | _ => false
theorem sd_c16_inv {pc nx : Nat} {r : sd_X} (h : sd_c16 pc nx r = true) : (r = .ok (.isub, 1) ∧ nx = pc + 1) := by
  unfold sd_c16 at h
  split at h
  · have h := of_decide_eq_true h
    exact ⟨by rw [h.1], h.2⟩
  · cases h
noncomputable def sd_c17 (pc nx : Nat) : sd_X → Bool
  | .ok (.imul, l) => decide (l = 1 ∧ nx = pc + 1)
  | _ => false
theorem sd_c17_inv {pc nx : Nat} {r : sd_X} (h : sd_c17 pc nx r = true) : (r = .ok (.imul, 1) ∧ nx = pc + 1) := by
  unfold sd_c17 at h
  split at h
  · have h := of_decide_eq_true h
    exact ⟨by rw [h.1], h.2⟩
  · cases h
noncomputable def sd_c18 (pc nx : Nat) : sd_X → Bool
  | .ok (.idiv, l) => decide (l = 1 ∧ nx = pc + 1)
  | _ => false
theorem sd_c18_inv {pc nx : Nat} {r : sd_X} (h : sd_c18 pc nx r = true) : (r = .ok (.idiv, 1) ∧ nx = pc + 1) := by
  unfold sd_c18 at h
  split at h
  · have h := of_decide_eq_true h
    exact ⟨by rw [h.1], h.2⟩
  · cases h
noncomputable def sd_c19 (pc nx : Nat) : sd_X → Bool
  | .ok (.irem, l) => decide (l = 1 ∧ nx = pc + 1)
  | _ => false
theorem sd_c19_inv {pc nx : Nat} {r : sd_X} (h : sd_c19 pc nx r = true) : (r = .ok (.irem, 1) ∧ nx = pc + 1) := by
  unfold sd_c19 at h
  split at h
  · have h := of_decide_eq_true h
    exact ⟨by rw [h.1], h.2⟩
  · cases h
noncomputable def sd_c20 (pc nx : Nat) : sd_X → Bool
  | .ok (.ineg, l) => decide (l = 1 ∧ nx = pc + 1)
  | _ => false
theorem sd_c20_inv {pc nx : Nat} {r : sd_X} (h : sd_c20 pc nx r = true) : (r = .ok (.ineg, 1) ∧ nx = pc + 1) := by
  unfold sd_c20 at h
  split at h
  · have h := of_decide_eq_true h
    exact ⟨by rw [h.1], h.2⟩
  · cases h
noncomputable def sd_c21 (pc nx : Nat) : sd_X → Bool
  | .ok (.ishl, l) => decide (l = 1 ∧ nx = pc + 1)
  | _ => false
theorem sd_c21_inv {pc nx : Nat} {r : sd_X} (h : sd_c21 pc nx r = true) : (r = .ok (.ishl, 1) ∧ nx = pc + 1) := by
  unfold sd_c21 at h
  split at h
  · have h := of_decide_eq_true h
    exact ⟨by rw [h.1], h.2⟩
  · cases h
noncomputable def sd_c22 (pc nx : Nat) : sd_X → Bool
  | .ok (.ishr, l) => decide (l = 1 ∧ nx = pc + 1)
  | _ => false
theorem sd_c22_inv {pc nx : Nat} {r : sd_X} (h : sd_c22 pc nx r = true) : (r = .ok (.ishr, 1) ∧ nx = pc + 1) := by
  unfold sd_c22 at h
  split at h
  · have h := of_decide_eq_true h
    exact ⟨by rw [h.1], h.2⟩
  · cases h
noncomputable def sd_c23 (pc nx : Nat) : sd_X → Bool
  | .ok (.iushr, l) => decide (l = 1 ∧ nx = pc + 1)
  | _ => false
theorem sd_c23_inv {pc nx : Nat} {r : sd_X} (h : sd_c23 pc nx r = true) : (r = .ok (.iushr, 1) ∧ nx = pc + 1) := by
  unfold sd_c23 at h
  split at h
  · have h := of_decide_eq_true h
    exact ⟨by rw [h.1], h.2⟩
  · cases h
noncomputable def sd_c24 (pc nx : Nat) : sd_X → Bool
  | .ok (.iand, l) => decide (l = 1 ∧ nx = pc + 1)
  | _ => false
theorem sd_c24_inv {pc nx : Nat} {r : sd_X} (h : sd_c24 pc nx r = true) : (r = .ok (.iand, 1) ∧ nx = pc + 1) := by
  unfold sd_c24 at h
  split at h
  · have h := of_decide_eq_true h
    exact ⟨by rw [h.1], h.2⟩
  · cases h
noncomputable def sd_c25 (pc nx : Nat) : sd_X → Bool
  | .ok (.ior, l) => decide (l = 1 ∧ nx = pc + 1)
  | _ => false
theorem sd_c25_inv {pc nx : Nat} {r : sd_X} (h : sd_c25 pc nx r = true) : (r = .ok (.ior, 1) ∧ nx = pc + 1) := by
  unfold sd_c25 at h
  split at h
  · have h := of_decide_eq_true h
    exact ⟨by rw [h.1], h.2⟩
  · cases h
noncomputable def sd_c26 (pc nx : Nat) : sd_X → Bool
  | .ok (.ixor, l) => decide (l = 1 ∧ nx = pc + 1)
  | _ => false
theorem sd_c26_inv {pc nx : Nat} {r : sd_X} (h : sd_c26 pc nx r = true) : (r = .ok (.ixor, 1) ∧ nx = pc + 1) := by
  unfold sd_c26 at h
  split at h
  · have h := of_decide_eq_true h
    exact ⟨by rw [h.1], h.2⟩
  · cases h
noncomputable def sd_c27 (pc nx : Nat) : sd_X → Bool
  | .ok (.i2l, l) => decide (l = 1 ∧ nx = pc + 1)
  | _ => false
theorem sd_c27_inv {pc nx : Nat} {r : sd_X} (h : sd_c27 pc nx r = true) : (r = .ok (.i2l, 1) ∧ nx = pc + 1) := by
  unfold sd_c27 at h
  split at h
  · have h := of_decide_eq_true h
    exact ⟨by rw [h.1], h.2⟩
  · cases h
noncomputable def sd_c28 (pc nx : Nat) : sd_X → Bool
  | .ok (.i2c, l) => decide (l = 1 ∧ nx = pc + 1)
  | _ => false
theorem sd_c28_inv {pc nx : Nat} {r : sd_X} (h : sd_c28 pc nx r = true) : (r = .ok (.i2c, 1) ∧ nx = pc + 1) := by
  unfold sd_c28 at h
  split at h
  · have h := of_decide_eq_true h
    exact ⟨by rw [h.1], h.2⟩
  · cases h
noncomputable def sd_c29 (pc nx : Nat) : sd_X → Bool
  | .ok (.lcmp, l) => decide (l = 1 ∧ nx = pc + 1)
  | _ => false
theorem sd_c29_inv {pc nx : Nat} {r : sd_X} (h : sd_c29 pc nx r = true) : (r = .ok (.lcmp, 1) ∧ nx = pc + 1) := by
  unfold sd_c29 at h
  split at h
  · have h := of_decide_eq_true h
    exact ⟨by rw [h.1], h.2⟩
  · cases h
noncomputable def sd_c35 (pc nx : Nat) : sd_X → Bool
  | .ok (.dup, l) => decide (l = 1 ∧ nx = pc + 1)
  | _ => false
theorem sd_c35_inv {pc nx : Nat} {r : sd_X} (h : sd_c35 pc nx r = true) : (r = .ok (.dup, 1) ∧ nx = pc + 1) := by
  unfold sd_c35 at h
  split at h
  · have h := of_decide_eq_true h
    exact ⟨by rw [h.1], h.2⟩
  · cases h
noncomputable def sd_c36 (pc nx : Nat) : sd_X → Bool
  | .ok (.pop, l) => decide (l = 1 ∧ nx = pc + 1)
  | _ => false
theorem sd_c36_inv {pc nx : Nat} {r : sd_X} (h : sd_c36 pc nx r = true) : (r = .ok (.pop, 1) ∧ nx = pc + 1) := by
  unfold sd_c36 at h
  split at h
  · have h := of_decide_eq_true h
    exact ⟨by rw [h.1], h.2⟩
  · cases h
noncomputable def sd_c37 (pc nx : Nat) : sd_X → Bool
  | .ok (.dup2, l) => decide (l = 1 ∧ nx = pc + 1)
  | _ => false
theorem sd_c37_inv {pc nx : Nat} {r : sd_X} (h : sd_c37 pc nx r = true) : (r = .ok (.dup2, 1) ∧ nx = pc + 1) := by
  unfold sd_c37 at h
  split at h
  · have h := of_decide_eq_true h
    exact ⟨by rw [h.1], h.2⟩
  · cases h
noncomputable def sd_c30 (pc nx : Nat) (v : Int) : sd_X → Bool
  | .ok (.lconst n, l) => decide (l = 1 ∧ nx = pc + 1 ∧ Int64.ofNat (n : Nat) = Int64.ofInt v)
  | _ => false
theorem sd_c30_inv {pc nx : Nat} {v : Int} {r : sd_X} (h : sd_c30 pc nx v r = true) : (∃ n, r = .ok (.lconst n, 1) ∧ nx = pc + 1 ∧ Int64.ofNat (n : Nat) = Int64.ofInt v) := by
  unfold sd_c30 at h
  split at h
  · have h := of_decide_eq_true h
    exact ⟨_, by rw [h.1], h.2⟩
  · cases h
def sd_cond : ClassFile.Cond → Nat
  | .eq => 0
  | .ne => 1
  | .lt => 2
  | .ge => 3
  | .gt => 4
  | .le => 5
noncomputable def sd_c31 (pc nx a b : Nat) : sd_X → Bool
  | .ok (.ifCond c off, l) => decide (l = 3 ∧ nx = pc + 3 ∧ sd_cond c = a ∧ (pc : Int) + off = (b : Int))
  | _ => false
theorem sd_c31_inv {pc nx a b : Nat} {r : sd_X} (h : sd_c31 pc nx a b r = true) : (∃ c off, r = .ok (.ifCond c off, 3) ∧ nx = pc + 3 ∧ sd_cond c = a ∧ (pc : Int) + off = (b : Int)) := by
  unfold sd_c31 at h
  split at h
  · have h := of_decide_eq_true h
    exact ⟨_, _, by rw [h.1], h.2⟩
  · cases h
noncomputable def sd_c32 (pc nx a b : Nat) : sd_X → Bool
  | .ok (.if_icmp c off, l) => decide (l = 3 ∧ nx = pc + 3 ∧ sd_cond c = a ∧ (pc : Int) + off = (b : Int))
  | _ => false
theorem sd_c32_inv {pc nx a b : Nat} {r : sd_X} (h : sd_c32 pc nx a b r = true) : (∃ c off, r = .ok (.if_icmp c off, 3) ∧ nx = pc + 3 ∧ sd_cond c = a ∧ (pc : Int) + off = (b : Int)) := by
  unfold sd_c32 at h
  split at h
  · have h := of_decide_eq_true h
    exact ⟨_, _, by rw [h.1], h.2⟩
  · cases h
noncomputable def sd_c33 (pc b : Nat) : sd_X → Bool
  | .ok (.goto off, l) => decide (l = 3 ∧ (pc : Int) + off = (b : Int))
  | _ => false
theorem sd_c33_inv {pc b : Nat} {r : sd_X} (h : sd_c33 pc b r = true) : (∃ off, r = .ok (.goto off, 3) ∧ (pc : Int) + off = (b : Int)) := by
  unfold sd_c33 at h
  split at h
  · have h := of_decide_eq_true h
    exact ⟨_, by rw [h.1], h.2⟩
  · cases h
def sd_tg (pc : Nat) : List Int → List Nat → Bool
  | [], [] => true
  | o :: l, t :: k => decide ((pc : Int) + o = (t : Int)) && sd_tg pc l k
  | _, _ => false
noncomputable def sd_c34 (pc b : Nat) (v : Int) (ts : List Nat) : sd_X → Bool
  | .ok (.tableswitch dflt lo hi offs, _) => decide (lo = v ∧ hi = v + ts.length - 1 ∧ (pc : Int) + dflt = (b : Int) ∧ sd_tg pc offs.toList ts = true)
  | _ => false
theorem sd_c34_inv {pc b : Nat} {v : Int} {ts : List Nat} {r : sd_X} (h : sd_c34 pc b v ts r = true) : ∃ dflt lo hi offs l, r = .ok (.tableswitch dflt lo hi offs, l) ∧ lo = v ∧ hi = v + ts.length - 1 ∧ (pc : Int) + dflt = (b : Int) ∧ sd_tg pc offs.toList ts = true := by
  unfold sd_c34 at h
  split at h
  · exact ⟨_, _, _, _, _, rfl, of_decide_eq_true h⟩
  · cases h
noncomputable def sd_c40 (oc pc nx a : Nat) : sd_X → Bool
  | .ok (.invokevirtual x, l) => decide (l = 3 ∧ nx = pc + 3 ∧ a < 258 ∧ ((sd_ml.any fun q => decide (q.1 = oc ∧ q.2.1 = x ∧ q.2.2.1 = a)) || (sd_mn.any fun q => decide (q.1 = oc ∧ q.2.1 = x ∧ q.2.2.1 = a))) = true)
  | _ => false
theorem sd_c40_inv {oc pc nx a : Nat} {r : sd_X} (h : sd_c40 oc pc nx a r = true) : (∃ x, r = .ok (.invokevirtual x, 3) ∧ nx = pc + 3 ∧ a < 258 ∧ ((sd_ml.any fun q => decide (q.1 = oc ∧ q.2.1 = x ∧ q.2.2.1 = a)) || (sd_mn.any fun q => decide (q.1 = oc ∧ q.2.1 = x ∧ q.2.2.1 = a))) = true) := by
  unfold sd_c40 at h
  split at h
  · have h := of_decide_eq_true h
    exact ⟨_, by rw [h.1], h.2⟩
  · cases h
noncomputable def sd_c41 (oc pc nx a : Nat) : sd_X → Bool
  | .ok (.invokestatic x, l) => decide (l = 3 ∧ nx = pc + 3 ∧ a < 258 ∧ ((sd_ml.any fun q => decide (q.1 = oc ∧ q.2.1 = x ∧ q.2.2.1 = a)) || (sd_mn.any fun q => decide (q.1 = oc ∧ q.2.1 = x ∧ q.2.2.1 = a))) = true)
  | _ => false
theorem sd_c41_inv {oc pc nx a : Nat} {r : sd_X} (h : sd_c41 oc pc nx a r = true) : (∃ x, r = .ok (.invokestatic x, 3) ∧ nx = pc + 3 ∧ a < 258 ∧ ((sd_ml.any fun q => decide (q.1 = oc ∧ q.2.1 = x ∧ q.2.2.1 = a)) || (sd_mn.any fun q => decide (q.1 = oc ∧ q.2.1 = x ∧ q.2.2.1 = a))) = true) := by
  unfold sd_c41 at h
  split at h
  · have h := of_decide_eq_true h
    exact ⟨_, by rw [h.1], h.2⟩
  · cases h
noncomputable def sd_c42 (oc pc nx a : Nat) : sd_X → Bool
  | .ok (.invokespecial x, l) => decide (l = 3 ∧ nx = pc + 3 ∧ a < 258 ∧ ((sd_ml.any fun q => decide (q.1 = oc ∧ q.2.1 = x ∧ q.2.2.1 = a)) || (sd_mn.any fun q => decide (q.1 = oc ∧ q.2.1 = x ∧ q.2.2.1 = a))) = true)
  | _ => false
theorem sd_c42_inv {oc pc nx a : Nat} {r : sd_X} (h : sd_c42 oc pc nx a r = true) : (∃ x, r = .ok (.invokespecial x, 3) ∧ nx = pc + 3 ∧ a < 258 ∧ ((sd_ml.any fun q => decide (q.1 = oc ∧ q.2.1 = x ∧ q.2.2.1 = a)) || (sd_mn.any fun q => decide (q.1 = oc ∧ q.2.1 = x ∧ q.2.2.1 = a))) = true) := by
  unfold sd_c42 at h
  split at h
  · have h := of_decide_eq_true h
    exact ⟨_, by rw [h.1], h.2⟩
  · cases h
noncomputable def sd_c43 (oc pc nx : Nat) : sd_X → Bool
  | .ok (.invokespecial x, l) => decide (l = 3 ∧ nx = pc + 3 ∧ (sd_ol.any fun q => decide (q.1 = oc ∧ q.2.1 = x)) = true)
  | _ => false
theorem sd_c43_inv {oc pc nx : Nat} {r : sd_X} (h : sd_c43 oc pc nx r = true) : (∃ x, r = .ok (.invokespecial x, 3) ∧ nx = pc + 3 ∧ (sd_ol.any fun q => decide (q.1 = oc ∧ q.2.1 = x)) = true) := by
  unfold sd_c43 at h
  split at h
  · have h := of_decide_eq_true h
    exact ⟨_, by rw [h.1], h.2⟩
  · cases h
noncomputable def sd_c44 (oc pc nx : Nat) : sd_X → Bool
  | .ok (.invokestatic x, l) => decide (l = 3 ∧ nx = pc + 3 ∧ (sd_al.any fun q => decide (q.1 = oc ∧ q.2.1 = x)) = true)
  | _ => false
theorem sd_c44_inv {oc pc nx : Nat} {r : sd_X} (h : sd_c44 oc pc nx r = true) : (∃ x, r = .ok (.invokestatic x, 3) ∧ nx = pc + 3 ∧ (sd_al.any fun q => decide (q.1 = oc ∧ q.2.1 = x)) = true) := by
  unfold sd_c44 at h
  split at h
  · have h := of_decide_eq_true h
    exact ⟨_, by rw [h.1], h.2⟩
  · cases h
noncomputable def sd_c46 (oc pc nx a : Nat) : sd_X → Bool
  | .ok (.new x, l) => decide (l = 3 ∧ nx = pc + 3 ∧ (sd_kl.any fun q => decide (q.1 = oc ∧ q.2.1 = x ∧ q.2.2.1 = a)) = true)
  | _ => false
theorem sd_c46_inv {oc pc nx a : Nat} {r : sd_X} (h : sd_c46 oc pc nx a r = true) : (∃ x, r = .ok (.new x, 3) ∧ nx = pc + 3 ∧ (sd_kl.any fun q => decide (q.1 = oc ∧ q.2.1 = x ∧ q.2.2.1 = a)) = true) := by
  unfold sd_c46 at h
  split at h
  · have h := of_decide_eq_true h
    exact ⟨_, by rw [h.1], h.2⟩
  · cases h
noncomputable def sd_c47 (pc nx : Nat) : sd_X → Bool
  | .ok (.newarray .int, l) => decide (l = 2 ∧ nx = pc + 2)
  | _ => false
theorem sd_c47_inv {pc nx : Nat} {r : sd_X} (h : sd_c47 pc nx r = true) : (r = .ok (.newarray .int, 2) ∧ nx = pc + 2) := by
  unfold sd_c47 at h
  split at h
  · have h := of_decide_eq_true h
    exact ⟨by rw [h.1], h.2⟩
  · cases h
noncomputable def sd_c48 (pc nx : Nat) : sd_X → Bool
  | .ok (.newarray .long, l) => decide (l = 2 ∧ nx = pc + 2)
  | _ => false
theorem sd_c48_inv {pc nx : Nat} {r : sd_X} (h : sd_c48 pc nx r = true) : (r = .ok (.newarray .long, 2) ∧ nx = pc + 2) := by
  unfold sd_c48 at h
  split at h
  · have h := of_decide_eq_true h
    exact ⟨by rw [h.1], h.2⟩
  · cases h
noncomputable def sd_c49 (oc pc nx a : Nat) : sd_X → Bool
  | .ok (.ldc x, l) => decide (l = 2 ∧ nx = pc + 2 ∧ (sd_sl.any fun q => decide (q.1 = oc ∧ q.2.1 = x ∧ q.2.2 = a)) = true)
  | _ => false
theorem sd_c49_inv {oc pc nx a : Nat} {r : sd_X} (h : sd_c49 oc pc nx a r = true) : (∃ x, r = .ok (.ldc x, 2) ∧ nx = pc + 2 ∧ (sd_sl.any fun q => decide (q.1 = oc ∧ q.2.1 = x ∧ q.2.2 = a)) = true) := by
  unfold sd_c49 at h
  split at h
  · have h := of_decide_eq_true h
    exact ⟨_, by rw [h.1], h.2⟩
  · cases h
noncomputable def sd_c50 (oc pc nx : Nat) : sd_X → Bool
  | .ok (.getfield x, l) => decide (l = 3 ∧ nx = pc + 3 ∧ (sd_jf.any fun q => decide (q.1 = oc ∧ q.2.1 = x ∧ q.2.2.1 = 50)) = true)
  | _ => false
theorem sd_c50_inv {oc pc nx : Nat} {r : sd_X} (h : sd_c50 oc pc nx r = true) : (∃ x, r = .ok (.getfield x, 3) ∧ nx = pc + 3 ∧ (sd_jf.any fun q => decide (q.1 = oc ∧ q.2.1 = x ∧ q.2.2.1 = 50)) = true) := by
  unfold sd_c50 at h
  split at h
  · have h := of_decide_eq_true h
    exact ⟨_, by rw [h.1], h.2⟩
  · cases h
noncomputable def sd_c51 (oc pc nx : Nat) : sd_X → Bool
  | .ok (.getfield x, l) => decide (l = 3 ∧ nx = pc + 3 ∧ (sd_jf.any fun q => decide (q.1 = oc ∧ q.2.1 = x ∧ q.2.2.1 = 51)) = true)
  | _ => false
theorem sd_c51_inv {oc pc nx : Nat} {r : sd_X} (h : sd_c51 oc pc nx r = true) : (∃ x, r = .ok (.getfield x, 3) ∧ nx = pc + 3 ∧ (sd_jf.any fun q => decide (q.1 = oc ∧ q.2.1 = x ∧ q.2.2.1 = 51)) = true) := by
  unfold sd_c51 at h
  split at h
  · have h := of_decide_eq_true h
    exact ⟨_, by rw [h.1], h.2⟩
  · cases h
noncomputable def sd_c52 (oc pc nx : Nat) : sd_X → Bool
  | .ok (.getstatic x, l) => decide (l = 3 ∧ nx = pc + 3 ∧ (sd_jf.any fun q => decide (q.1 = oc ∧ q.2.1 = x ∧ q.2.2.1 = 52)) = true)
  | _ => false
theorem sd_c52_inv {oc pc nx : Nat} {r : sd_X} (h : sd_c52 oc pc nx r = true) : (∃ x, r = .ok (.getstatic x, 3) ∧ nx = pc + 3 ∧ (sd_jf.any fun q => decide (q.1 = oc ∧ q.2.1 = x ∧ q.2.2.1 = 52)) = true) := by
  unfold sd_c52 at h
  split at h
  · have h := of_decide_eq_true h
    exact ⟨_, by rw [h.1], h.2⟩
  · cases h
noncomputable def sd_c53 (oc pc nx : Nat) : sd_X → Bool
  | .ok (.getstatic x, l) => decide (l = 3 ∧ nx = pc + 3 ∧ (sd_jf.any fun q => decide (q.1 = oc ∧ q.2.1 = x ∧ q.2.2.1 = 53)) = true)
  | _ => false
theorem sd_c53_inv {oc pc nx : Nat} {r : sd_X} (h : sd_c53 oc pc nx r = true) : (∃ x, r = .ok (.getstatic x, 3) ∧ nx = pc + 3 ∧ (sd_jf.any fun q => decide (q.1 = oc ∧ q.2.1 = x ∧ q.2.2.1 = 53)) = true) := by
  unfold sd_c53 at h
  split at h
  · have h := of_decide_eq_true h
    exact ⟨_, by rw [h.1], h.2⟩
  · cases h
def sd_rk (a : Nat) : FieldType := match a with
  | 0 => .int
  | 1 => .boolean
  | 2 => .char
  | _ => .byte
noncomputable def sd_c60 (rt : Option FieldType) (a : Nat) : sd_X → Bool
  | .ok (.ireturn, l) => decide (l = 1 ∧ rt = some (sd_rk a))
  | _ => false
theorem sd_c60_inv {rt : Option FieldType} {a : Nat} {r : sd_X} (h : sd_c60 rt a r = true) : (r = .ok (.ireturn, 1) ∧ rt = some (sd_rk a)) := by
  unfold sd_c60 at h
  split at h
  · have h := of_decide_eq_true h
    exact ⟨by rw [h.1], h.2⟩
  · cases h
noncomputable def sd_c61 (rt : Option FieldType) : sd_X → Bool
  | .ok (.return_, l) => decide (l = 1 ∧ rt = none)
  | _ => false
theorem sd_c61_inv {rt : Option FieldType} {r : sd_X} (h : sd_c61 rt r = true) : (r = .ok (.return_, 1) ∧ rt = none) := by
  unfold sd_c61 at h
  split at h
  · have h := of_decide_eq_true h
    exact ⟨by rw [h.1], h.2⟩
  · cases h
noncomputable def sd_c45 (mi pc a : Nat) : Bool := (sd_hh mi).isEmpty && match decode (sd_by mi) pc, decode (sd_by mi) (pc + 3), decode (sd_by mi) (pc + 4) with
  | .ok (.new ik, 3), .ok (.dup, 1), .ok (.ldc is, 2) => (match decode (sd_by mi) (pc + 6), decode (sd_by mi) (pc + 9) with
    | .ok (.invokespecial ic, 3), .ok (.athrow, 1) => sd_tl.any fun q => decide (q.1 = sd_oc mi ∧ q.2.1 = ik ∧ q.2.2.1 = is ∧ q.2.2.2.1 = ic ∧ q.2.2.2.2.1 = a)
    | _, _ => false)
  | .ok (.new ik, 3), .ok (.dup, 1), .ok (.ldc_w is, 3) => (match decode (sd_by mi) (pc + 7), decode (sd_by mi) (pc + 10) with
    | .ok (.invokespecial ic, 3), .ok (.athrow, 1) => sd_tl.any fun q => decide (q.1 = sd_oc mi ∧ q.2.1 = ik ∧ q.2.2.1 = is ∧ q.2.2.2.1 = ic ∧ q.2.2.2.2.1 = a)
    | _, _ => false)
  | _, _, _ => false
theorem sd_c45_inv {mi pc a : Nat} (h : sd_c45 mi pc a = true) : sd_hh mi = [] ∧ ∃ ik is ic, (sd_tl.any fun q => decide (q.1 = sd_oc mi ∧ q.2.1 = ik ∧ q.2.2.1 = is ∧ q.2.2.2.1 = ic ∧ q.2.2.2.2.1 = a)) = true ∧ decode (sd_by mi) pc = .ok (.new ik, 3) ∧ decode (sd_by mi) (pc + 3) = .ok (.dup, 1) ∧
    ((decode (sd_by mi) (pc + 4) = .ok (.ldc is, 2) ∧ decode (sd_by mi) (pc + 6) = .ok (.invokespecial ic, 3) ∧ decode (sd_by mi) (pc + 9) = .ok (.athrow, 1)) ∨ (decode (sd_by mi) (pc + 4) = .ok (.ldc_w is, 3) ∧ decode (sd_by mi) (pc + 7) = .ok (.invokespecial ic, 3) ∧ decode (sd_by mi) (pc + 10) = .ok (.athrow, 1))) := by
  unfold sd_c45 at h
  rw [Bool.and_eq_true] at h
  obtain ⟨h0, h⟩ := h
  refine ⟨List.isEmpty_iff.mp h0, ?_⟩
  split at h
  · rename_i ik is e1 e2 e3
    split at h
    · rename_i ic e4 e5
      exact ⟨ik, is, ic, h, e1, e2, Or.inl ⟨e3, e4, e5⟩⟩
    · cases h
  · rename_i ik is e1 e2 e3
    split at h
    · rename_i ic e4 e5
      exact ⟨ik, is, ic, h, e1, e2, Or.inr ⟨e3, e4, e5⟩⟩
    · cases h
  · cases h
noncomputable def sd_g0 (mi pc op nx a b : Nat) (v : Int) (ts : List Nat) : Bool := (Nat.beq op 1 && sd_c1 (sd_oc mi) pc nx v (decode (sd_by mi) pc)) || (Nat.beq op 2 && sd_c2 pc nx a (decode (sd_by mi) pc)) || (Nat.beq op 3 && sd_c3 pc nx a (decode (sd_by mi) pc)) || (Nat.beq op 4 && sd_c4 pc nx a (decode (sd_by mi) pc)) || (Nat.beq op 5 && sd_c5 pc nx a (decode (sd_by mi) pc)) || (Nat.beq op 6 && sd_c6 pc nx a v (decode (sd_by mi) pc)) || (Nat.beq op 7 && sd_c7 (sd_oc mi) pc nx a b (decode (sd_by mi) pc)) || (Nat.beq op 8 && sd_c8 (sd_oc mi) pc nx a b (decode (sd_by mi) pc)) || (Nat.beq op 9 && sd_c9 pc nx (decode (sd_by mi) pc))
noncomputable def sd_g1 (mi pc op nx a b : Nat) (v : Int) (ts : List Nat) : Bool := (Nat.beq op 10 && sd_c10 pc nx (decode (sd_by mi) pc)) || (Nat.beq op 11 && sd_c11 pc nx (decode (sd_by mi) pc)) || (Nat.beq op 12 && sd_c12 pc nx (decode (sd_by mi) pc)) || (Nat.beq op 13 && sd_c13 pc nx (decode (sd_by mi) pc)) || (Nat.beq op 14 && sd_c14 pc nx (decode (sd_by mi) pc)) || (Nat.beq op 15 && sd_c15 pc nx (decode (sd_by mi) pc)) || (Nat.beq op 16 && sd_c16 pc nx (decode (sd_by mi) pc)) || (Nat.beq op 17 && sd_c17 pc nx (decode (sd_by mi) pc)) || (Nat.beq op 18 && sd_c18 pc nx (decode (sd_by mi) pc))
noncomputable def sd_g2 (mi pc op nx a b : Nat) (v : Int) (ts : List Nat) : Bool := (Nat.beq op 19 && sd_c19 pc nx (decode (sd_by mi) pc)) || (Nat.beq op 20 && sd_c20 pc nx (decode (sd_by mi) pc)) || (Nat.beq op 21 && sd_c21 pc nx (decode (sd_by mi) pc)) || (Nat.beq op 22 && sd_c22 pc nx (decode (sd_by mi) pc)) || (Nat.beq op 23 && sd_c23 pc nx (decode (sd_by mi) pc)) || (Nat.beq op 24 && sd_c24 pc nx (decode (sd_by mi) pc)) || (Nat.beq op 25 && sd_c25 pc nx (decode (sd_by mi) pc)) || (Nat.beq op 26 && sd_c26 pc nx (decode (sd_by mi) pc)) || (Nat.beq op 27 && sd_c27 pc nx (decode (sd_by mi) pc))
noncomputable def sd_g3 (mi pc op nx a b : Nat) (v : Int) (ts : List Nat) : Bool := (Nat.beq op 28 && sd_c28 pc nx (decode (sd_by mi) pc)) || (Nat.beq op 29 && sd_c29 pc nx (decode (sd_by mi) pc)) || (Nat.beq op 30 && sd_c30 pc nx v (decode (sd_by mi) pc)) || (Nat.beq op 31 && sd_c31 pc nx a b (decode (sd_by mi) pc)) || (Nat.beq op 32 && sd_c32 pc nx a b (decode (sd_by mi) pc)) || (Nat.beq op 33 && sd_c33 pc b (decode (sd_by mi) pc)) || (Nat.beq op 34 && sd_c34 pc b v ts (decode (sd_by mi) pc)) || (Nat.beq op 35 && sd_c35 pc nx (decode (sd_by mi) pc)) || (Nat.beq op 36 && sd_c36 pc nx (decode (sd_by mi) pc))
noncomputable def sd_g4 (mi pc op nx a b : Nat) (v : Int) (ts : List Nat) : Bool := (Nat.beq op 37 && sd_c37 pc nx (decode (sd_by mi) pc)) || (Nat.beq op 40 && sd_c40 (sd_oc mi) pc nx a (decode (sd_by mi) pc)) || (Nat.beq op 41 && sd_c41 (sd_oc mi) pc nx a (decode (sd_by mi) pc)) || (Nat.beq op 42 && sd_c42 (sd_oc mi) pc nx a (decode (sd_by mi) pc)) || (Nat.beq op 43 && sd_c43 (sd_oc mi) pc nx (decode (sd_by mi) pc)) || (Nat.beq op 44 && sd_c44 (sd_oc mi) pc nx (decode (sd_by mi) pc)) || (Nat.beq op 45 && sd_c45 mi pc a) || (Nat.beq op 46 && sd_c46 (sd_oc mi) pc nx a (decode (sd_by mi) pc)) || (Nat.beq op 47 && sd_c47 pc nx (decode (sd_by mi) pc))
noncomputable def sd_g5 (mi pc op nx a b : Nat) (v : Int) (ts : List Nat) : Bool := (Nat.beq op 48 && sd_c48 pc nx (decode (sd_by mi) pc)) || (Nat.beq op 49 && sd_c49 (sd_oc mi) pc nx a (decode (sd_by mi) pc)) || (Nat.beq op 50 && sd_c50 (sd_oc mi) pc nx (decode (sd_by mi) pc)) || (Nat.beq op 51 && sd_c51 (sd_oc mi) pc nx (decode (sd_by mi) pc)) || (Nat.beq op 52 && sd_c52 (sd_oc mi) pc nx (decode (sd_by mi) pc)) || (Nat.beq op 53 && sd_c53 (sd_oc mi) pc nx (decode (sd_by mi) pc)) || (Nat.beq op 60 && sd_c60 (sd_rt mi) a (decode (sd_by mi) pc)) || (Nat.beq op 61 && sd_c61 (sd_rt mi) (decode (sd_by mi) pc))
noncomputable def sd_ck (mi pc : Nat) (i : pm_I) : Bool := match i with
  | (op, nx, a, b, v, ts) => sd_g0 mi pc op nx a b v ts || sd_g1 mi pc op nx a b v ts || sd_g2 mi pc op nx a b v ts || sd_g3 mi pc op nx a b v ts || sd_g4 mi pc op nx a b v ts || sd_g5 mi pc op nx a b v ts
