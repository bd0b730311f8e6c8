/-! ===== texts: what a line reads, thing by thing ===== -/
section CHN
variable {r : wQ} {T : Nat → Int32} {n ee : Nat} {s : wP}
theorem wws_44 : wws 2044 = wws 2026 := rfl
theorem wws_45 : wws 2045 = wws 2024 := rfl
theorem wws_46 : wws 2046 = wws 2025 := rfl
theorem wws_47 : wws 2047 = wws 2027 := rfl
theorem wws_48 : wws 2048 = wws 2015 := rfl
theorem wws_49 : wws 2049 = wws 2016 := rfl
theorem wws_50 : wws 2050 = wws 2017 := rfl
theorem wws_51 : wws 2051 = wws 2018 := rfl
theorem wws_52 : wws 2052 = wws 2019 := rfl
theorem wws_53 : wws 2053 = wws 2020 := rfl
theorem wws_54 : wws 2054 = wws 2021 := rfl
theorem wws_55 : wws 2055 = wws 2022 := rfl
theorem wws_56 : wws 2056 = wws 2023 := rfl
theorem wws_57 : wws 2057 = wws 2028 := rfl
theorem wws_58 : wws 2058 = wws 2036 := rfl
theorem wws_59 : wws 2059 = wws 2037 := rfl
theorem wws_60 : wws 2060 = wws 2038 := rfl
theorem wws_61 : wws 2061 = wws 2039 := rfl
theorem wws_62 : wws 2062 = wws 2040 := rfl
theorem wws_63 : wws 2063 = wws 2041 := rfl
theorem wws_64 : wws 2064 = wws 2034 := rfl
theorem wws_65 : wws 2065 = wws 2033 := rfl
theorem wws_66 : wws 2066 = wws 2032 := rfl
theorem wws_67 : wws 2067 = wws 2031 := rfl
theorem wws_68 : wws 2068 = wws 2029 := rfl
theorem wws_69 : wws 2069 = wws 2030 := rfl
theorem wws_35 : wws 2049 = wws 2035 := rfl
noncomputable def cP1 (T : Nat → Int32) (n : Nat) (s : wP) : wP := tNs T n (wn 1) 3 (wn 1) (wn 300) s
noncomputable def vP1 (T : Nat → Int32) (n : Nat) (s : wP) : Int32 := tNv T n (wn 1) 3 (wn 1) (wn 300) s
noncomputable def rP1 (T : Nat → Int32) (n : Nat) (r : wQ) : wQ := rFs T n 3 (wn 1) (wn 300) r
noncomputable def uP1 (T : Nat → Int32) (n : Nat) (r : wQ) : Int32 := rFv T n 3 r
noncomputable def cP2 (T : Nat → Int32) (n : Nat) (s : wP) : wP := tNs T n (wn 1) 3 (wn 0) (wn 20) (cP1 T n s)
noncomputable def vP2 (T : Nat → Int32) (n : Nat) (s : wP) : Int32 := tNv T n (wn 1) 3 (wn 0) (wn 20) (cP1 T n s)
noncomputable def rP2 (T : Nat → Int32) (n : Nat) (r : wQ) : wQ := rFs T n 3 (wn 0) (wn 20) (rP1 T n r)
noncomputable def uP2 (T : Nat → Int32) (n : Nat) (r : wQ) : Int32 := rFv T n 3 (rP1 T n r)
noncomputable def cP3 (T : Nat → Int32) (n : Nat) (s : wP) : wP := tNs T n (wn 1) 3 (wn 0) (wn 99) (cP2 T n s)
noncomputable def vP3 (T : Nat → Int32) (n : Nat) (s : wP) : Int32 := tNv T n (wn 1) 3 (wn 0) (wn 99) (cP2 T n s)
noncomputable def rP3 (T : Nat → Int32) (n : Nat) (r : wQ) : wQ := rFs T n 3 (wn 0) (wn 99) (rP2 T n r)
noncomputable def uP3 (T : Nat → Int32) (n : Nat) (r : wQ) : Int32 := rFv T n 3 (rP2 T n r)
noncomputable def cP4 (T : Nat → Int32) (n : Nat) (s : wP) : wP := tNs T n (wn 1) 3 (vP3 T n s) (wn 99) (cP3 T n s)
noncomputable def vP4 (T : Nat → Int32) (n : Nat) (s : wP) : Int32 := tNv T n (wn 1) 3 (vP3 T n s) (wn 99) (cP3 T n s)
noncomputable def rP4 (T : Nat → Int32) (n : Nat) (r : wQ) : wQ := rFs T n 3 (uP3 T n r) (wn 99) (rP3 T n r)
noncomputable def uP4 (T : Nat → Int32) (n : Nat) (r : wQ) : Int32 := rFv T n 3 (rP3 T n r)
theorem cP1_le (h : s.1 ≤ n) : (cP1 T n s).1 ≤ n := (tNs_le) ((fun h => h) h)
theorem cP2_le (h : s.1 ≤ n) : (cP2 T n s).1 ≤ n := (tNs_le) ((cP1_le) h)
theorem cP3_le (h : s.1 ≤ n) : (cP3 T n s).1 ≤ n := (tNs_le) ((cP2_le) h)
theorem cP4_le (h : s.1 ≤ n) : (cP4 T n s).1 ≤ n := (tNs_le) ((cP3_le) h)
theorem lkc_P (h : wLk T n ee s r) (hn : n ≤ 400) : wLk T n ee (cP4 T n s) (rP4 T n r) ∧ ((cP4 T n s).2 = false → s.2 = false ∧ (uP1 T n r = vP1 T n s ∧ (wn 1) ≤ vP1 T n s ∧ vP1 T n s ≤ wn 300) ∧ (uP2 T n r = vP2 T n s ∧ (wn 0) ≤ vP2 T n s ∧ vP2 T n s ≤ wn 20) ∧ (uP3 T n r = vP3 T n s ∧ (wn 0) ≤ vP3 T n s ∧ vP3 T n s ≤ wn 99) ∧ (uP4 T n r = vP4 T n s ∧ (vP3 T n s) ≤ vP4 T n s ∧ vP4 T n s ≤ wn 99)) := by
  have l0 := h
  have o1 : (cP1 T n s).2 = false → s.2 = false := tNs_2
  obtain ⟨l1, p1⟩ : wLk T n ee (cP1 T n s) (rP1 T n r) ∧ ((cP1 T n s).2 = false → uP1 T n r = vP1 T n s) := lk_F l0 hn (fun _ => rfl)
  have q1 : (cP1 T n s).2 = false → _ ≤ vP1 T n s ∧ vP1 T n s ≤ _ := tNv_r
  have o2 : (cP2 T n s).2 = false → (cP1 T n s).2 = false := tNs_2
  obtain ⟨l2, p2⟩ : wLk T n ee (cP2 T n s) (rP2 T n r) ∧ ((cP2 T n s).2 = false → uP2 T n r = vP2 T n s) := lk_F l1 hn (fun _ => rfl)
  have q2 : (cP2 T n s).2 = false → _ ≤ vP2 T n s ∧ vP2 T n s ≤ _ := tNv_r
  have o3 : (cP3 T n s).2 = false → (cP2 T n s).2 = false := tNs_2
  obtain ⟨l3, p3⟩ : wLk T n ee (cP3 T n s) (rP3 T n r) ∧ ((cP3 T n s).2 = false → uP3 T n r = vP3 T n s) := lk_F l2 hn (fun _ => rfl)
  have q3 : (cP3 T n s).2 = false → _ ≤ vP3 T n s ∧ vP3 T n s ≤ _ := tNv_r
  have o4 : (cP4 T n s).2 = false → (cP3 T n s).2 = false := tNs_2
  obtain ⟨l4, p4⟩ : wLk T n ee (cP4 T n s) (rP4 T n r) ∧ ((cP4 T n s).2 = false → uP4 T n r = vP4 T n s) := lk_F l3 hn (fun h2 => p3 h2)
  have q4 : (cP4 T n s).2 = false → _ ≤ vP4 T n s ∧ vP4 T n s ≤ _ := tNv_r
  refine ⟨l4, fun f4 => ?_⟩
  have f3 := o4 f4
  have f2 := o3 f3
  have f1 := o2 f2
  have f0 := o1 f1
  exact ⟨f0, ⟨p1 f1, q1 f1⟩, ⟨p2 f2, q2 f2⟩, ⟨p3 f3, q3 f3⟩, ⟨p4 f4, q4 f4⟩⟩
noncomputable def cT1 (T : Nat → Int32) (n : Nat) (s : wP) : wP := tNs T n (tVg T n s) 3 (wi (-99)) (wn 99) (tWs T n 2042 s)
noncomputable def vT1 (T : Nat → Int32) (n : Nat) (s : wP) : Int32 := tNv T n (tVg T n s) 3 (wi (-99)) (wn 99) (tWs T n 2042 s)
noncomputable def rT1 (T : Nat → Int32) (n : Nat) (r : wQ) : wQ := rGs T n (wn 99) (wi (-999)) r
noncomputable def uT1 (T : Nat → Int32) (n : Nat) (r : wQ) : Int32 := rGv T n r
noncomputable def cT2 (T : Nat → Int32) (n : Nat) (s : wP) : wP := tNs T n (wn 1) 3 (wn 1) (wn 300) (cT1 T n s)
noncomputable def vT2 (T : Nat → Int32) (n : Nat) (s : wP) : Int32 := tNv T n (wn 1) 3 (wn 1) (wn 300) (cT1 T n s)
noncomputable def rT2 (T : Nat → Int32) (n : Nat) (r : wQ) : wQ := rFs T n 3 (wn 1) (wn 300) (rT1 T n r)
noncomputable def uT2 (T : Nat → Int32) (n : Nat) (r : wQ) : Int32 := rFv T n 3 (rT1 T n r)
noncomputable def cT3 (T : Nat → Int32) (n : Nat) (s : wP) : wP := tNs T n (wn 1) 3 (wn 0) (wn 20) (cT2 T n s)
noncomputable def vT3 (T : Nat → Int32) (n : Nat) (s : wP) : Int32 := tNv T n (wn 1) 3 (wn 0) (wn 20) (cT2 T n s)
noncomputable def rT3 (T : Nat → Int32) (n : Nat) (r : wQ) : wQ := rFs T n 3 (wn 0) (wn 20) (rT2 T n r)
noncomputable def uT3 (T : Nat → Int32) (n : Nat) (r : wQ) : Int32 := rFv T n 3 (rT2 T n r)
noncomputable def cT4 (T : Nat → Int32) (n : Nat) (s : wP) : wP := tNs T n (wn 1) 3 (wn 0) (wn 99) (cT3 T n s)
noncomputable def vT4 (T : Nat → Int32) (n : Nat) (s : wP) : Int32 := tNv T n (wn 1) 3 (wn 0) (wn 99) (cT3 T n s)
noncomputable def rT4 (T : Nat → Int32) (n : Nat) (r : wQ) : wQ := rFs T n 3 (wn 0) (wn 99) (rT3 T n r)
noncomputable def uT4 (T : Nat → Int32) (n : Nat) (r : wQ) : Int32 := rFv T n 3 (rT3 T n r)
noncomputable def cT5 (T : Nat → Int32) (n : Nat) (s : wP) : wP := tNs T n (wn 1) 3 (vT4 T n s) (wn 99) (cT4 T n s)
noncomputable def vT5 (T : Nat → Int32) (n : Nat) (s : wP) : Int32 := tNv T n (wn 1) 3 (vT4 T n s) (wn 99) (cT4 T n s)
noncomputable def rT5 (T : Nat → Int32) (n : Nat) (r : wQ) : wQ := rFs T n 3 (uT4 T n r) (wn 99) (rT4 T n r)
noncomputable def uT5 (T : Nat → Int32) (n : Nat) (r : wQ) : Int32 := rFv T n 3 (rT4 T n r)
noncomputable def cT6 (T : Nat → Int32) (n : Nat) (s : wP) : wP := nWs T n 2024 (cT5 T n s)
noncomputable def rT6 (T : Nat → Int32) (n : Nat) (r : wQ) : wQ := rMs T n 2045 (rT5 T n r)
noncomputable def cT7 (T : Nat → Int32) (n : Nat) (s : wP) : wP := tNs T n (wn 1) 3 (wn 0) (wn 999) (cT6 T n s)
noncomputable def vT7 (T : Nat → Int32) (n : Nat) (s : wP) : Int32 := tNv T n (wn 1) 3 (wn 0) (wn 999) (cT6 T n s)
noncomputable def rT7 (T : Nat → Int32) (n : Nat) (r : wQ) : wQ := rFs T n 3 (wn 0) (wn 999) (rT6 T n r)
noncomputable def uT7 (T : Nat → Int32) (n : Nat) (r : wQ) : Int32 := rFv T n 3 (rT6 T n r)
noncomputable def cT8 (T : Nat → Int32) (n : Nat) (s : wP) : wP := nWs T n 2025 (cT7 T n s)
noncomputable def rT8 (T : Nat → Int32) (n : Nat) (r : wQ) : wQ := rMs T n 2046 (rT7 T n r)
noncomputable def cT9 (T : Nat → Int32) (n : Nat) (s : wP) : wP := tNs T n (wn 1) 3 (vT7 T n s) (wn 999) (cT8 T n s)
noncomputable def vT9 (T : Nat → Int32) (n : Nat) (s : wP) : Int32 := tNv T n (wn 1) 3 (vT7 T n s) (wn 999) (cT8 T n s)
noncomputable def rT9 (T : Nat → Int32) (n : Nat) (r : wQ) : wQ := rFs T n 3 (uT7 T n r) (wn 999) (rT8 T n r)
noncomputable def uT9 (T : Nat → Int32) (n : Nat) (r : wQ) : Int32 := rFv T n 3 (rT8 T n r)
theorem cT1_le (h : s.1 ≤ n) : (cT1 T n s).1 ≤ n := (fun h => tNs_le (tWs_le h)) ((fun h => h) h)
theorem cT2_le (h : s.1 ≤ n) : (cT2 T n s).1 ≤ n := (tNs_le) ((cT1_le) h)
theorem cT3_le (h : s.1 ≤ n) : (cT3 T n s).1 ≤ n := (tNs_le) ((cT2_le) h)
theorem cT4_le (h : s.1 ≤ n) : (cT4 T n s).1 ≤ n := (tNs_le) ((cT3_le) h)
theorem cT5_le (h : s.1 ≤ n) : (cT5 T n s).1 ≤ n := (tNs_le) ((cT4_le) h)
theorem cT6_le (h : s.1 ≤ n) : (cT6 T n s).1 ≤ n := (nWs_le) ((cT5_le) h)
theorem cT7_le (h : s.1 ≤ n) : (cT7 T n s).1 ≤ n := (tNs_le) ((cT6_le) h)
theorem cT8_le (h : s.1 ≤ n) : (cT8 T n s).1 ≤ n := (nWs_le) ((cT7_le) h)
theorem cT9_le (h : s.1 ≤ n) : (cT9 T n s).1 ≤ n := (tNs_le) ((cT8_le) h)
theorem lkc_T (h : wLk T n ee s r) (hn : n ≤ 400) : wLk T n ee (cT9 T n s) (rT9 T n r) ∧ ((cT9 T n s).2 = false → s.2 = false ∧ (uT1 T n r = vT1 T n s ∧ (wi (-99)) ≤ vT1 T n s ∧ vT1 T n s ≤ wn 99) ∧ (uT2 T n r = vT2 T n s ∧ (wn 1) ≤ vT2 T n s ∧ vT2 T n s ≤ wn 300) ∧ (uT3 T n r = vT3 T n s ∧ (wn 0) ≤ vT3 T n s ∧ vT3 T n s ≤ wn 20) ∧ (uT4 T n r = vT4 T n s ∧ (wn 0) ≤ vT4 T n s ∧ vT4 T n s ≤ wn 99) ∧ (uT5 T n r = vT5 T n s ∧ (vT4 T n s) ≤ vT5 T n s ∧ vT5 T n s ≤ wn 99) ∧ (uT7 T n r = vT7 T n s ∧ (wn 0) ≤ vT7 T n s ∧ vT7 T n s ≤ wn 999) ∧ (uT9 T n r = vT9 T n s ∧ (vT7 T n s) ≤ vT9 T n s ∧ vT9 T n s ≤ wn 999)) := by
  have l0 := h
  have o1 : (cT1 T n s).2 = false → s.2 = false := fun h2 => by have := tNs_2 h2; rw [tWs_2] at this; exact this
  obtain ⟨l1, p1⟩ : wLk T n ee (cT1 T n s) (rT1 T n r) ∧ ((cT1 T n s).2 = false → uT1 T n r = vT1 T n s) := lk_G l0 hn (by decide) (fun _ => by decide)
  have q1 : (cT1 T n s).2 = false → _ ≤ vT1 T n s ∧ vT1 T n s ≤ _ := tNv_r
  have o2 : (cT2 T n s).2 = false → (cT1 T n s).2 = false := tNs_2
  obtain ⟨l2, p2⟩ : wLk T n ee (cT2 T n s) (rT2 T n r) ∧ ((cT2 T n s).2 = false → uT2 T n r = vT2 T n s) := lk_F l1 hn (fun _ => rfl)
  have q2 : (cT2 T n s).2 = false → _ ≤ vT2 T n s ∧ vT2 T n s ≤ _ := tNv_r
  have o3 : (cT3 T n s).2 = false → (cT2 T n s).2 = false := tNs_2
  obtain ⟨l3, p3⟩ : wLk T n ee (cT3 T n s) (rT3 T n r) ∧ ((cT3 T n s).2 = false → uT3 T n r = vT3 T n s) := lk_F l2 hn (fun _ => rfl)
  have q3 : (cT3 T n s).2 = false → _ ≤ vT3 T n s ∧ vT3 T n s ≤ _ := tNv_r
  have o4 : (cT4 T n s).2 = false → (cT3 T n s).2 = false := tNs_2
  obtain ⟨l4, p4⟩ : wLk T n ee (cT4 T n s) (rT4 T n r) ∧ ((cT4 T n s).2 = false → uT4 T n r = vT4 T n s) := lk_F l3 hn (fun _ => rfl)
  have q4 : (cT4 T n s).2 = false → _ ≤ vT4 T n s ∧ vT4 T n s ≤ _ := tNv_r
  have o5 : (cT5 T n s).2 = false → (cT4 T n s).2 = false := tNs_2
  obtain ⟨l5, p5⟩ : wLk T n ee (cT5 T n s) (rT5 T n r) ∧ ((cT5 T n s).2 = false → uT5 T n r = vT5 T n s) := lk_F l4 hn (fun h2 => p4 h2)
  have q5 : (cT5 T n s).2 = false → _ ≤ vT5 T n s ∧ vT5 T n s ≤ _ := tNv_r
  have o6 : (cT6 T n s).2 = false → (cT5 T n s).2 = false := nWs_2
  have l6 : wLk T n ee (cT6 T n s) (rT6 T n r) := lk_Mn l5 hn wws_45
  have o7 : (cT7 T n s).2 = false → (cT6 T n s).2 = false := tNs_2
  obtain ⟨l7, p7⟩ : wLk T n ee (cT7 T n s) (rT7 T n r) ∧ ((cT7 T n s).2 = false → uT7 T n r = vT7 T n s) := lk_F l6 hn (fun _ => rfl)
  have q7 : (cT7 T n s).2 = false → _ ≤ vT7 T n s ∧ vT7 T n s ≤ _ := tNv_r
  have o8 : (cT8 T n s).2 = false → (cT7 T n s).2 = false := nWs_2
  have l8 : wLk T n ee (cT8 T n s) (rT8 T n r) := lk_Mn l7 hn wws_46
  have o9 : (cT9 T n s).2 = false → (cT8 T n s).2 = false := tNs_2
  obtain ⟨l9, p9⟩ : wLk T n ee (cT9 T n s) (rT9 T n r) ∧ ((cT9 T n s).2 = false → uT9 T n r = vT9 T n s) := lk_F l8 hn (fun h2 => p7 (o8 h2))
  have q9 : (cT9 T n s).2 = false → _ ≤ vT9 T n s ∧ vT9 T n s ≤ _ := tNv_r
  refine ⟨l9, fun f9 => ?_⟩
  have f8 := o9 f9
  have f7 := o8 f8
  have f6 := o7 f7
  have f5 := o6 f6
  have f4 := o5 f5
  have f3 := o4 f4
  have f2 := o3 f3
  have f1 := o2 f2
  have f0 := o1 f1
  exact ⟨f0, ⟨p1 f1, q1 f1⟩, ⟨p2 f2, q2 f2⟩, ⟨p3 f3, q3 f3⟩, ⟨p4 f4, q4 f4⟩, ⟨p5 f5, q5 f5⟩, ⟨p7 f7, q7 f7⟩, ⟨p9 f9, q9 f9⟩⟩
noncomputable def cS1 (T : Nat → Int32) (n : Nat) (s : wP) : wP := tNs T n (tVg T n s) 3 (wi (-999)) (wn 999) (tWs T n 2042 s)
noncomputable def vS1 (T : Nat → Int32) (n : Nat) (s : wP) : Int32 := tNv T n (tVg T n s) 3 (wi (-999)) (wn 999) (tWs T n 2042 s)
noncomputable def rS1 (T : Nat → Int32) (n : Nat) (r : wQ) : wQ := rGs T n (wn 999) (wi (-999)) r
noncomputable def uS1 (T : Nat → Int32) (n : Nat) (r : wQ) : Int32 := rGv T n r
noncomputable def cS2 (T : Nat → Int32) (n : Nat) (s : wP) : wP := tNs T n (wn 1) 3 (wn 1) (wn 300) (cS1 T n s)
noncomputable def vS2 (T : Nat → Int32) (n : Nat) (s : wP) : Int32 := tNv T n (wn 1) 3 (wn 1) (wn 300) (cS1 T n s)
noncomputable def rS2 (T : Nat → Int32) (n : Nat) (r : wQ) : wQ := rFs T n 3 (wn 1) (wn 300) (rS1 T n r)
noncomputable def uS2 (T : Nat → Int32) (n : Nat) (r : wQ) : Int32 := rFv T n 3 (rS1 T n r)
noncomputable def cS3 (T : Nat → Int32) (n : Nat) (s : wP) : wP := tNs T n (wn 1) 3 (wn 0) (wn 20) (cS2 T n s)
noncomputable def vS3 (T : Nat → Int32) (n : Nat) (s : wP) : Int32 := tNv T n (wn 1) 3 (wn 0) (wn 20) (cS2 T n s)
noncomputable def rS3 (T : Nat → Int32) (n : Nat) (r : wQ) : wQ := rFs T n 3 (wn 0) (wn 20) (rS2 T n r)
noncomputable def uS3 (T : Nat → Int32) (n : Nat) (r : wQ) : Int32 := rFv T n 3 (rS2 T n r)
noncomputable def cS4 (T : Nat → Int32) (n : Nat) (s : wP) : wP := tNs T n (wn 1) 3 (wn 0) (wn 99) (cS3 T n s)
noncomputable def vS4 (T : Nat → Int32) (n : Nat) (s : wP) : Int32 := tNv T n (wn 1) 3 (wn 0) (wn 99) (cS3 T n s)
noncomputable def rS4 (T : Nat → Int32) (n : Nat) (r : wQ) : wQ := rFs T n 3 (wn 0) (wn 99) (rS3 T n r)
noncomputable def uS4 (T : Nat → Int32) (n : Nat) (r : wQ) : Int32 := rFv T n 3 (rS3 T n r)
noncomputable def cS5 (T : Nat → Int32) (n : Nat) (s : wP) : wP := tNs T n (wn 1) 3 (vS4 T n s) (wn 99) (cS4 T n s)
noncomputable def vS5 (T : Nat → Int32) (n : Nat) (s : wP) : Int32 := tNv T n (wn 1) 3 (vS4 T n s) (wn 99) (cS4 T n s)
noncomputable def rS5 (T : Nat → Int32) (n : Nat) (r : wQ) : wQ := rFs T n 3 (uS4 T n r) (wn 99) (rS4 T n r)
noncomputable def uS5 (T : Nat → Int32) (n : Nat) (r : wQ) : Int32 := rFv T n 3 (rS4 T n r)
noncomputable def cS6 (T : Nat → Int32) (n : Nat) (s : wP) : wP := nWs T n 2026 (cS5 T n s)
noncomputable def rS6 (T : Nat → Int32) (n : Nat) (r : wQ) : wQ := rMs T n 2044 (rS5 T n r)
noncomputable def cS7 (T : Nat → Int32) (n : Nat) (s : wP) : wP := tNs T n (tVg T n (cS6 T n s)) 3 (wi (-9)) (wn 9) (tWs T n 2042 (cS6 T n s))
noncomputable def vS7 (T : Nat → Int32) (n : Nat) (s : wP) : Int32 := tNv T n (tVg T n (cS6 T n s)) 3 (wi (-9)) (wn 9) (tWs T n 2042 (cS6 T n s))
noncomputable def rS7 (T : Nat → Int32) (n : Nat) (r : wQ) : wQ := rGs T n (wn 9) (wi (-9)) (rS6 T n r)
noncomputable def uS7 (T : Nat → Int32) (n : Nat) (r : wQ) : Int32 := rGv T n (rS6 T n r)
noncomputable def cS8 (T : Nat → Int32) (n : Nat) (s : wP) : wP := nWs T n 2024 (cS7 T n s)
noncomputable def rS8 (T : Nat → Int32) (n : Nat) (r : wQ) : wQ := rMs T n 2045 (rS7 T n r)
noncomputable def cS9 (T : Nat → Int32) (n : Nat) (s : wP) : wP := tNs T n (wn 1) 4 (wn 0) (wn 1439) (cS8 T n s)
noncomputable def vS9 (T : Nat → Int32) (n : Nat) (s : wP) : Int32 := tNv T n (wn 1) 4 (wn 0) (wn 1439) (cS8 T n s)
noncomputable def rS9 (T : Nat → Int32) (n : Nat) (r : wQ) : wQ := rFs T n 4 (wn 0) (wn 1439) (rS8 T n r)
noncomputable def uS9 (T : Nat → Int32) (n : Nat) (r : wQ) : Int32 := rFv T n 4 (rS8 T n r)
noncomputable def cS10 (T : Nat → Int32) (n : Nat) (s : wP) : wP := nWs T n 2025 (cS9 T n s)
noncomputable def rS10 (T : Nat → Int32) (n : Nat) (r : wQ) : wQ := rMs T n 2046 (rS9 T n r)
noncomputable def cS11 (T : Nat → Int32) (n : Nat) (s : wP) : wP := tNs T n (wn 1) 4 (vS9 T n s) (wn 1439) (cS10 T n s)
noncomputable def vS11 (T : Nat → Int32) (n : Nat) (s : wP) : Int32 := tNv T n (wn 1) 4 (vS9 T n s) (wn 1439) (cS10 T n s)
noncomputable def rS11 (T : Nat → Int32) (n : Nat) (r : wQ) : wQ := rFs T n 4 (uS9 T n r) (wn 1439) (rS10 T n r)
noncomputable def uS11 (T : Nat → Int32) (n : Nat) (r : wQ) : Int32 := rFv T n 4 (rS10 T n r)
theorem cS1_le (h : s.1 ≤ n) : (cS1 T n s).1 ≤ n := (fun h => tNs_le (tWs_le h)) ((fun h => h) h)
theorem cS2_le (h : s.1 ≤ n) : (cS2 T n s).1 ≤ n := (tNs_le) ((cS1_le) h)
theorem cS3_le (h : s.1 ≤ n) : (cS3 T n s).1 ≤ n := (tNs_le) ((cS2_le) h)
theorem cS4_le (h : s.1 ≤ n) : (cS4 T n s).1 ≤ n := (tNs_le) ((cS3_le) h)
theorem cS5_le (h : s.1 ≤ n) : (cS5 T n s).1 ≤ n := (tNs_le) ((cS4_le) h)
theorem cS6_le (h : s.1 ≤ n) : (cS6 T n s).1 ≤ n := (nWs_le) ((cS5_le) h)
theorem cS7_le (h : s.1 ≤ n) : (cS7 T n s).1 ≤ n := (fun h => tNs_le (tWs_le h)) ((cS6_le) h)
theorem cS8_le (h : s.1 ≤ n) : (cS8 T n s).1 ≤ n := (nWs_le) ((cS7_le) h)
theorem cS9_le (h : s.1 ≤ n) : (cS9 T n s).1 ≤ n := (tNs_le) ((cS8_le) h)
theorem cS10_le (h : s.1 ≤ n) : (cS10 T n s).1 ≤ n := (nWs_le) ((cS9_le) h)
theorem cS11_le (h : s.1 ≤ n) : (cS11 T n s).1 ≤ n := (tNs_le) ((cS10_le) h)
theorem lkc_S (h : wLk T n ee s r) (hn : n ≤ 400) : wLk T n ee (cS11 T n s) (rS11 T n r) ∧ ((cS11 T n s).2 = false → s.2 = false ∧ (uS1 T n r = vS1 T n s ∧ (wi (-999)) ≤ vS1 T n s ∧ vS1 T n s ≤ wn 999) ∧ (uS2 T n r = vS2 T n s ∧ (wn 1) ≤ vS2 T n s ∧ vS2 T n s ≤ wn 300) ∧ (uS3 T n r = vS3 T n s ∧ (wn 0) ≤ vS3 T n s ∧ vS3 T n s ≤ wn 20) ∧ (uS4 T n r = vS4 T n s ∧ (wn 0) ≤ vS4 T n s ∧ vS4 T n s ≤ wn 99) ∧ (uS5 T n r = vS5 T n s ∧ (vS4 T n s) ≤ vS5 T n s ∧ vS5 T n s ≤ wn 99) ∧ (uS7 T n r = vS7 T n s ∧ (wi (-9)) ≤ vS7 T n s ∧ vS7 T n s ≤ wn 9) ∧ (uS9 T n r = vS9 T n s ∧ (wn 0) ≤ vS9 T n s ∧ vS9 T n s ≤ wn 1439) ∧ (uS11 T n r = vS11 T n s ∧ (vS9 T n s) ≤ vS11 T n s ∧ vS11 T n s ≤ wn 1439)) := by
  have l0 := h
  have o1 : (cS1 T n s).2 = false → s.2 = false := fun h2 => by have := tNs_2 h2; rw [tWs_2] at this; exact this
  obtain ⟨l1, p1⟩ : wLk T n ee (cS1 T n s) (rS1 T n r) ∧ ((cS1 T n s).2 = false → uS1 T n r = vS1 T n s) := lk_G l0 hn (by decide) (fun _ => by decide)
  have q1 : (cS1 T n s).2 = false → _ ≤ vS1 T n s ∧ vS1 T n s ≤ _ := tNv_r
  have o2 : (cS2 T n s).2 = false → (cS1 T n s).2 = false := tNs_2
  obtain ⟨l2, p2⟩ : wLk T n ee (cS2 T n s) (rS2 T n r) ∧ ((cS2 T n s).2 = false → uS2 T n r = vS2 T n s) := lk_F l1 hn (fun _ => rfl)
  have q2 : (cS2 T n s).2 = false → _ ≤ vS2 T n s ∧ vS2 T n s ≤ _ := tNv_r
  have o3 : (cS3 T n s).2 = false → (cS2 T n s).2 = false := tNs_2
  obtain ⟨l3, p3⟩ : wLk T n ee (cS3 T n s) (rS3 T n r) ∧ ((cS3 T n s).2 = false → uS3 T n r = vS3 T n s) := lk_F l2 hn (fun _ => rfl)
  have q3 : (cS3 T n s).2 = false → _ ≤ vS3 T n s ∧ vS3 T n s ≤ _ := tNv_r
  have o4 : (cS4 T n s).2 = false → (cS3 T n s).2 = false := tNs_2
  obtain ⟨l4, p4⟩ : wLk T n ee (cS4 T n s) (rS4 T n r) ∧ ((cS4 T n s).2 = false → uS4 T n r = vS4 T n s) := lk_F l3 hn (fun _ => rfl)
  have q4 : (cS4 T n s).2 = false → _ ≤ vS4 T n s ∧ vS4 T n s ≤ _ := tNv_r
  have o5 : (cS5 T n s).2 = false → (cS4 T n s).2 = false := tNs_2
  obtain ⟨l5, p5⟩ : wLk T n ee (cS5 T n s) (rS5 T n r) ∧ ((cS5 T n s).2 = false → uS5 T n r = vS5 T n s) := lk_F l4 hn (fun h2 => p4 h2)
  have q5 : (cS5 T n s).2 = false → _ ≤ vS5 T n s ∧ vS5 T n s ≤ _ := tNv_r
  have o6 : (cS6 T n s).2 = false → (cS5 T n s).2 = false := nWs_2
  have l6 : wLk T n ee (cS6 T n s) (rS6 T n r) := lk_Mn l5 hn wws_44
  have o7 : (cS7 T n s).2 = false → (cS6 T n s).2 = false := fun h2 => by have := tNs_2 h2; rw [tWs_2] at this; exact this
  obtain ⟨l7, p7⟩ : wLk T n ee (cS7 T n s) (rS7 T n r) ∧ ((cS7 T n s).2 = false → uS7 T n r = vS7 T n s) := lk_G l6 hn (by decide) (fun _ => by decide)
  have q7 : (cS7 T n s).2 = false → _ ≤ vS7 T n s ∧ vS7 T n s ≤ _ := tNv_r
  have o8 : (cS8 T n s).2 = false → (cS7 T n s).2 = false := nWs_2
  have l8 : wLk T n ee (cS8 T n s) (rS8 T n r) := lk_Mn l7 hn wws_45
  have o9 : (cS9 T n s).2 = false → (cS8 T n s).2 = false := tNs_2
  obtain ⟨l9, p9⟩ : wLk T n ee (cS9 T n s) (rS9 T n r) ∧ ((cS9 T n s).2 = false → uS9 T n r = vS9 T n s) := lk_F l8 hn (fun _ => rfl)
  have q9 : (cS9 T n s).2 = false → _ ≤ vS9 T n s ∧ vS9 T n s ≤ _ := tNv_r
  have o10 : (cS10 T n s).2 = false → (cS9 T n s).2 = false := nWs_2
  have l10 : wLk T n ee (cS10 T n s) (rS10 T n r) := lk_Mn l9 hn wws_46
  have o11 : (cS11 T n s).2 = false → (cS10 T n s).2 = false := tNs_2
  obtain ⟨l11, p11⟩ : wLk T n ee (cS11 T n s) (rS11 T n r) ∧ ((cS11 T n s).2 = false → uS11 T n r = vS11 T n s) := lk_F l10 hn (fun h2 => p9 (o10 h2))
  have q11 : (cS11 T n s).2 = false → _ ≤ vS11 T n s ∧ vS11 T n s ≤ _ := tNv_r
  refine ⟨l11, fun f11 => ?_⟩
  have f10 := o11 f11
  have f9 := o10 f10
  have f8 := o9 f9
  have f7 := o8 f8
  have f6 := o7 f7
  have f5 := o6 f6
  have f4 := o5 f5
  have f3 := o4 f4
  have f2 := o3 f3
  have f1 := o2 f2
  have f0 := o1 f1
  exact ⟨f0, ⟨p1 f1, q1 f1⟩, ⟨p2 f2, q2 f2⟩, ⟨p3 f3, q3 f3⟩, ⟨p4 f4, q4 f4⟩, ⟨p5 f5, q5 f5⟩, ⟨p7 f7, q7 f7⟩, ⟨p9 f9, q9 f9⟩, ⟨p11 f11, q11 f11⟩⟩
noncomputable def cH1 (T : Nat → Int32) (n : Nat) (s : wP) : wP := tNs T n (tVg T n s) 3 (wi (-50)) (wn 50) (tWs T n 2042 s)
noncomputable def vH1 (T : Nat → Int32) (n : Nat) (s : wP) : Int32 := tNv T n (tVg T n s) 3 (wi (-50)) (wn 50) (tWs T n 2042 s)
noncomputable def rH1 (T : Nat → Int32) (n : Nat) (r : wQ) : wQ := rGs T n (wn 50) (wi (-50)) r
noncomputable def uH1 (T : Nat → Int32) (n : Nat) (r : wQ) : Int32 := rGv T n r
noncomputable def cH2 (T : Nat → Int32) (n : Nat) (s : wP) : wP := tNs T n (wn 1) 3 (wn 1) (wn 50) (cH1 T n s)
noncomputable def vH2 (T : Nat → Int32) (n : Nat) (s : wP) : Int32 := tNv T n (wn 1) 3 (wn 1) (wn 50) (cH1 T n s)
noncomputable def rH2 (T : Nat → Int32) (n : Nat) (r : wQ) : wQ := rFs T n 3 (wn 1) (wn 50) (rH1 T n r)
noncomputable def uH2 (T : Nat → Int32) (n : Nat) (r : wQ) : Int32 := rFv T n 3 (rH1 T n r)
theorem cH1_le (h : s.1 ≤ n) : (cH1 T n s).1 ≤ n := (fun h => tNs_le (tWs_le h)) ((fun h => h) h)
theorem cH2_le (h : s.1 ≤ n) : (cH2 T n s).1 ≤ n := (tNs_le) ((cH1_le) h)
theorem lkc_H (h : wLk T n ee s r) (hn : n ≤ 400) : wLk T n ee (cH2 T n s) (rH2 T n r) ∧ ((cH2 T n s).2 = false → s.2 = false ∧ (uH1 T n r = vH1 T n s ∧ (wi (-50)) ≤ vH1 T n s ∧ vH1 T n s ≤ wn 50) ∧ (uH2 T n r = vH2 T n s ∧ (wn 1) ≤ vH2 T n s ∧ vH2 T n s ≤ wn 50)) := by
  have l0 := h
  have o1 : (cH1 T n s).2 = false → s.2 = false := fun h2 => by have := tNs_2 h2; rw [tWs_2] at this; exact this
  obtain ⟨l1, p1⟩ : wLk T n ee (cH1 T n s) (rH1 T n r) ∧ ((cH1 T n s).2 = false → uH1 T n r = vH1 T n s) := lk_G l0 hn (by decide) (fun _ => by decide)
  have q1 : (cH1 T n s).2 = false → _ ≤ vH1 T n s ∧ vH1 T n s ≤ _ := tNv_r
  have o2 : (cH2 T n s).2 = false → (cH1 T n s).2 = false := tNs_2
  obtain ⟨l2, p2⟩ : wLk T n ee (cH2 T n s) (rH2 T n r) ∧ ((cH2 T n s).2 = false → uH2 T n r = vH2 T n s) := lk_F l1 hn (fun _ => rfl)
  have q2 : (cH2 T n s).2 = false → _ ≤ vH2 T n s ∧ vH2 T n s ≤ _ := tNv_r
  refine ⟨l2, fun f2 => ?_⟩
  have f1 := o2 f2
  have f0 := o1 f1
  exact ⟨f0, ⟨p1 f1, q1 f1⟩, ⟨p2 f2, q2 f2⟩⟩
noncomputable def cW1 (T : Nat → Int32) (n : Nat) (s : wP) : wP := tNs T n (wn 1) 3 (wn 1) (wn 50) s
noncomputable def vW1 (T : Nat → Int32) (n : Nat) (s : wP) : Int32 := tNv T n (wn 1) 3 (wn 1) (wn 50) s
noncomputable def rW1 (T : Nat → Int32) (n : Nat) (r : wQ) : wQ := rFs T n 3 (wn 1) (wn 50) r
noncomputable def uW1 (T : Nat → Int32) (n : Nat) (r : wQ) : Int32 := rFv T n 3 r
noncomputable def cW2 (T : Nat → Int32) (n : Nat) (s : wP) : wP := nWs T n 2024 (cW1 T n s)
noncomputable def rW2 (T : Nat → Int32) (n : Nat) (r : wQ) : wQ := rMs T n 2045 (rW1 T n r)
noncomputable def cW3 (T : Nat → Int32) (n : Nat) (s : wP) : wP := tNs T n (tVg T n (cW2 T n s)) 3 (wi (-99)) (wn 99) (tWs T n 2042 (cW2 T n s))
noncomputable def vW3 (T : Nat → Int32) (n : Nat) (s : wP) : Int32 := tNv T n (tVg T n (cW2 T n s)) 3 (wi (-99)) (wn 99) (tWs T n 2042 (cW2 T n s))
noncomputable def rW3 (T : Nat → Int32) (n : Nat) (r : wQ) : wQ := rGs T n (wn 99) (wi (-99)) (rW2 T n r)
noncomputable def uW3 (T : Nat → Int32) (n : Nat) (r : wQ) : Int32 := rGv T n (rW2 T n r)
noncomputable def cW4 (T : Nat → Int32) (n : Nat) (s : wP) : wP := nWs T n 2025 (cW3 T n s)
noncomputable def rW4 (T : Nat → Int32) (n : Nat) (r : wQ) : wQ := rMs T n 2046 (rW3 T n r)
noncomputable def cW5 (T : Nat → Int32) (n : Nat) (s : wP) : wP := tNs T n (tVg T n (cW4 T n s)) 3 (vW3 T n s) (wn 99) (tWs T n 2042 (cW4 T n s))
noncomputable def vW5 (T : Nat → Int32) (n : Nat) (s : wP) : Int32 := tNv T n (tVg T n (cW4 T n s)) 3 (vW3 T n s) (wn 99) (tWs T n 2042 (cW4 T n s))
noncomputable def rW5 (T : Nat → Int32) (n : Nat) (r : wQ) : wQ := rGs T n (wn 99) (uW3 T n r) (rW4 T n r)
noncomputable def uW5 (T : Nat → Int32) (n : Nat) (r : wQ) : Int32 := rGv T n (rW4 T n r)
noncomputable def cW6 (T : Nat → Int32) (n : Nat) (s : wP) : wP := nWs T n 2027 (cW5 T n s)
noncomputable def rW6 (T : Nat → Int32) (n : Nat) (r : wQ) : wQ := rMs T n 2047 (rW5 T n r)
noncomputable def cW7 (T : Nat → Int32) (n : Nat) (s : wP) : wP := tNs T n (wn 1) 3 (wn 0) (wn 99) (cW6 T n s)
noncomputable def vW7 (T : Nat → Int32) (n : Nat) (s : wP) : Int32 := tNv T n (wn 1) 3 (wn 0) (wn 99) (cW6 T n s)
noncomputable def rW7 (T : Nat → Int32) (n : Nat) (r : wQ) : wQ := rFs T n 3 (wn 0) (wn 99) (rW6 T n r)
noncomputable def uW7 (T : Nat → Int32) (n : Nat) (r : wQ) : Int32 := rFv T n 3 (rW6 T n r)
theorem cW1_le (h : s.1 ≤ n) : (cW1 T n s).1 ≤ n := (tNs_le) ((fun h => h) h)
theorem cW2_le (h : s.1 ≤ n) : (cW2 T n s).1 ≤ n := (nWs_le) ((cW1_le) h)
theorem cW3_le (h : s.1 ≤ n) : (cW3 T n s).1 ≤ n := (fun h => tNs_le (tWs_le h)) ((cW2_le) h)
theorem cW4_le (h : s.1 ≤ n) : (cW4 T n s).1 ≤ n := (nWs_le) ((cW3_le) h)
theorem cW5_le (h : s.1 ≤ n) : (cW5 T n s).1 ≤ n := (fun h => tNs_le (tWs_le h)) ((cW4_le) h)
theorem cW6_le (h : s.1 ≤ n) : (cW6 T n s).1 ≤ n := (nWs_le) ((cW5_le) h)
theorem cW7_le (h : s.1 ≤ n) : (cW7 T n s).1 ≤ n := (tNs_le) ((cW6_le) h)
theorem lkc_W (h : wLk T n ee s r) (hn : n ≤ 400) : wLk T n ee (cW7 T n s) (rW7 T n r) ∧ ((cW7 T n s).2 = false → s.2 = false ∧ (uW1 T n r = vW1 T n s ∧ (wn 1) ≤ vW1 T n s ∧ vW1 T n s ≤ wn 50) ∧ (uW3 T n r = vW3 T n s ∧ (wi (-99)) ≤ vW3 T n s ∧ vW3 T n s ≤ wn 99) ∧ (uW5 T n r = vW5 T n s ∧ (vW3 T n s) ≤ vW5 T n s ∧ vW5 T n s ≤ wn 99) ∧ (uW7 T n r = vW7 T n s ∧ (wn 0) ≤ vW7 T n s ∧ vW7 T n s ≤ wn 99)) := by
  have l0 := h
  have o1 : (cW1 T n s).2 = false → s.2 = false := tNs_2
  obtain ⟨l1, p1⟩ : wLk T n ee (cW1 T n s) (rW1 T n r) ∧ ((cW1 T n s).2 = false → uW1 T n r = vW1 T n s) := lk_F l0 hn (fun _ => rfl)
  have q1 : (cW1 T n s).2 = false → _ ≤ vW1 T n s ∧ vW1 T n s ≤ _ := tNv_r
  have o2 : (cW2 T n s).2 = false → (cW1 T n s).2 = false := nWs_2
  have l2 : wLk T n ee (cW2 T n s) (rW2 T n r) := lk_Mn l1 hn wws_45
  have o3 : (cW3 T n s).2 = false → (cW2 T n s).2 = false := fun h2 => by have := tNs_2 h2; rw [tWs_2] at this; exact this
  obtain ⟨l3, p3⟩ : wLk T n ee (cW3 T n s) (rW3 T n r) ∧ ((cW3 T n s).2 = false → uW3 T n r = vW3 T n s) := lk_G l2 hn (by decide) (fun _ => by decide)
  have q3 : (cW3 T n s).2 = false → _ ≤ vW3 T n s ∧ vW3 T n s ≤ _ := tNv_r
  have o4 : (cW4 T n s).2 = false → (cW3 T n s).2 = false := nWs_2
  have l4 : wLk T n ee (cW4 T n s) (rW4 T n r) := lk_Mn l3 hn wws_46
  have o5 : (cW5 T n s).2 = false → (cW4 T n s).2 = false := fun h2 => by have := tNs_2 h2; rw [tWs_2] at this; exact this
  obtain ⟨l5, p5⟩ : wLk T n ee (cW5 T n s) (rW5 T n r) ∧ ((cW5 T n s).2 = false → uW5 T n r = vW5 T n s) := lk_G l4 hn (by decide) (fun h2 => by
    have e1 := p3 (o4 h2)
    have e2 := (q3 (o4 h2)).1
    rw [wt_le] at e2
    have e3 : (wi (-99)).toInt = -99 := rfl
    have e4 : (wn 99).toInt = 99 := rfl
    rw [e1]
    omega)
  have q5 : (cW5 T n s).2 = false → _ ≤ vW5 T n s ∧ vW5 T n s ≤ _ := tNv_r
  have o6 : (cW6 T n s).2 = false → (cW5 T n s).2 = false := nWs_2
  have l6 : wLk T n ee (cW6 T n s) (rW6 T n r) := lk_Mn l5 hn wws_47
  have o7 : (cW7 T n s).2 = false → (cW6 T n s).2 = false := tNs_2
  obtain ⟨l7, p7⟩ : wLk T n ee (cW7 T n s) (rW7 T n r) ∧ ((cW7 T n s).2 = false → uW7 T n r = vW7 T n s) := lk_F l6 hn (fun _ => rfl)
  have q7 : (cW7 T n s).2 = false → _ ≤ vW7 T n s ∧ vW7 T n s ≤ _ := tNv_r
  refine ⟨l7, fun f7 => ?_⟩
  have f6 := o7 f7
  have f5 := o6 f6
  have f4 := o5 f5
  have f3 := o4 f4
  have f2 := o3 f3
  have f1 := o2 f2
  have f0 := o1 f1
  exact ⟨f0, ⟨p1 f1, q1 f1⟩, ⟨p3 f3, q3 f3⟩, ⟨p5 f5, q5 f5⟩, ⟨p7 f7, q7 f7⟩⟩
end CHN
