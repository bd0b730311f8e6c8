/-! ===== one instruction, whichever; then the run ===== -/
section SDR
variable {p : Program} {l : Launch} {e : Env} {R : Room} {s : State} {m : MethodId} {args : Array Value} {below : List Frame} {meth : Method} {c : Code} {H : Heap} {locs : List Loc} {cells slots : Nat} {Q : State → Prop}
variable {D : va_G} {cI cL : ClassId} {base b0 : Nat} {adX : Nat → Nat} {k0 s0 nL mi d : Nat} {ad : Nat → Nat} {ls st : List Value} {h : pm_H} {Ls : Array Slot} {St : List Value} {pc : Nat} {X : pm_X} {pc' : Nat} {ls' st' : List Value} {h' : pm_H}
theorem sd_stepN (hF : sd_F p l s m meth c mi) (hG : sd_G D cI cL base b0 adX X s) (hR : sd_R D cI cL base adX s R k0 s0 nL ad ls st h Ls St H locs cells slots) (hRm : sd_Rm d R) (hnL : nL = pm_ml mi) {i : pm_I} (hcode : pm_code mi pc = some i) (hs : pm_stp X i ls st h = some (.inl (pc', ls', st', h'))) (kk : sd_Kt p l e R s m args below meth c Q D cI cL base adX k0 s0 nL ad h.1.length pc' ls' st' h') : W p l e R s m args below meth c H locs cells slots Q (F0 m pc Ls St) := by
  have hck := sd_code_ck hcode
  obtain ⟨op, nx, a, b, v, ts⟩ := i
  have hsh := pm_stp_shp (sd_ck_op hck) hs
  obtain ⟨⟨n40, n41, n42, n45, n60, n61⟩, -⟩ := hsh
  simp only [sd_ck, sd_g0, sd_g1, sd_g2, sd_g3, sd_g4, sd_g5, Bool.or_eq_true, Bool.and_eq_true, Nat.beq_eq] at hck
  rcases hck with (((((((((((((⟨e1, hc⟩ | ⟨e1, hc⟩) | ⟨e1, hc⟩) | ⟨e1, hc⟩) | ⟨e1, hc⟩) | ⟨e1, hc⟩) | ⟨e1, hc⟩) | ⟨e1, hc⟩) | ⟨e1, hc⟩) | ((((((((⟨e1, hc⟩ | ⟨e1, hc⟩) | ⟨e1, hc⟩) | ⟨e1, hc⟩) | ⟨e1, hc⟩) | ⟨e1, hc⟩) | ⟨e1, hc⟩) | ⟨e1, hc⟩) | ⟨e1, hc⟩)) | ((((((((⟨e1, hc⟩ | ⟨e1, hc⟩) | ⟨e1, hc⟩) | ⟨e1, hc⟩) | ⟨e1, hc⟩) | ⟨e1, hc⟩) | ⟨e1, hc⟩) | ⟨e1, hc⟩) | ⟨e1, hc⟩)) | ((((((((⟨e1, hc⟩ | ⟨e1, hc⟩) | ⟨e1, hc⟩) | ⟨e1, hc⟩) | ⟨e1, hc⟩) | ⟨e1, hc⟩) | ⟨e1, hc⟩) | ⟨e1, hc⟩) | ⟨e1, hc⟩)) | ((((((((⟨e1, hc⟩ | ⟨e1, hc⟩) | ⟨e1, hc⟩) | ⟨e1, hc⟩) | ⟨e1, hc⟩) | ⟨e1, hc⟩) | ⟨e1, hc⟩) | ⟨e1, hc⟩) | ⟨e1, hc⟩)) | (((((((⟨e1, hc⟩ | ⟨e1, hc⟩) | ⟨e1, hc⟩) | ⟨e1, hc⟩) | ⟨e1, hc⟩) | ⟨e1, hc⟩) | ⟨e1, hc⟩) | ⟨e1, hc⟩))
  · subst e1
    exact sd_s1 hF hG hR hc hs kk
  · subst e1
    exact sd_s2 hF hG hR hc hs kk
  · subst e1
    exact sd_s3 hF hG hR hc hs kk
  · subst e1
    exact sd_s4 hF hG hR hc hs kk
  · subst e1
    exact sd_s5 hF hG hR hc hs kk
  · subst e1
    exact sd_s6 hF hG hR hc hs kk
  · subst e1
    exact sd_s7 hF hG hR hc hs kk
  · subst e1
    exact sd_s8 hF hG hR hcode hc hs kk
  · subst e1
    exact sd_s9 hF hG hR hc hs kk
  · subst e1
    exact sd_s10 hF hG hR hc hs kk
  · subst e1
    exact sd_s11 hF hG hR hc hs kk
  · subst e1
    exact sd_s12 hF hG hR hc hs kk
  · subst e1
    exact sd_s13 hF hG hR hc hs kk
  · subst e1
    exact sd_s14 hF hG hR hc hs kk
  · subst e1
    exact sd_s15 hF hG hR hc hs kk
  · subst e1
    exact sd_s16 hF hG hR hc hs kk
  · subst e1
    exact sd_s17 hF hG hR hc hs kk
  · subst e1
    exact sd_s18 hF hG hR hc hs kk
  · subst e1
    exact sd_s19 hF hG hR hc hs kk
  · subst e1
    exact sd_s20 hF hG hR hc hs kk
  · subst e1
    exact sd_s21 hF hG hR hc hs kk
  · subst e1
    exact sd_s22 hF hG hR hc hs kk
  · subst e1
    exact sd_s23 hF hG hR hc hs kk
  · subst e1
    exact sd_s24 hF hG hR hc hs kk
  · subst e1
    exact sd_s25 hF hG hR hc hs kk
  · subst e1
    exact sd_s26 hF hG hR hc hs kk
  · subst e1
    exact sd_s27 hF hG hR hc hs kk
  · subst e1
    exact sd_s28 hF hG hR hc hs kk
  · subst e1
    exact sd_s29 hF hG hR hc hs kk
  · subst e1
    exact sd_s30 hF hG hR hc hs kk
  · subst e1
    exact sd_s31 hF hG hR hc hs kk
  · subst e1
    exact sd_s32 hF hG hR hc hs kk
  · subst e1
    exact sd_s33 hF hG hR hc hs kk
  · subst e1
    exact sd_s34 hF hG hR hc hs kk
  · subst e1
    exact sd_s35 hF hG hR hc hs kk
  · subst e1
    exact sd_s36 hF hG hR hc hs kk
  · subst e1
    exact sd_s37 hF hG hR hc hs kk
  · subst e1
    exact absurd rfl n40
  · subst e1
    exact absurd rfl n41
  · subst e1
    exact absurd rfl n42
  · subst e1
    exact sd_s43 hF hG hR hRm hnL hc hs kk
  · subst e1
    exact sd_s44 hF hG hR hRm hnL hc hs kk
  · subst e1
    exact absurd rfl n45
  · subst e1
    exact sd_s46 hF hG hR hc hs kk
  · subst e1
    exact sd_s47 hF hG hR hc hs kk
  · subst e1
    exact sd_s48 hF hG hR hc hs kk
  · subst e1
    exact sd_s49 hF hG hR hc hs kk
  · subst e1
    exact sd_s50 hF hG hR hc hs kk
  · subst e1
    exact sd_s51 hF hG hR hc hs kk
  · subst e1
    exact sd_s52 hF hG hR hc hs kk
  · subst e1
    exact sd_s53 hF hG hR hc hs kk
  · subst e1
    exact absurd rfl n60
  · subst e1
    exact absurd rfl n61
theorem sd_ckAt {op nx a b : Nat} {v : Int} {ts : List Nat} (hcode : pm_code mi pc = some (op, nx, a, b, v, ts)) : (op = 40 → sd_c40 (sd_oc mi) pc nx a (decode (sd_by mi) pc) = true) ∧ (op = 41 → sd_c41 (sd_oc mi) pc nx a (decode (sd_by mi) pc) = true) ∧ (op = 42 → sd_c42 (sd_oc mi) pc nx a (decode (sd_by mi) pc) = true) ∧ (op = 45 → sd_c45 mi pc a = true) ∧ (op = 60 → sd_c60 (sd_rt mi) a (decode (sd_by mi) pc) = true) ∧ (op = 61 → sd_c61 (sd_rt mi) (decode (sd_by mi) pc) = true) := by
  have hck := sd_code_ck hcode
  simp only [sd_ck, sd_g0, sd_g1, sd_g2, sd_g3, sd_g4, sd_g5, Bool.or_eq_true, Bool.and_eq_true, Nat.beq_eq] at hck
  rcases hck with (((((((((((((⟨e1, hc⟩ | ⟨e1, hc⟩) | ⟨e1, hc⟩) | ⟨e1, hc⟩) | ⟨e1, hc⟩) | ⟨e1, hc⟩) | ⟨e1, hc⟩) | ⟨e1, hc⟩) | ⟨e1, hc⟩) | ((((((((⟨e1, hc⟩ | ⟨e1, hc⟩) | ⟨e1, hc⟩) | ⟨e1, hc⟩) | ⟨e1, hc⟩) | ⟨e1, hc⟩) | ⟨e1, hc⟩) | ⟨e1, hc⟩) | ⟨e1, hc⟩)) | ((((((((⟨e1, hc⟩ | ⟨e1, hc⟩) | ⟨e1, hc⟩) | ⟨e1, hc⟩) | ⟨e1, hc⟩) | ⟨e1, hc⟩) | ⟨e1, hc⟩) | ⟨e1, hc⟩) | ⟨e1, hc⟩)) | ((((((((⟨e1, hc⟩ | ⟨e1, hc⟩) | ⟨e1, hc⟩) | ⟨e1, hc⟩) | ⟨e1, hc⟩) | ⟨e1, hc⟩) | ⟨e1, hc⟩) | ⟨e1, hc⟩) | ⟨e1, hc⟩)) | ((((((((⟨e1, hc⟩ | ⟨e1, hc⟩) | ⟨e1, hc⟩) | ⟨e1, hc⟩) | ⟨e1, hc⟩) | ⟨e1, hc⟩) | ⟨e1, hc⟩) | ⟨e1, hc⟩) | ⟨e1, hc⟩)) | (((((((⟨e1, hc⟩ | ⟨e1, hc⟩) | ⟨e1, hc⟩) | ⟨e1, hc⟩) | ⟨e1, hc⟩) | ⟨e1, hc⟩) | ⟨e1, hc⟩) | ⟨e1, hc⟩))
  · exact ⟨fun e9 => absurd (e1.symm.trans e9) (by decide), fun e9 => absurd (e1.symm.trans e9) (by decide), fun e9 => absurd (e1.symm.trans e9) (by decide), fun e9 => absurd (e1.symm.trans e9) (by decide), fun e9 => absurd (e1.symm.trans e9) (by decide), fun e9 => absurd (e1.symm.trans e9) (by decide)⟩
  · exact ⟨fun e9 => absurd (e1.symm.trans e9) (by decide), fun e9 => absurd (e1.symm.trans e9) (by decide), fun e9 => absurd (e1.symm.trans e9) (by decide), fun e9 => absurd (e1.symm.trans e9) (by decide), fun e9 => absurd (e1.symm.trans e9) (by decide), fun e9 => absurd (e1.symm.trans e9) (by decide)⟩
  · exact ⟨fun e9 => absurd (e1.symm.trans e9) (by decide), fun e9 => absurd (e1.symm.trans e9) (by decide), fun e9 => absurd (e1.symm.trans e9) (by decide), fun e9 => absurd (e1.symm.trans e9) (by decide), fun e9 => absurd (e1.symm.trans e9) (by decide), fun e9 => absurd (e1.symm.trans e9) (by decide)⟩
  · exact ⟨fun e9 => absurd (e1.symm.trans e9) (by decide), fun e9 => absurd (e1.symm.trans e9) (by decide), fun e9 => absurd (e1.symm.trans e9) (by decide), fun e9 => absurd (e1.symm.trans e9) (by decide), fun e9 => absurd (e1.symm.trans e9) (by decide), fun e9 => absurd (e1.symm.trans e9) (by decide)⟩
  · exact ⟨fun e9 => absurd (e1.symm.trans e9) (by decide), fun e9 => absurd (e1.symm.trans e9) (by decide), fun e9 => absurd (e1.symm.trans e9) (by decide), fun e9 => absurd (e1.symm.trans e9) (by decide), fun e9 => absurd (e1.symm.trans e9) (by decide), fun e9 => absurd (e1.symm.trans e9) (by decide)⟩
  · exact ⟨fun e9 => absurd (e1.symm.trans e9) (by decide), fun e9 => absurd (e1.symm.trans e9) (by decide), fun e9 => absurd (e1.symm.trans e9) (by decide), fun e9 => absurd (e1.symm.trans e9) (by decide), fun e9 => absurd (e1.symm.trans e9) (by decide), fun e9 => absurd (e1.symm.trans e9) (by decide)⟩
  · exact ⟨fun e9 => absurd (e1.symm.trans e9) (by decide), fun e9 => absurd (e1.symm.trans e9) (by decide), fun e9 => absurd (e1.symm.trans e9) (by decide), fun e9 => absurd (e1.symm.trans e9) (by decide), fun e9 => absurd (e1.symm.trans e9) (by decide), fun e9 => absurd (e1.symm.trans e9) (by decide)⟩
  · exact ⟨fun e9 => absurd (e1.symm.trans e9) (by decide), fun e9 => absurd (e1.symm.trans e9) (by decide), fun e9 => absurd (e1.symm.trans e9) (by decide), fun e9 => absurd (e1.symm.trans e9) (by decide), fun e9 => absurd (e1.symm.trans e9) (by decide), fun e9 => absurd (e1.symm.trans e9) (by decide)⟩
  · exact ⟨fun e9 => absurd (e1.symm.trans e9) (by decide), fun e9 => absurd (e1.symm.trans e9) (by decide), fun e9 => absurd (e1.symm.trans e9) (by decide), fun e9 => absurd (e1.symm.trans e9) (by decide), fun e9 => absurd (e1.symm.trans e9) (by decide), fun e9 => absurd (e1.symm.trans e9) (by decide)⟩
  · exact ⟨fun e9 => absurd (e1.symm.trans e9) (by decide), fun e9 => absurd (e1.symm.trans e9) (by decide), fun e9 => absurd (e1.symm.trans e9) (by decide), fun e9 => absurd (e1.symm.trans e9) (by decide), fun e9 => absurd (e1.symm.trans e9) (by decide), fun e9 => absurd (e1.symm.trans e9) (by decide)⟩
  · exact ⟨fun e9 => absurd (e1.symm.trans e9) (by decide), fun e9 => absurd (e1.symm.trans e9) (by decide), fun e9 => absurd (e1.symm.trans e9) (by decide), fun e9 => absurd (e1.symm.trans e9) (by decide), fun e9 => absurd (e1.symm.trans e9) (by decide), fun e9 => absurd (e1.symm.trans e9) (by decide)⟩
  · exact ⟨fun e9 => absurd (e1.symm.trans e9) (by decide), fun e9 => absurd (e1.symm.trans e9) (by decide), fun e9 => absurd (e1.symm.trans e9) (by decide), fun e9 => absurd (e1.symm.trans e9) (by decide), fun e9 => absurd (e1.symm.trans e9) (by decide), fun e9 => absurd (e1.symm.trans e9) (by decide)⟩
  · exact ⟨fun e9 => absurd (e1.symm.trans e9) (by decide), fun e9 => absurd (e1.symm.trans e9) (by decide), fun e9 => absurd (e1.symm.trans e9) (by decide), fun e9 => absurd (e1.symm.trans e9) (by decide), fun e9 => absurd (e1.symm.trans e9) (by decide), fun e9 => absurd (e1.symm.trans e9) (by decide)⟩
  · exact ⟨fun e9 => absurd (e1.symm.trans e9) (by decide), fun e9 => absurd (e1.symm.trans e9) (by decide), fun e9 => absurd (e1.symm.trans e9) (by decide), fun e9 => absurd (e1.symm.trans e9) (by decide), fun e9 => absurd (e1.symm.trans e9) (by decide), fun e9 => absurd (e1.symm.trans e9) (by decide)⟩
  · exact ⟨fun e9 => absurd (e1.symm.trans e9) (by decide), fun e9 => absurd (e1.symm.trans e9) (by decide), fun e9 => absurd (e1.symm.trans e9) (by decide), fun e9 => absurd (e1.symm.trans e9) (by decide), fun e9 => absurd (e1.symm.trans e9) (by decide), fun e9 => absurd (e1.symm.trans e9) (by decide)⟩
  · exact ⟨fun e9 => absurd (e1.symm.trans e9) (by decide), fun e9 => absurd (e1.symm.trans e9) (by decide), fun e9 => absurd (e1.symm.trans e9) (by decide), fun e9 => absurd (e1.symm.trans e9) (by decide), fun e9 => absurd (e1.symm.trans e9) (by decide), fun e9 => absurd (e1.symm.trans e9) (by decide)⟩
  · exact ⟨fun e9 => absurd (e1.symm.trans e9) (by decide), fun e9 => absurd (e1.symm.trans e9) (by decide), fun e9 => absurd (e1.symm.trans e9) (by decide), fun e9 => absurd (e1.symm.trans e9) (by decide), fun e9 => absurd (e1.symm.trans e9) (by decide), fun e9 => absurd (e1.symm.trans e9) (by decide)⟩
  · exact ⟨fun e9 => absurd (e1.symm.trans e9) (by decide), fun e9 => absurd (e1.symm.trans e9) (by decide), fun e9 => absurd (e1.symm.trans e9) (by decide), fun e9 => absurd (e1.symm.trans e9) (by decide), fun e9 => absurd (e1.symm.trans e9) (by decide), fun e9 => absurd (e1.symm.trans e9) (by decide)⟩
  · exact ⟨fun e9 => absurd (e1.symm.trans e9) (by decide), fun e9 => absurd (e1.symm.trans e9) (by decide), fun e9 => absurd (e1.symm.trans e9) (by decide), fun e9 => absurd (e1.symm.trans e9) (by decide), fun e9 => absurd (e1.symm.trans e9) (by decide), fun e9 => absurd (e1.symm.trans e9) (by decide)⟩
  · exact ⟨fun e9 => absurd (e1.symm.trans e9) (by decide), fun e9 => absurd (e1.symm.trans e9) (by decide), fun e9 => absurd (e1.symm.trans e9) (by decide), fun e9 => absurd (e1.symm.trans e9) (by decide), fun e9 => absurd (e1.symm.trans e9) (by decide), fun e9 => absurd (e1.symm.trans e9) (by decide)⟩
  · exact ⟨fun e9 => absurd (e1.symm.trans e9) (by decide), fun e9 => absurd (e1.symm.trans e9) (by decide), fun e9 => absurd (e1.symm.trans e9) (by decide), fun e9 => absurd (e1.symm.trans e9) (by decide), fun e9 => absurd (e1.symm.trans e9) (by decide), fun e9 => absurd (e1.symm.trans e9) (by decide)⟩
  · exact ⟨fun e9 => absurd (e1.symm.trans e9) (by decide), fun e9 => absurd (e1.symm.trans e9) (by decide), fun e9 => absurd (e1.symm.trans e9) (by decide), fun e9 => absurd (e1.symm.trans e9) (by decide), fun e9 => absurd (e1.symm.trans e9) (by decide), fun e9 => absurd (e1.symm.trans e9) (by decide)⟩
  · exact ⟨fun e9 => absurd (e1.symm.trans e9) (by decide), fun e9 => absurd (e1.symm.trans e9) (by decide), fun e9 => absurd (e1.symm.trans e9) (by decide), fun e9 => absurd (e1.symm.trans e9) (by decide), fun e9 => absurd (e1.symm.trans e9) (by decide), fun e9 => absurd (e1.symm.trans e9) (by decide)⟩
  · exact ⟨fun e9 => absurd (e1.symm.trans e9) (by decide), fun e9 => absurd (e1.symm.trans e9) (by decide), fun e9 => absurd (e1.symm.trans e9) (by decide), fun e9 => absurd (e1.symm.trans e9) (by decide), fun e9 => absurd (e1.symm.trans e9) (by decide), fun e9 => absurd (e1.symm.trans e9) (by decide)⟩
  · exact ⟨fun e9 => absurd (e1.symm.trans e9) (by decide), fun e9 => absurd (e1.symm.trans e9) (by decide), fun e9 => absurd (e1.symm.trans e9) (by decide), fun e9 => absurd (e1.symm.trans e9) (by decide), fun e9 => absurd (e1.symm.trans e9) (by decide), fun e9 => absurd (e1.symm.trans e9) (by decide)⟩
  · exact ⟨fun e9 => absurd (e1.symm.trans e9) (by decide), fun e9 => absurd (e1.symm.trans e9) (by decide), fun e9 => absurd (e1.symm.trans e9) (by decide), fun e9 => absurd (e1.symm.trans e9) (by decide), fun e9 => absurd (e1.symm.trans e9) (by decide), fun e9 => absurd (e1.symm.trans e9) (by decide)⟩
  · exact ⟨fun e9 => absurd (e1.symm.trans e9) (by decide), fun e9 => absurd (e1.symm.trans e9) (by decide), fun e9 => absurd (e1.symm.trans e9) (by decide), fun e9 => absurd (e1.symm.trans e9) (by decide), fun e9 => absurd (e1.symm.trans e9) (by decide), fun e9 => absurd (e1.symm.trans e9) (by decide)⟩
  · exact ⟨fun e9 => absurd (e1.symm.trans e9) (by decide), fun e9 => absurd (e1.symm.trans e9) (by decide), fun e9 => absurd (e1.symm.trans e9) (by decide), fun e9 => absurd (e1.symm.trans e9) (by decide), fun e9 => absurd (e1.symm.trans e9) (by decide), fun e9 => absurd (e1.symm.trans e9) (by decide)⟩
  · exact ⟨fun e9 => absurd (e1.symm.trans e9) (by decide), fun e9 => absurd (e1.symm.trans e9) (by decide), fun e9 => absurd (e1.symm.trans e9) (by decide), fun e9 => absurd (e1.symm.trans e9) (by decide), fun e9 => absurd (e1.symm.trans e9) (by decide), fun e9 => absurd (e1.symm.trans e9) (by decide)⟩
  · exact ⟨fun e9 => absurd (e1.symm.trans e9) (by decide), fun e9 => absurd (e1.symm.trans e9) (by decide), fun e9 => absurd (e1.symm.trans e9) (by decide), fun e9 => absurd (e1.symm.trans e9) (by decide), fun e9 => absurd (e1.symm.trans e9) (by decide), fun e9 => absurd (e1.symm.trans e9) (by decide)⟩
  · exact ⟨fun e9 => absurd (e1.symm.trans e9) (by decide), fun e9 => absurd (e1.symm.trans e9) (by decide), fun e9 => absurd (e1.symm.trans e9) (by decide), fun e9 => absurd (e1.symm.trans e9) (by decide), fun e9 => absurd (e1.symm.trans e9) (by decide), fun e9 => absurd (e1.symm.trans e9) (by decide)⟩
  · exact ⟨fun e9 => absurd (e1.symm.trans e9) (by decide), fun e9 => absurd (e1.symm.trans e9) (by decide), fun e9 => absurd (e1.symm.trans e9) (by decide), fun e9 => absurd (e1.symm.trans e9) (by decide), fun e9 => absurd (e1.symm.trans e9) (by decide), fun e9 => absurd (e1.symm.trans e9) (by decide)⟩
  · exact ⟨fun e9 => absurd (e1.symm.trans e9) (by decide), fun e9 => absurd (e1.symm.trans e9) (by decide), fun e9 => absurd (e1.symm.trans e9) (by decide), fun e9 => absurd (e1.symm.trans e9) (by decide), fun e9 => absurd (e1.symm.trans e9) (by decide), fun e9 => absurd (e1.symm.trans e9) (by decide)⟩
  · exact ⟨fun e9 => absurd (e1.symm.trans e9) (by decide), fun e9 => absurd (e1.symm.trans e9) (by decide), fun e9 => absurd (e1.symm.trans e9) (by decide), fun e9 => absurd (e1.symm.trans e9) (by decide), fun e9 => absurd (e1.symm.trans e9) (by decide), fun e9 => absurd (e1.symm.trans e9) (by decide)⟩
  · exact ⟨fun e9 => absurd (e1.symm.trans e9) (by decide), fun e9 => absurd (e1.symm.trans e9) (by decide), fun e9 => absurd (e1.symm.trans e9) (by decide), fun e9 => absurd (e1.symm.trans e9) (by decide), fun e9 => absurd (e1.symm.trans e9) (by decide), fun e9 => absurd (e1.symm.trans e9) (by decide)⟩
  · exact ⟨fun e9 => absurd (e1.symm.trans e9) (by decide), fun e9 => absurd (e1.symm.trans e9) (by decide), fun e9 => absurd (e1.symm.trans e9) (by decide), fun e9 => absurd (e1.symm.trans e9) (by decide), fun e9 => absurd (e1.symm.trans e9) (by decide), fun e9 => absurd (e1.symm.trans e9) (by decide)⟩
  · exact ⟨fun e9 => absurd (e1.symm.trans e9) (by decide), fun e9 => absurd (e1.symm.trans e9) (by decide), fun e9 => absurd (e1.symm.trans e9) (by decide), fun e9 => absurd (e1.symm.trans e9) (by decide), fun e9 => absurd (e1.symm.trans e9) (by decide), fun e9 => absurd (e1.symm.trans e9) (by decide)⟩
  · exact ⟨fun _ => hc, fun e9 => absurd (e1.symm.trans e9) (by decide), fun e9 => absurd (e1.symm.trans e9) (by decide), fun e9 => absurd (e1.symm.trans e9) (by decide), fun e9 => absurd (e1.symm.trans e9) (by decide), fun e9 => absurd (e1.symm.trans e9) (by decide)⟩
  · exact ⟨fun e9 => absurd (e1.symm.trans e9) (by decide), fun _ => hc, fun e9 => absurd (e1.symm.trans e9) (by decide), fun e9 => absurd (e1.symm.trans e9) (by decide), fun e9 => absurd (e1.symm.trans e9) (by decide), fun e9 => absurd (e1.symm.trans e9) (by decide)⟩
  · exact ⟨fun e9 => absurd (e1.symm.trans e9) (by decide), fun e9 => absurd (e1.symm.trans e9) (by decide), fun _ => hc, fun e9 => absurd (e1.symm.trans e9) (by decide), fun e9 => absurd (e1.symm.trans e9) (by decide), fun e9 => absurd (e1.symm.trans e9) (by decide)⟩
  · exact ⟨fun e9 => absurd (e1.symm.trans e9) (by decide), fun e9 => absurd (e1.symm.trans e9) (by decide), fun e9 => absurd (e1.symm.trans e9) (by decide), fun e9 => absurd (e1.symm.trans e9) (by decide), fun e9 => absurd (e1.symm.trans e9) (by decide), fun e9 => absurd (e1.symm.trans e9) (by decide)⟩
  · exact ⟨fun e9 => absurd (e1.symm.trans e9) (by decide), fun e9 => absurd (e1.symm.trans e9) (by decide), fun e9 => absurd (e1.symm.trans e9) (by decide), fun e9 => absurd (e1.symm.trans e9) (by decide), fun e9 => absurd (e1.symm.trans e9) (by decide), fun e9 => absurd (e1.symm.trans e9) (by decide)⟩
  · exact ⟨fun e9 => absurd (e1.symm.trans e9) (by decide), fun e9 => absurd (e1.symm.trans e9) (by decide), fun e9 => absurd (e1.symm.trans e9) (by decide), fun _ => hc, fun e9 => absurd (e1.symm.trans e9) (by decide), fun e9 => absurd (e1.symm.trans e9) (by decide)⟩
  · exact ⟨fun e9 => absurd (e1.symm.trans e9) (by decide), fun e9 => absurd (e1.symm.trans e9) (by decide), fun e9 => absurd (e1.symm.trans e9) (by decide), fun e9 => absurd (e1.symm.trans e9) (by decide), fun e9 => absurd (e1.symm.trans e9) (by decide), fun e9 => absurd (e1.symm.trans e9) (by decide)⟩
  · exact ⟨fun e9 => absurd (e1.symm.trans e9) (by decide), fun e9 => absurd (e1.symm.trans e9) (by decide), fun e9 => absurd (e1.symm.trans e9) (by decide), fun e9 => absurd (e1.symm.trans e9) (by decide), fun e9 => absurd (e1.symm.trans e9) (by decide), fun e9 => absurd (e1.symm.trans e9) (by decide)⟩
  · exact ⟨fun e9 => absurd (e1.symm.trans e9) (by decide), fun e9 => absurd (e1.symm.trans e9) (by decide), fun e9 => absurd (e1.symm.trans e9) (by decide), fun e9 => absurd (e1.symm.trans e9) (by decide), fun e9 => absurd (e1.symm.trans e9) (by decide), fun e9 => absurd (e1.symm.trans e9) (by decide)⟩
  · exact ⟨fun e9 => absurd (e1.symm.trans e9) (by decide), fun e9 => absurd (e1.symm.trans e9) (by decide), fun e9 => absurd (e1.symm.trans e9) (by decide), fun e9 => absurd (e1.symm.trans e9) (by decide), fun e9 => absurd (e1.symm.trans e9) (by decide), fun e9 => absurd (e1.symm.trans e9) (by decide)⟩
  · exact ⟨fun e9 => absurd (e1.symm.trans e9) (by decide), fun e9 => absurd (e1.symm.trans e9) (by decide), fun e9 => absurd (e1.symm.trans e9) (by decide), fun e9 => absurd (e1.symm.trans e9) (by decide), fun e9 => absurd (e1.symm.trans e9) (by decide), fun e9 => absurd (e1.symm.trans e9) (by decide)⟩
  · exact ⟨fun e9 => absurd (e1.symm.trans e9) (by decide), fun e9 => absurd (e1.symm.trans e9) (by decide), fun e9 => absurd (e1.symm.trans e9) (by decide), fun e9 => absurd (e1.symm.trans e9) (by decide), fun e9 => absurd (e1.symm.trans e9) (by decide), fun e9 => absurd (e1.symm.trans e9) (by decide)⟩
  · exact ⟨fun e9 => absurd (e1.symm.trans e9) (by decide), fun e9 => absurd (e1.symm.trans e9) (by decide), fun e9 => absurd (e1.symm.trans e9) (by decide), fun e9 => absurd (e1.symm.trans e9) (by decide), fun e9 => absurd (e1.symm.trans e9) (by decide), fun e9 => absurd (e1.symm.trans e9) (by decide)⟩
  · exact ⟨fun e9 => absurd (e1.symm.trans e9) (by decide), fun e9 => absurd (e1.symm.trans e9) (by decide), fun e9 => absurd (e1.symm.trans e9) (by decide), fun e9 => absurd (e1.symm.trans e9) (by decide), fun e9 => absurd (e1.symm.trans e9) (by decide), fun e9 => absurd (e1.symm.trans e9) (by decide)⟩
  · exact ⟨fun e9 => absurd (e1.symm.trans e9) (by decide), fun e9 => absurd (e1.symm.trans e9) (by decide), fun e9 => absurd (e1.symm.trans e9) (by decide), fun e9 => absurd (e1.symm.trans e9) (by decide), fun _ => hc, fun e9 => absurd (e1.symm.trans e9) (by decide)⟩
  · exact ⟨fun e9 => absurd (e1.symm.trans e9) (by decide), fun e9 => absurd (e1.symm.trans e9) (by decide), fun e9 => absurd (e1.symm.trans e9) (by decide), fun e9 => absurd (e1.symm.trans e9) (by decide), fun e9 => absurd (e1.symm.trans e9) (by decide), fun _ => hc⟩
theorem pm_rn_cnt : ∀ (n : Nat) {d mi pc : Nat} {ls st : List Value} {h : pm_H} {r : pm_O × pm_H}, pm_rn X n d mi pc ls st h = some r → h.2.1 ≤ pm_mc → h.2.2 ≤ pm_ms → h.2.1 ≤ r.2.2.1 ∧ h.2.2 ≤ r.2.2.2 ∧ r.2.2.1 ≤ pm_mc ∧ r.2.2.2 ≤ pm_ms := by
  intro n
  induction n with
  | zero => intro d mi pc ls st h r hr; cases hr
  | succ n ih =>
    intro d mi pc ls st h r hr h1 h2
    rw [pm_rn] at hr
    cases hcode : pm_code mi pc with
    | none => rw [hcode] at hr; cases hr
    | some i =>
      rw [hcode] at hr
      simp only at hr
      have hck := sd_code_ck hcode
      obtain ⟨op, nx, a, b, v, ts⟩ := i
      cases hs : pm_stp X (op, nx, a, b, v, ts) ls st h with
      | none => rw [hs] at hr; cases hr
      | some y =>
        rw [hs] at hr
        have hsh := pm_stp_shp (sd_ck_op hck) hs
        rcases y with ⟨pc', ls', st', h'⟩ | ⟨w, h'⟩ | k | ⟨mj, av, rest⟩
        · simp only at hr
          obtain ⟨-, hz⟩ := hsh
          rcases hz with hz | ⟨z, hz, z1, z2⟩
          · have h3 := ih hr (by rw [hz]; exact h1) (by rw [hz]; exact h2)
            rw [hz] at h3
            exact h3
          · have h3 := ih hr (by rw [hz]; exact z1) (by rw [hz]; exact z2)
            rw [hz] at h3
            simp only at h3
            omega
        · cases hr
          obtain ⟨-, rfl⟩ := hsh
          exact ⟨Nat.le_refl _, Nat.le_refl _, h1, h2⟩
        · cases hr
          obtain ⟨-, z1, z2⟩ := hsh
          simp only
          omega
        · simp only at hr
          split at hr
          · cases hr
          cases d with
          | zero => cases hr
          | succ d =>
            simp only at hr
            cases hc : pm_rn X n d mj 0 (pm_pad mj av) [] h with
            | none => rw [hc] at hr; cases hr
            | some y =>
              rw [hc] at hr
              have h3 := ih hc h1 h2
              obtain ⟨y1, y2⟩ := y
              rcases y1 with w | k
              · simp only at hr
                have h4 := ih hr h3.2.2.1 h3.2.2.2
                simp only at h3
                omega
              · simp only at hr
                split at hr
                · cases hr
                  exact h3
                · split at hr
                  · cases hr
                  · have h4 := ih hr h3.2.2.1 h3.2.2.2
                    simp only at h3
                    omega
theorem sd_lnk {a x : Nat} (hG : sd_G D cI cL base b0 adX X s) (h9 : ((sd_ml.any fun q => decide (q.1 = sd_oc mi ∧ q.2.1 = x ∧ q.2.2.1 = a)) || (sd_mn.any fun q => decide (q.1 = sd_oc mi ∧ q.2.1 = x ∧ q.2.2.1 = a))) = true) :
    (Cond.methodLink (sd_o (sd_oc mi)) x (sd_y a)).before args s = true ∨ ∃ host, (Cond.methodLinkNest (sd_o (sd_oc mi)) x (sd_y a) host).before args s = true := by
  rw [Bool.or_eq_true] at h9
  rcases h9 with h9 | h9
  · obtain ⟨q, hq, e1⟩ := List.any_eq_true.mp h9
    obtain ⟨e1, e2, e3⟩ := of_decide_eq_true e1
    have hw := sd_word hG (sd_ml_ok q hq) args
    rw [sd_wM, e1, e2, e3] at hw
    exact Or.inl hw
  · obtain ⟨q, hq, e1⟩ := List.any_eq_true.mp h9
    obtain ⟨e1, e2, e3⟩ := of_decide_eq_true e1
    have hw := sd_word hG (sd_mn_ok q hq) args
    rw [sd_wN, e1, e2, e3] at hw
    exact Or.inr ⟨_, hw⟩
theorem sd_ycl {a : Nat} (ha : a < 258) : (sd_y a).cls ≠ "java/lang/invoke/MethodHandle" ∧ (sd_y a).cls ≠ "java/lang/invoke/VarHandle" := by
  have hme := sd_me_ok a ha
  simp only [Bool.and_eq_true, decide_eq_true_eq] at hme
  exact ⟨hme.1.2, hme.2⟩
theorem sd_ini {a : Nat} (hG : sd_G D cI cL base b0 adX X s) (ha : a < 258) : (Cond.initialized (sd_y a).cls).before args s = true := by
  have hme := sd_me_ok a ha
  simp only [Bool.and_eq_true, decide_eq_true_eq] at hme
  exact sd_word hG hme.1.1.1 args
/-- the three calls, up to the callee's entry -/
theorem sd_invS {a x : Nat} {As rest : List Value} (hF : sd_F p l s m meth c mi) (hG : sd_G D cI cL base b0 adX X s) (ha : a < 258) (hkd : (sd_kd a).1 = 0) (hl : (Cond.methodLink (sd_o (sd_oc mi)) x (sd_y a)).before args s = true ∨ ∃ host, (Cond.methodLinkNest (sd_o (sd_oc mi)) x (sd_y a) host).before args s = true)
    (hd : decode (sd_by mi) pc = .ok (.invokestatic x, 3)) (hlen : As.length = pm_na a) (hst : St = As.reverse ++ rest) :
    ∀ T : State, T.heap = H → Stand p l e R s m args below meth c T locs cells slots → ∀ (mk : MethodId) (methk : Method), s.methodNamed? (sd_y a) = some mk → s.vm.method? mk = some methk → parseMethodDescriptor (sd_y a).desc = some methk.sig →
      ∃ vm₁, Stand p l e R s m args below meth c (T.setVm vm₁) locs cells slots ∧ ∀ target, (∀ acts, Steps p.tables e below (doInvoke e ((T.setVm vm₁).setTop { F0 m pc Ls St with stack := rest }) acts mk As.toArray).1 target) → Steps p.tables e below (T.setTop (F0 m pc Ls St)) target := by
  obtain ⟨hx, hlt, hown, hb, hml, hrt, hlk, htb, hnm⟩ := hF
  intro T hT X9 mk methk hn hm hsg
  have hw := sd_isW_ok a ha
  rw [sd_isW, hkd] at hw
  have hstat : methk.isStatic = true := Cond.static_spec hn hm (sd_word hG hw args)
  obtain ⟨kP, hkP, -⟩ := className_of_methodNamed hn
  have hinitP : kP.init = .initialized := Cond.initialized_spec (findClass_of_methodNamed hn) hkP (sd_ini (args := args) hG ha)
  have hna := (sd_kd_ok ha).1
  rw [hkd] at hna
  have hpl : As.length = methk.sig.parameters.length := by
    rw [hlen, hna, sd_par ha hsg]
    rfl
  rcases hl with hl | ⟨host, hl⟩
  · exact X9.invokestatic hx hown hl hn hm hstat hkP hinitP (sd_ycl ha) (g := F0 m pc Ls St) rfl (argsL := As) (rest := rest) hpl hst (by rw [hb]; exact hd)
  · exact X9.invokestaticNest hx hown hl hn hm hstat hkP hinitP (sd_ycl ha) (g := F0 m pc Ls St) rfl (argsL := As) (rest := rest) hpl hst (by rw [hb]; exact hd)
theorem sd_invV {a x q : Nat} {As rest : List Value} (hF : sd_F p l s m meth c mi) (hG : sd_G D cI cL base b0 adX X s) (ha : a < 258) (hkd : (sd_kd a).1 = 1) (hl : (Cond.methodLink (sd_o (sd_oc mi)) x (sd_y a)).before args s = true ∨ ∃ host, (Cond.methodLinkNest (sd_o (sd_oc mi)) x (sd_y a) host).before args s = true)
    (hcell : ∃ cell : Cell, H[q]? = some cell ∧ cell.vm.isStatics = false ∧ s.vm.findClass (sd_cn (sd_kd a).2.1) = some cell.cls)
    (hd : decode (sd_by mi) pc = .ok (.invokevirtual x, 3)) (hlen : As.length + 1 = pm_na a) (hst : St = As.reverse ++ .ref q :: rest) :
    ∀ T : State, T.heap = H → Stand p l e R s m args below meth c T locs cells slots → ∀ (mk : MethodId) (methk : Method), s.methodNamed? (sd_y a) = some mk → s.vm.method? mk = some methk → parseMethodDescriptor (sd_y a).desc = some methk.sig →
      ∃ vm₁, Stand p l e R s m args below meth c (T.setVm vm₁) locs cells slots ∧ ∀ target, (∀ acts, Steps p.tables e below (doInvoke e ((T.setVm vm₁).setTop { F0 m pc Ls St with stack := rest }) acts mk (Value.ref q :: As).toArray).1 target) → Steps p.tables e below (T.setTop (F0 m pc Ls St)) target := by
  obtain ⟨hx, hlt, hown, hb, hml, hrt, hlk, htb, hnm⟩ := hF
  obtain ⟨cellB, hcB, hoB, hclB⟩ := hcell
  intro T hT X9 mk methk hn hm hsg
  have hw := sd_isW_ok a ha
  rw [sd_isW, hkd] at hw
  simp only [Bool.and_eq_true] at hw
  obtain ⟨mk', methM, hnamed, hmethM, hstM, habM⟩ := Cond.instanceMethod_spec (sd_word hG hw.1 args)
  cases Option.some.inj (hn.symm.trans hnamed)
  cases Option.some.inj (hm.symm.trans hmethM)
  obtain ⟨c2, r2, m2, q1, q2, q3, q4, kP, hkP, hkPi⟩ := Cond.selects_spec (sd_word hG hw.2 args)
  cases Option.some.inj (hclB.symm.trans q1)
  cases Option.some.inj ((State.methodFound?_of_named hn (sd_ycl ha)).symm.trans q2)
  cases Option.some.inj (hn.symm.trans q3)
  have hselP : selectMethod e.platform s.vm cellB.cls mk = .method mk := by rw [Launch.admits_selectMethod X9.admits]; exact q4
  have hna := (sd_kd_ok ha).1
  rw [hkd] at hna
  have hpl : As.length = methk.sig.parameters.length := by
    rw [sd_par ha hsg]
    have : (if (1 : Nat) = 0 then 0 else 1) = 1 := rfl
    omega
  rcases hl with hl | ⟨host, hl⟩
  · exact X9.invokevirtual hx hown hl hn hm hstM hkP hkPi (sd_ycl ha) (a := q) (cell := cellB) (by rw [hT]; exact hcB) (fun z h => by rw [h] at hoB; cases hoB) hselP hm habM hkP hkPi (g := F0 m pc Ls St) rfl (argsL := As) (rest := rest) hpl hst (by rw [hb]; exact hd)
  · exact X9.invokevirtualNest hx hown hl hn hm hstM hkP hkPi (sd_ycl ha) (a := q) (cell := cellB) (by rw [hT]; exact hcB) (fun z h => by rw [h] at hoB; cases hoB) hselP hm habM hkP hkPi (g := F0 m pc Ls St) rfl (argsL := As) (rest := rest) hpl hst (by rw [hb]; exact hd)
theorem sd_invI {a x q : Nat} {As rest : List Value} (hF : sd_F p l s m meth c mi) (hG : sd_G D cI cL base b0 adX X s) (ha : a < 258) (hkd : (sd_kd a).1 = 2) (hl : (Cond.methodLink (sd_o (sd_oc mi)) x (sd_y a)).before args s = true ∨ ∃ host, (Cond.methodLinkNest (sd_o (sd_oc mi)) x (sd_y a) host).before args s = true)
    (hd : decode (sd_by mi) pc = .ok (.invokespecial x, 3)) (hlen : As.length + 1 = pm_na a) (hst : St = As.reverse ++ .ref q :: rest) :
    ∀ T : State, T.heap = H → Stand p l e R s m args below meth c T locs cells slots → ∀ (mk : MethodId) (methk : Method), s.methodNamed? (sd_y a) = some mk → s.vm.method? mk = some methk → parseMethodDescriptor (sd_y a).desc = some methk.sig →
      ∃ vm₁, Stand p l e R s m args below meth c (T.setVm vm₁) locs cells slots ∧ ∀ target, (∀ acts, Steps p.tables e below (doInvoke e ((T.setVm vm₁).setTop { F0 m pc Ls St with stack := rest }) acts mk (Value.ref q :: As).toArray).1 target) → Steps p.tables e below (T.setTop (F0 m pc Ls St)) target := by
  obtain ⟨hx, hlt, hown, hb, hml, hrt, hlk, htb, hnm⟩ := hF
  intro T hT X9 mk methk hn hm hsg
  have hw := sd_isW_ok a ha
  rw [sd_isW, hkd] at hw
  simp only [Bool.and_eq_true, decide_eq_true_eq] at hw
  obtain ⟨⟨⟨hw1, hw2⟩, hw3⟩, hw4⟩ := hw
  have hcd := hG.1 (sd_wC a) (sd_mcA258 a ha) (sd_wC_gw a) args
  have hcd : (Cond.code (sd_y a) (sd_by a) (pm_ml a) none).before args s = true := by
    rw [sd_wC, hw3, hw4] at hcd
    exact hcd
  have hpf : e.platform.magicAccessors = ({} : Platform).magicAccessors := by rw [X9.admits.platform]
  have hna := (sd_kd_ok ha).1
  rw [hkd] at hna
  have hpl : ∀ sig, parseMethodDescriptor (sd_y a).desc = some sig → As.length = sig.parameters.length := by
    intro sig hs9
    rw [sd_par ha hs9]
    have : (if (2 : Nat) = 0 then 0 else 1) = 1 := rfl
    omega
  rcases hl with hl | ⟨host, hl⟩
  · obtain ⟨mk', methM, cM, kP, vm₁, hnamed, -, -, -, -, -, -, -, hW₁, hstep₁⟩ := Steps.initColdArgs (e := e) X9.here hx X9.warmed hpf hown hw2 (sd_ycl ha) hl (sd_word hG hw1 args) hcd (f := F0 m pc Ls St) rfl hpl hst (by rw [hb]; exact hd)
    cases Option.some.inj (hn.symm.trans hnamed)
    exact ⟨vm₁, X9.noted hW₁, hstep₁⟩
  · obtain ⟨mk', methM, cM, kP, vm₁, hnamed, -, -, -, -, -, -, -, hW₁, hstep₁⟩ := Steps.initColdArgsNest (e := e) X9.here hx X9.warmed hpf hown hw2 (sd_ycl ha) hl (sd_word hG hw1 args) hcd (f := F0 m pc Ls St) rfl hpl hst (by rw [hb]; exact hd)
    cases Option.some.inj (hn.symm.trans hnamed)
    exact ⟨vm₁, X9.noted hW₁, hstep₁⟩

end SDR
