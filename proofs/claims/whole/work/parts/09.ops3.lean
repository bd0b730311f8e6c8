/-! ===== arithmetic, branches, texts, makings ===== -/
section SDV3
variable {p : Program} {l : Launch} {e : Env} {R : Room} {s : State} {m : MethodId} {args : Array Value} {below : List Frame} {meth : Method} {c : Code} {H : Heap} {locs : List Loc} {cells slots : Nat} {Q : State → Prop}
variable {D : va_G} {cI cL : ClassId} {base b0 : Nat} {adX : Nat → Nat} {k0 s0 nL mi d : Nat} {ad : Nat → Nat} {ls st : List Value} {h : pm_H} {Ls : Array Slot} {St : List Value} {pc : Nat} {X : pm_X} {pc' : Nat} {ls' st' : List Value} {h' : pm_H}
theorem sd_ge (a : Nat) : 1000 ≤ 2000 + a := by omega
theorem sd_ge3 (a : Nat) : 1000 ≤ 3000 + a := by omega
theorem sd_k9 {q n : Nat} (h : 2000 ≤ q ∧ q < 2000 + n) : ∃ k9, q = 2000 + k9 ∧ k9 < n ∧ 2000 + k9 + 1000 = 3000 + k9 := ⟨q - 2000, by omega, by omega, by omega⟩
theorem sd_s15 {nx : Nat} (hF : sd_F p l s m meth c mi) (hG : sd_G D cI cL base b0 adX X s) (hR : sd_R D cI cL base adX s R k0 s0 nL ad ls st h Ls St H locs cells slots)  (hc : sd_c15 pc nx (decode (sd_by mi) pc) = true) (hs : pm_sb 15 nx ls st h = some (.inl (pc', ls', st', h'))) (kk : sd_Kt p l e R s m args below meth c Q D cI cL base adX k0 s0 nL ad h.1.length pc' ls' st' h') : W p l e R s m args below meth c H locs cells slots Q (F0 m pc Ls St) := by
  obtain ⟨hx, hlt, hown, hb, hml, hrt, hlk, htb, hnm⟩ := hF
  unfold pm_sb at hs
  split at hs
  · rename_i y x r
    have hs : pm_nx nx ls (.int (x + y) :: r) h = some (.inl (pc', ls', st', h')) := hs
    obtain ⟨rfl, rfl, rfl, rfl⟩ := pm_nx_inj hs
    obtain ⟨w1, k1, rfl, hw1, hrs1⟩ := hR.2.2.2.1.c
    obtain ⟨w2, k2, rfl, hw2, hrs⟩ := hrs1.c
    cases (show w1 = .int y from hw1)
    cases (show w2 = .int x from hw2)
    obtain ⟨hd, rfl⟩ := sd_c15_inv hc
    exact lv_iadd hx hb hd (sd_same hR (sd_st_c (v := .int (x + y)) (w := .int (x + y)) rfl hrs) kk)
  · cases hs
theorem sd_s16 {nx : Nat} (hF : sd_F p l s m meth c mi) (hG : sd_G D cI cL base b0 adX X s) (hR : sd_R D cI cL base adX s R k0 s0 nL ad ls st h Ls St H locs cells slots)  (hc : sd_c16 pc nx (decode (sd_by mi) pc) = true) (hs : pm_sb 16 nx ls st h = some (.inl (pc', ls', st', h'))) (kk : sd_Kt p l e R s m args below meth c Q D cI cL base adX k0 s0 nL ad h.1.length pc' ls' st' h') : W p l e R s m args below meth c H locs cells slots Q (F0 m pc Ls St) := by
  obtain ⟨hx, hlt, hown, hb, hml, hrt, hlk, htb, hnm⟩ := hF
  unfold pm_sb at hs
  split at hs
  · rename_i y x r
    have hs : pm_nx nx ls (.int (x - y) :: r) h = some (.inl (pc', ls', st', h')) := hs
    obtain ⟨rfl, rfl, rfl, rfl⟩ := pm_nx_inj hs
    obtain ⟨w1, k1, rfl, hw1, hrs1⟩ := hR.2.2.2.1.c
    obtain ⟨w2, k2, rfl, hw2, hrs⟩ := hrs1.c
    cases (show w1 = .int y from hw1)
    cases (show w2 = .int x from hw2)
    obtain ⟨hd, rfl⟩ := sd_c16_inv hc
    exact lv_isub hx hb hd (sd_same hR (sd_st_c (v := .int (x - y)) (w := .int (x - y)) rfl hrs) kk)
  · cases hs
theorem sd_s17 {nx : Nat} (hF : sd_F p l s m meth c mi) (hG : sd_G D cI cL base b0 adX X s) (hR : sd_R D cI cL base adX s R k0 s0 nL ad ls st h Ls St H locs cells slots)  (hc : sd_c17 pc nx (decode (sd_by mi) pc) = true) (hs : pm_sb 17 nx ls st h = some (.inl (pc', ls', st', h'))) (kk : sd_Kt p l e R s m args below meth c Q D cI cL base adX k0 s0 nL ad h.1.length pc' ls' st' h') : W p l e R s m args below meth c H locs cells slots Q (F0 m pc Ls St) := by
  obtain ⟨hx, hlt, hown, hb, hml, hrt, hlk, htb, hnm⟩ := hF
  unfold pm_sb at hs
  split at hs
  · rename_i y x r
    have hs : pm_nx nx ls (.int (x * y) :: r) h = some (.inl (pc', ls', st', h')) := hs
    obtain ⟨rfl, rfl, rfl, rfl⟩ := pm_nx_inj hs
    obtain ⟨w1, k1, rfl, hw1, hrs1⟩ := hR.2.2.2.1.c
    obtain ⟨w2, k2, rfl, hw2, hrs⟩ := hrs1.c
    cases (show w1 = .int y from hw1)
    cases (show w2 = .int x from hw2)
    obtain ⟨hd, rfl⟩ := sd_c17_inv hc
    exact lv_imul hx hb hd (sd_same hR (sd_st_c (v := .int (x * y)) (w := .int (x * y)) rfl hrs) kk)
  · cases hs
theorem sd_s21 {nx : Nat} (hF : sd_F p l s m meth c mi) (hG : sd_G D cI cL base b0 adX X s) (hR : sd_R D cI cL base adX s R k0 s0 nL ad ls st h Ls St H locs cells slots)  (hc : sd_c21 pc nx (decode (sd_by mi) pc) = true) (hs : pm_sb 21 nx ls st h = some (.inl (pc', ls', st', h'))) (kk : sd_Kt p l e R s m args below meth c Q D cI cL base adX k0 s0 nL ad h.1.length pc' ls' st' h') : W p l e R s m args below meth c H locs cells slots Q (F0 m pc Ls St) := by
  obtain ⟨hx, hlt, hown, hb, hml, hrt, hlk, htb, hnm⟩ := hF
  unfold pm_sb at hs
  split at hs
  · rename_i y x r
    have hs : pm_nx nx ls (.int (x <<< (y &&& 31)) :: r) h = some (.inl (pc', ls', st', h')) := hs
    obtain ⟨rfl, rfl, rfl, rfl⟩ := pm_nx_inj hs
    obtain ⟨w1, k1, rfl, hw1, hrs1⟩ := hR.2.2.2.1.c
    obtain ⟨w2, k2, rfl, hw2, hrs⟩ := hrs1.c
    cases (show w1 = .int y from hw1)
    cases (show w2 = .int x from hw2)
    obtain ⟨hd, rfl⟩ := sd_c21_inv hc
    exact lv_ishl hx hb hd (sd_same hR (sd_st_c (v := .int (x <<< (y &&& 31))) (w := .int (x <<< (y &&& 31))) rfl hrs) kk)
  · cases hs
theorem sd_s22 {nx : Nat} (hF : sd_F p l s m meth c mi) (hG : sd_G D cI cL base b0 adX X s) (hR : sd_R D cI cL base adX s R k0 s0 nL ad ls st h Ls St H locs cells slots)  (hc : sd_c22 pc nx (decode (sd_by mi) pc) = true) (hs : pm_sb 22 nx ls st h = some (.inl (pc', ls', st', h'))) (kk : sd_Kt p l e R s m args below meth c Q D cI cL base adX k0 s0 nL ad h.1.length pc' ls' st' h') : W p l e R s m args below meth c H locs cells slots Q (F0 m pc Ls St) := by
  obtain ⟨hx, hlt, hown, hb, hml, hrt, hlk, htb, hnm⟩ := hF
  unfold pm_sb at hs
  split at hs
  · rename_i y x r
    have hs : pm_nx nx ls (.int (x >>> (y &&& 31)) :: r) h = some (.inl (pc', ls', st', h')) := hs
    obtain ⟨rfl, rfl, rfl, rfl⟩ := pm_nx_inj hs
    obtain ⟨w1, k1, rfl, hw1, hrs1⟩ := hR.2.2.2.1.c
    obtain ⟨w2, k2, rfl, hw2, hrs⟩ := hrs1.c
    cases (show w1 = .int y from hw1)
    cases (show w2 = .int x from hw2)
    obtain ⟨hd, rfl⟩ := sd_c22_inv hc
    exact lv_ishr hx hb hd (sd_same hR (sd_st_c (v := .int (x >>> (y &&& 31))) (w := .int (x >>> (y &&& 31))) rfl hrs) kk)
  · cases hs
theorem sd_s23 {nx : Nat} (hF : sd_F p l s m meth c mi) (hG : sd_G D cI cL base b0 adX X s) (hR : sd_R D cI cL base adX s R k0 s0 nL ad ls st h Ls St H locs cells slots)  (hc : sd_c23 pc nx (decode (sd_by mi) pc) = true) (hs : pm_sb 23 nx ls st h = some (.inl (pc', ls', st', h'))) (kk : sd_Kt p l e R s m args below meth c Q D cI cL base adX k0 s0 nL ad h.1.length pc' ls' st' h') : W p l e R s m args below meth c H locs cells slots Q (F0 m pc Ls St) := by
  obtain ⟨hx, hlt, hown, hb, hml, hrt, hlk, htb, hnm⟩ := hF
  unfold pm_sb at hs
  split at hs
  · rename_i y x r
    have hs : pm_nx nx ls (.int ((x.toUInt32 >>> (y.toUInt32 &&& Int32.toUInt32 31)).toInt32) :: r) h = some (.inl (pc', ls', st', h')) := hs
    obtain ⟨rfl, rfl, rfl, rfl⟩ := pm_nx_inj hs
    obtain ⟨w1, k1, rfl, hw1, hrs1⟩ := hR.2.2.2.1.c
    obtain ⟨w2, k2, rfl, hw2, hrs⟩ := hrs1.c
    cases (show w1 = .int y from hw1)
    cases (show w2 = .int x from hw2)
    obtain ⟨hd, rfl⟩ := sd_c23_inv hc
    exact lv_iushr hx hb hd rfl (sd_same hR (sd_st_c (v := .int ((x.toUInt32 >>> (y.toUInt32 &&& Int32.toUInt32 31)).toInt32)) (w := .int ((x.toUInt32 >>> (y.toUInt32 &&& Int32.toUInt32 31)).toInt32)) rfl hrs) kk)
  · cases hs
theorem sd_s24 {nx : Nat} (hF : sd_F p l s m meth c mi) (hG : sd_G D cI cL base b0 adX X s) (hR : sd_R D cI cL base adX s R k0 s0 nL ad ls st h Ls St H locs cells slots)  (hc : sd_c24 pc nx (decode (sd_by mi) pc) = true) (hs : pm_sb 24 nx ls st h = some (.inl (pc', ls', st', h'))) (kk : sd_Kt p l e R s m args below meth c Q D cI cL base adX k0 s0 nL ad h.1.length pc' ls' st' h') : W p l e R s m args below meth c H locs cells slots Q (F0 m pc Ls St) := by
  obtain ⟨hx, hlt, hown, hb, hml, hrt, hlk, htb, hnm⟩ := hF
  unfold pm_sb at hs
  split at hs
  · rename_i y x r
    have hs : pm_nx nx ls (.int (x &&& y) :: r) h = some (.inl (pc', ls', st', h')) := hs
    obtain ⟨rfl, rfl, rfl, rfl⟩ := pm_nx_inj hs
    obtain ⟨w1, k1, rfl, hw1, hrs1⟩ := hR.2.2.2.1.c
    obtain ⟨w2, k2, rfl, hw2, hrs⟩ := hrs1.c
    cases (show w1 = .int y from hw1)
    cases (show w2 = .int x from hw2)
    obtain ⟨hd, rfl⟩ := sd_c24_inv hc
    exact lv_iand hx hb hd (sd_same hR (sd_st_c (v := .int (x &&& y)) (w := .int (x &&& y)) rfl hrs) kk)
  · cases hs
theorem sd_s25 {nx : Nat} (hF : sd_F p l s m meth c mi) (hG : sd_G D cI cL base b0 adX X s) (hR : sd_R D cI cL base adX s R k0 s0 nL ad ls st h Ls St H locs cells slots)  (hc : sd_c25 pc nx (decode (sd_by mi) pc) = true) (hs : pm_sb 25 nx ls st h = some (.inl (pc', ls', st', h'))) (kk : sd_Kt p l e R s m args below meth c Q D cI cL base adX k0 s0 nL ad h.1.length pc' ls' st' h') : W p l e R s m args below meth c H locs cells slots Q (F0 m pc Ls St) := by
  obtain ⟨hx, hlt, hown, hb, hml, hrt, hlk, htb, hnm⟩ := hF
  unfold pm_sb at hs
  split at hs
  · rename_i y x r
    have hs : pm_nx nx ls (.int (x ||| y) :: r) h = some (.inl (pc', ls', st', h')) := hs
    obtain ⟨rfl, rfl, rfl, rfl⟩ := pm_nx_inj hs
    obtain ⟨w1, k1, rfl, hw1, hrs1⟩ := hR.2.2.2.1.c
    obtain ⟨w2, k2, rfl, hw2, hrs⟩ := hrs1.c
    cases (show w1 = .int y from hw1)
    cases (show w2 = .int x from hw2)
    obtain ⟨hd, rfl⟩ := sd_c25_inv hc
    exact lv_ior hx hb hd (sd_same hR (sd_st_c (v := .int (x ||| y)) (w := .int (x ||| y)) rfl hrs) kk)
  · cases hs
theorem sd_s26 {nx : Nat} (hF : sd_F p l s m meth c mi) (hG : sd_G D cI cL base b0 adX X s) (hR : sd_R D cI cL base adX s R k0 s0 nL ad ls st h Ls St H locs cells slots)  (hc : sd_c26 pc nx (decode (sd_by mi) pc) = true) (hs : pm_sb 26 nx ls st h = some (.inl (pc', ls', st', h'))) (kk : sd_Kt p l e R s m args below meth c Q D cI cL base adX k0 s0 nL ad h.1.length pc' ls' st' h') : W p l e R s m args below meth c H locs cells slots Q (F0 m pc Ls St) := by
  obtain ⟨hx, hlt, hown, hb, hml, hrt, hlk, htb, hnm⟩ := hF
  unfold pm_sb at hs
  split at hs
  · rename_i y x r
    have hs : pm_nx nx ls (.int (x ^^^ y) :: r) h = some (.inl (pc', ls', st', h')) := hs
    obtain ⟨rfl, rfl, rfl, rfl⟩ := pm_nx_inj hs
    obtain ⟨w1, k1, rfl, hw1, hrs1⟩ := hR.2.2.2.1.c
    obtain ⟨w2, k2, rfl, hw2, hrs⟩ := hrs1.c
    cases (show w1 = .int y from hw1)
    cases (show w2 = .int x from hw2)
    obtain ⟨hd, rfl⟩ := sd_c26_inv hc
    exact lv_ixor hx hb hd (sd_same hR (sd_st_c (v := .int (x ^^^ y)) (w := .int (x ^^^ y)) rfl hrs) kk)
  · cases hs
theorem sd_s18 {nx : Nat} (hF : sd_F p l s m meth c mi) (hG : sd_G D cI cL base b0 adX X s) (hR : sd_R D cI cL base adX s R k0 s0 nL ad ls st h Ls St H locs cells slots)  (hc : sd_c18 pc nx (decode (sd_by mi) pc) = true) (hs : pm_sb 18 nx ls st h = some (.inl (pc', ls', st', h'))) (kk : sd_Kt p l e R s m args below meth c Q D cI cL base adX k0 s0 nL ad h.1.length pc' ls' st' h') : W p l e R s m args below meth c H locs cells slots Q (F0 m pc Ls St) := by
  obtain ⟨hx, hlt, hown, hb, hml, hrt, hlk, htb, hnm⟩ := hF
  unfold pm_sb at hs
  split at hs
  · rename_i y x r
    have hs : (if y = 0 then none else some (x / y) : Option Int32).bind (fun w => pm_nx nx ls (.int w :: r) h) = some (.inl (pc', ls', st', h')) := hs
    split at hs
    · cases hs
    · rename_i hy
      have hs : pm_nx nx ls (.int (x / y) :: r) h = some (.inl (pc', ls', st', h')) := hs
      obtain ⟨rfl, rfl, rfl, rfl⟩ := pm_nx_inj hs
      obtain ⟨w1, k1, rfl, hw1, hrs1⟩ := hR.2.2.2.1.c
      obtain ⟨w2, k2, rfl, hw2, hrs⟩ := hrs1.c
      cases (show w1 = .int y from hw1)
      cases (show w2 = .int x from hw2)
      obtain ⟨hd, rfl⟩ := sd_c18_inv hc
      exact lv_idiv hx hb hd hy (sd_same hR (sd_st_c (v := .int (x / y)) (w := .int (x / y)) rfl hrs) kk)
  · cases hs
theorem sd_s19 {nx : Nat} (hF : sd_F p l s m meth c mi) (hG : sd_G D cI cL base b0 adX X s) (hR : sd_R D cI cL base adX s R k0 s0 nL ad ls st h Ls St H locs cells slots)  (hc : sd_c19 pc nx (decode (sd_by mi) pc) = true) (hs : pm_sb 19 nx ls st h = some (.inl (pc', ls', st', h'))) (kk : sd_Kt p l e R s m args below meth c Q D cI cL base adX k0 s0 nL ad h.1.length pc' ls' st' h') : W p l e R s m args below meth c H locs cells slots Q (F0 m pc Ls St) := by
  obtain ⟨hx, hlt, hown, hb, hml, hrt, hlk, htb, hnm⟩ := hF
  unfold pm_sb at hs
  split at hs
  · rename_i y x r
    have hs : (if y = 0 then none else some (x - x / y * y) : Option Int32).bind (fun w => pm_nx nx ls (.int w :: r) h) = some (.inl (pc', ls', st', h')) := hs
    split at hs
    · cases hs
    · rename_i hy
      have hs : pm_nx nx ls (.int (x - x / y * y) :: r) h = some (.inl (pc', ls', st', h')) := hs
      obtain ⟨rfl, rfl, rfl, rfl⟩ := pm_nx_inj hs
      obtain ⟨w1, k1, rfl, hw1, hrs1⟩ := hR.2.2.2.1.c
      obtain ⟨w2, k2, rfl, hw2, hrs⟩ := hrs1.c
      cases (show w1 = .int y from hw1)
      cases (show w2 = .int x from hw2)
      obtain ⟨hd, rfl⟩ := sd_c19_inv hc
      exact lv_irem hx hb hd hy (sd_same hR (sd_st_c (v := .int (x - x / y * y)) (w := .int (x - x / y * y)) rfl hrs) kk)
  · cases hs
theorem sd_s20 {nx : Nat} (hF : sd_F p l s m meth c mi) (hG : sd_G D cI cL base b0 adX X s) (hR : sd_R D cI cL base adX s R k0 s0 nL ad ls st h Ls St H locs cells slots)  (hc : sd_c20 pc nx (decode (sd_by mi) pc) = true) (hs : pm_s20 nx ls st h = some (.inl (pc', ls', st', h'))) (kk : sd_Kt p l e R s m args below meth c Q D cI cL base adX k0 s0 nL ad h.1.length pc' ls' st' h') : W p l e R s m args below meth c H locs cells slots Q (F0 m pc Ls St) := by
  obtain ⟨hx, hlt, hown, hb, hml, hrt, hlk, htb, hnm⟩ := hF
  unfold pm_s20 at hs
  split at hs
  · rename_i x r
    obtain ⟨rfl, rfl, rfl, rfl⟩ := pm_nx_inj hs
    obtain ⟨w2, k2, rfl, hw2, hrs⟩ := hR.2.2.2.1.c
    cases (show w2 = .int x from hw2)
    obtain ⟨hd, rfl⟩ := sd_c20_inv hc
    exact lv_ineg hx hb hd (sd_same hR (sd_st_c (v := .int (-x)) (w := .int (-x)) rfl hrs) kk)
  · cases hs
theorem sd_s27 {nx : Nat} (hF : sd_F p l s m meth c mi) (hG : sd_G D cI cL base b0 adX X s) (hR : sd_R D cI cL base adX s R k0 s0 nL ad ls st h Ls St H locs cells slots)  (hc : sd_c27 pc nx (decode (sd_by mi) pc) = true) (hs : pm_s27 nx ls st h = some (.inl (pc', ls', st', h'))) (kk : sd_Kt p l e R s m args below meth c Q D cI cL base adX k0 s0 nL ad h.1.length pc' ls' st' h') : W p l e R s m args below meth c H locs cells slots Q (F0 m pc Ls St) := by
  obtain ⟨hx, hlt, hown, hb, hml, hrt, hlk, htb, hnm⟩ := hF
  unfold pm_s27 at hs
  split at hs
  · rename_i x r
    obtain ⟨rfl, rfl, rfl, rfl⟩ := pm_nx_inj hs
    obtain ⟨w2, k2, rfl, hw2, hrs⟩ := hR.2.2.2.1.c
    cases (show w2 = .int x from hw2)
    obtain ⟨hd, rfl⟩ := sd_c27_inv hc
    exact lv_i2l hx hb hd rfl (sd_same hR (sd_st_c (v := .long x.toInt64) (w := .long x.toInt64) rfl hrs) kk)
  · cases hs
theorem sd_s28 {nx : Nat} (hF : sd_F p l s m meth c mi) (hG : sd_G D cI cL base b0 adX X s) (hR : sd_R D cI cL base adX s R k0 s0 nL ad ls st h Ls St H locs cells slots)  (hc : sd_c28 pc nx (decode (sd_by mi) pc) = true) (hs : pm_s28 nx ls st h = some (.inl (pc', ls', st', h'))) (kk : sd_Kt p l e R s m args below meth c Q D cI cL base adX k0 s0 nL ad h.1.length pc' ls' st' h') : W p l e R s m args below meth c H locs cells slots Q (F0 m pc Ls St) := by
  obtain ⟨hx, hlt, hown, hb, hml, hrt, hlk, htb, hnm⟩ := hF
  unfold pm_s28 at hs
  split at hs
  · rename_i x r
    obtain ⟨rfl, rfl, rfl, rfl⟩ := pm_nx_inj hs
    obtain ⟨w2, k2, rfl, hw2, hrs⟩ := hR.2.2.2.1.c
    cases (show w2 = .int x from hw2)
    obtain ⟨hd, rfl⟩ := sd_c28_inv hc
    exact lv_i2c hx hb hd rfl (sd_same hR (sd_st_c (v := .int (x.toUInt32 % 65536).toInt32) (w := .int (x.toUInt32 % 65536).toInt32) rfl hrs) kk)
  · cases hs
theorem sd_s29 {nx : Nat} (hF : sd_F p l s m meth c mi) (hG : sd_G D cI cL base b0 adX X s) (hR : sd_R D cI cL base adX s R k0 s0 nL ad ls st h Ls St H locs cells slots)  (hc : sd_c29 pc nx (decode (sd_by mi) pc) = true) (hs : pm_s29 nx ls st h = some (.inl (pc', ls', st', h'))) (kk : sd_Kt p l e R s m args below meth c Q D cI cL base adX k0 s0 nL ad h.1.length pc' ls' st' h') : W p l e R s m args below meth c H locs cells slots Q (F0 m pc Ls St) := by
  obtain ⟨hx, hlt, hown, hb, hml, hrt, hlk, htb, hnm⟩ := hF
  unfold pm_s29 at hs
  split at hs
  · rename_i y x r
    obtain ⟨rfl, rfl, rfl, rfl⟩ := pm_nx_inj hs
    obtain ⟨w1, k1, rfl, hw1, hrs1⟩ := hR.2.2.2.1.c
    obtain ⟨w2, k2, rfl, hw2, hrs⟩ := hrs1.c
    cases (show w1 = .long y from hw1)
    cases (show w2 = .long x from hw2)
    obtain ⟨hd, rfl⟩ := sd_c29_inv hc
    exact W.lcmp hx hb hd (sd_same hR (sd_st_c (v := .int (lg_cmp x y)) (w := .int (lg_cmp x y)) rfl hrs) kk)
  · cases hs
theorem sd_s30 {nx : Nat} {v : Int} (hF : sd_F p l s m meth c mi) (hG : sd_G D cI cL base b0 adX X s) (hR : sd_R D cI cL base adX s R k0 s0 nL ad ls st h Ls St H locs cells slots)  (hc : sd_c30 pc nx v (decode (sd_by mi) pc) = true) (hs : pm_nx nx ls (.long (Int64.ofInt v) :: st) h = some (.inl (pc', ls', st', h'))) (kk : sd_Kt p l e R s m args below meth c Q D cI cL base adX k0 s0 nL ad h.1.length pc' ls' st' h') : W p l e R s m args below meth c H locs cells slots Q (F0 m pc Ls St) := by
  obtain ⟨hx, hlt, hown, hb, hml, hrt, hlk, htb, hnm⟩ := hF
  obtain ⟨rfl, rfl, rfl, rfl⟩ := pm_nx_inj hs
  obtain ⟨n, hd, rfl, he⟩ := sd_c30_inv hc
  exact lv_lconst hx hb hd he (sd_same hR (sd_st_c (v := .long (Int64.ofInt v)) (w := .long (Int64.ofInt v)) rfl hR.2.2.2.1) kk)
theorem sd_s31 {nx a b : Nat} (hF : sd_F p l s m meth c mi) (hG : sd_G D cI cL base b0 adX X s) (hR : sd_R D cI cL base adX s R k0 s0 nL ad ls st h Ls St H locs cells slots)  (hc : sd_c31 pc nx a b (decode (sd_by mi) pc) = true) (hs : pm_s31 nx a b ls st h = some (.inl (pc', ls', st', h'))) (kk : sd_Kt p l e R s m args below meth c Q D cI cL base adX k0 s0 nL ad h.1.length pc' ls' st' h') : W p l e R s m args below meth c H locs cells slots Q (F0 m pc Ls St) := by
  obtain ⟨hx, hlt, hown, hb, hml, hrt, hlk, htb, hnm⟩ := hF
  unfold pm_s31 at hs
  split at hs
  · rename_i x r
    obtain ⟨rfl, rfl, rfl, rfl⟩ := pm_nx_inj hs
    obtain ⟨w2, k2, rfl, hw2, hrs⟩ := hR.2.2.2.1.c
    cases (show w2 = .int x from hw2)
    obtain ⟨cc, off, hd, rfl, hcc, ht⟩ := sd_c31_inv hc
    subst hcc
    cases cc
    · refine lv_if_eq (tgt := b) hx hb hd ht (fun hy9 => ?_) (fun hy9 => ?_)
      · rw [if_pos (by simpa [pm_cnd, sd_cond] using hy9)] at kk
        exact sd_same hR hrs kk
      · rw [if_neg (by simpa [pm_cnd, sd_cond] using hy9)] at kk
        exact sd_same hR hrs kk
    · refine lv_if_ne (tgt := b) hx hb hd ht (fun hy9 => ?_) (fun hy9 => ?_)
      · rw [if_pos (by simpa [pm_cnd, sd_cond] using hy9)] at kk
        exact sd_same hR hrs kk
      · rw [if_neg (by simpa [pm_cnd, sd_cond] using hy9)] at kk
        exact sd_same hR hrs kk
    · refine lv_if_lt (tgt := b) hx hb hd ht (fun hy9 => ?_) (fun hy9 => ?_)
      · rw [if_pos (by simpa [pm_cnd, sd_cond] using hy9)] at kk
        exact sd_same hR hrs kk
      · rw [if_neg (by simpa [pm_cnd, sd_cond] using hy9)] at kk
        exact sd_same hR hrs kk
    · refine lv_if_ge (tgt := b) hx hb hd ht (fun hy9 => ?_) (fun hy9 => ?_)
      · rw [if_pos (by simpa [pm_cnd, sd_cond] using hy9)] at kk
        exact sd_same hR hrs kk
      · rw [if_neg (by simpa [pm_cnd, sd_cond] using hy9)] at kk
        exact sd_same hR hrs kk
    · refine lv_if_gt (tgt := b) hx hb hd ht (fun hy9 => ?_) (fun hy9 => ?_)
      · rw [if_pos (by simpa [pm_cnd, sd_cond] using hy9)] at kk
        exact sd_same hR hrs kk
      · rw [if_neg (by simpa [pm_cnd, sd_cond] using hy9)] at kk
        exact sd_same hR hrs kk
    · refine lv_if_le (tgt := b) hx hb hd ht (fun hy9 => ?_) (fun hy9 => ?_)
      · rw [if_pos (by simpa [pm_cnd, sd_cond] using hy9)] at kk
        exact sd_same hR hrs kk
      · rw [if_neg (by simpa [pm_cnd, sd_cond] using hy9)] at kk
        exact sd_same hR hrs kk
  · cases hs
theorem sd_s32 {nx a b : Nat} (hF : sd_F p l s m meth c mi) (hG : sd_G D cI cL base b0 adX X s) (hR : sd_R D cI cL base adX s R k0 s0 nL ad ls st h Ls St H locs cells slots)  (hc : sd_c32 pc nx a b (decode (sd_by mi) pc) = true) (hs : pm_s32 nx a b ls st h = some (.inl (pc', ls', st', h'))) (kk : sd_Kt p l e R s m args below meth c Q D cI cL base adX k0 s0 nL ad h.1.length pc' ls' st' h') : W p l e R s m args below meth c H locs cells slots Q (F0 m pc Ls St) := by
  obtain ⟨hx, hlt, hown, hb, hml, hrt, hlk, htb, hnm⟩ := hF
  unfold pm_s32 at hs
  split at hs
  · rename_i y x r
    obtain ⟨rfl, rfl, rfl, rfl⟩ := pm_nx_inj hs
    obtain ⟨w1, k1, rfl, hw1, hrs1⟩ := hR.2.2.2.1.c
    obtain ⟨w2, k2, rfl, hw2, hrs⟩ := hrs1.c
    cases (show w1 = .int y from hw1)
    cases (show w2 = .int x from hw2)
    obtain ⟨cc, off, hd, rfl, hcc, ht⟩ := sd_c32_inv hc
    subst hcc
    cases cc
    · refine lv_icmp_eq (tgt := b) hx hb hd ht (fun hy9 => ?_) (fun hy9 => ?_)
      · rw [if_pos (by simpa [pm_cnd, sd_cond] using hy9)] at kk
        exact sd_same hR hrs kk
      · rw [if_neg (by simpa [pm_cnd, sd_cond] using hy9)] at kk
        exact sd_same hR hrs kk
    · refine lv_icmp_ne (tgt := b) hx hb hd ht (fun hy9 => ?_) (fun hy9 => ?_)
      · rw [if_pos (by simpa [pm_cnd, sd_cond] using hy9)] at kk
        exact sd_same hR hrs kk
      · rw [if_neg (by simpa [pm_cnd, sd_cond] using hy9)] at kk
        exact sd_same hR hrs kk
    · refine lv_icmp_lt (tgt := b) hx hb hd ht (fun hy9 => ?_) (fun hy9 => ?_)
      · rw [if_pos (by simpa [pm_cnd, sd_cond] using hy9)] at kk
        exact sd_same hR hrs kk
      · rw [if_neg (by simpa [pm_cnd, sd_cond] using hy9)] at kk
        exact sd_same hR hrs kk
    · refine lv_icmp_ge (tgt := b) hx hb hd ht (fun hy9 => ?_) (fun hy9 => ?_)
      · rw [if_pos (by simpa [pm_cnd, sd_cond] using hy9)] at kk
        exact sd_same hR hrs kk
      · rw [if_neg (by simpa [pm_cnd, sd_cond] using hy9)] at kk
        exact sd_same hR hrs kk
    · refine lv_icmp_gt (tgt := b) hx hb hd ht (fun hy9 => ?_) (fun hy9 => ?_)
      · rw [if_pos (by simpa [pm_cnd, sd_cond] using hy9)] at kk
        exact sd_same hR hrs kk
      · rw [if_neg (by simpa [pm_cnd, sd_cond] using hy9)] at kk
        exact sd_same hR hrs kk
    · refine lv_icmp_le (tgt := b) hx hb hd ht (fun hy9 => ?_) (fun hy9 => ?_)
      · rw [if_pos (by simpa [pm_cnd, sd_cond] using hy9)] at kk
        exact sd_same hR hrs kk
      · rw [if_neg (by simpa [pm_cnd, sd_cond] using hy9)] at kk
        exact sd_same hR hrs kk
  · cases hs
theorem sd_s33 {b : Nat} (hF : sd_F p l s m meth c mi) (hG : sd_G D cI cL base b0 adX X s) (hR : sd_R D cI cL base adX s R k0 s0 nL ad ls st h Ls St H locs cells slots)  (hc : sd_c33 pc b (decode (sd_by mi) pc) = true) (hs : pm_nx b ls st h = some (.inl (pc', ls', st', h'))) (kk : sd_Kt p l e R s m args below meth c Q D cI cL base adX k0 s0 nL ad h.1.length pc' ls' st' h') : W p l e R s m args below meth c H locs cells slots Q (F0 m pc Ls St) := by
  obtain ⟨hx, hlt, hown, hb, hml, hrt, hlk, htb, hnm⟩ := hF
  obtain ⟨rfl, rfl, rfl, rfl⟩ := pm_nx_inj hs
  obtain ⟨off, hd, ht⟩ := sd_c33_inv hc
  exact lv_goto hx hb hd ht (sd_same hR hR.2.2.2.1 kk)
theorem sd_tg_get : ∀ {l : List Int} {k : List Nat} {j : Nat}, sd_tg pc l k = true → j < k.length → ∃ off, l[j]? = some off ∧ (pc : Int) + off = ((k.getD j 0 : Nat) : Int)
  | [], [], _, _, h => by cases h
  | [], _ :: _, _, h, _ => by cases h
  | _ :: _, [], _, h, _ => by cases h
  | off :: l, t :: k, 0, h, _ => by
    simp only [sd_tg, Bool.and_eq_true, decide_eq_true_eq] at h
    exact ⟨off, rfl, h.1⟩
  | off :: l, t :: k, j + 1, h, hj => by
    simp only [sd_tg, Bool.and_eq_true, decide_eq_true_eq] at h
    obtain ⟨o2, h1, h2⟩ := sd_tg_get (j := j) h.2 (by simpa using hj)
    exact ⟨o2, by simpa using h1, by simpa using h2⟩
theorem sd_s34 {b : Nat} {v : Int} {ts : List Nat} (hF : sd_F p l s m meth c mi) (hG : sd_G D cI cL base b0 adX X s) (hR : sd_R D cI cL base adX s R k0 s0 nL ad ls st h Ls St H locs cells slots)  (hc : sd_c34 pc b v ts (decode (sd_by mi) pc) = true) (hs : pm_s34 b v ts ls st h = some (.inl (pc', ls', st', h'))) (kk : sd_Kt p l e R s m args below meth c Q D cI cL base adX k0 s0 nL ad h.1.length pc' ls' st' h') : W p l e R s m args below meth c H locs cells slots Q (F0 m pc Ls St) := by
  obtain ⟨hx, hlt, hown, hb, hml, hrt, hlk, htb, hnm⟩ := hF
  unfold pm_s34 at hs
  split at hs
  · rename_i x r
    obtain ⟨rfl, rfl, rfl, rfl⟩ := pm_nx_inj hs
    obtain ⟨w2, k2, rfl, hw2, hrs⟩ := hR.2.2.2.1.c
    cases (show w2 = .int x from hw2)
    obtain ⟨dflt, lo, hi, offs, l9, hd, h1, h2, h3, h4⟩ := sd_c34_inv hc
    subst h1
    subst h2
    by_cases hr : x.toInt < lo ∨ lo + ts.length ≤ x.toInt
    · rw [if_pos hr] at kk
      exact lv_tableOut hx hb hd (by omega) h3 (sd_same hR hrs kk)
    · rw [if_neg hr] at kk
      obtain ⟨off, g1, g2⟩ := sd_tg_get (j := (x.toInt - lo).toNat) h4 (by omega)
      exact lv_tableIn hx hb hd (by omega) (by omega) (by rw [← Array.getElem?_toList]; exact g1) g2 (sd_same hR hrs kk)
  · cases hs
theorem sd_s35 {nx : Nat} (hF : sd_F p l s m meth c mi) (hG : sd_G D cI cL base b0 adX X s) (hR : sd_R D cI cL base adX s R k0 s0 nL ad ls st h Ls St H locs cells slots)  (hc : sd_c35 pc nx (decode (sd_by mi) pc) = true) (hs : pm_s35 nx ls st h = some (.inl (pc', ls', st', h'))) (kk : sd_Kt p l e R s m args below meth c Q D cI cL base adX k0 s0 nL ad h.1.length pc' ls' st' h') : W p l e R s m args below meth c H locs cells slots Q (F0 m pc Ls St) := by
  obtain ⟨hx, hlt, hown, hb, hml, hrt, hlk, htb, hnm⟩ := hF
  unfold pm_s35 at hs
  split at hs
  · rename_i w r
    split at hs
    · rename_i hw1
      obtain ⟨rfl, rfl, rfl, rfl⟩ := pm_nx_inj hs
      obtain ⟨w2, k2, rfl, hw2, hrs⟩ := hR.2.2.2.1.c
      obtain ⟨hd, rfl⟩ := sd_c35_inv hc
      exact lv_dup hx hb hd (hw2.w1 hw1) (sd_same hR (sd_st_c hw2 (sd_st_c hw2 hrs)) kk)
    · cases hs
  · cases hs
theorem sd_s36 {nx : Nat} (hF : sd_F p l s m meth c mi) (hG : sd_G D cI cL base b0 adX X s) (hR : sd_R D cI cL base adX s R k0 s0 nL ad ls st h Ls St H locs cells slots)  (hc : sd_c36 pc nx (decode (sd_by mi) pc) = true) (hs : pm_s36 nx ls st h = some (.inl (pc', ls', st', h'))) (kk : sd_Kt p l e R s m args below meth c Q D cI cL base adX k0 s0 nL ad h.1.length pc' ls' st' h') : W p l e R s m args below meth c H locs cells slots Q (F0 m pc Ls St) := by
  obtain ⟨hx, hlt, hown, hb, hml, hrt, hlk, htb, hnm⟩ := hF
  unfold pm_s36 at hs
  split at hs
  · rename_i w r
    split at hs
    · rename_i hw1
      obtain ⟨rfl, rfl, rfl, rfl⟩ := pm_nx_inj hs
      obtain ⟨w2, k2, rfl, hw2, hrs⟩ := hR.2.2.2.1.c
      obtain ⟨hd, rfl⟩ := sd_c36_inv hc
      exact lv_pop hx hb hd (hw2.w1 hw1) (sd_same hR hrs kk)
    · cases hs
  · cases hs
theorem sd_s37 {nx : Nat} (hF : sd_F p l s m meth c mi) (hG : sd_G D cI cL base b0 adX X s) (hR : sd_R D cI cL base adX s R k0 s0 nL ad ls st h Ls St H locs cells slots)  (hc : sd_c37 pc nx (decode (sd_by mi) pc) = true) (hs : pm_s37 nx ls st h = some (.inl (pc', ls', st', h'))) (kk : sd_Kt p l e R s m args below meth c Q D cI cL base adX k0 s0 nL ad h.1.length pc' ls' st' h') : W p l e R s m args below meth c H locs cells slots Q (F0 m pc Ls St) := by
  obtain ⟨hx, hlt, hown, hb, hml, hrt, hlk, htb, hnm⟩ := hF
  unfold pm_s37 at hs
  split at hs
  · rename_i w u r
    split at hs
    · rename_i hw1
      rw [Bool.and_eq_true] at hw1
      obtain ⟨rfl, rfl, rfl, rfl⟩ := pm_nx_inj hs
      obtain ⟨w1, k1, rfl, hw2, hrs1⟩ := hR.2.2.2.1.c
      obtain ⟨w2, k2, rfl, hw3, hrs⟩ := hrs1.c
      obtain ⟨hd, rfl⟩ := sd_c37_inv hc
      exact lv_dup2_11 hx hb hd (hw2.w1 hw1.1) (hw3.w1 hw1.2) (sd_same hR (sd_st_c hw2 (sd_st_c hw3 (sd_st_c hw2 (sd_st_c hw3 hrs)))) kk)
    · cases hs
  · cases hs
theorem sd_s49 {nx a : Nat} (hF : sd_F p l s m meth c mi) (hG : sd_G D cI cL base b0 adX X s) (hR : sd_R D cI cL base adX s R k0 s0 nL ad ls st h Ls St H locs cells slots)  (hc : sd_c49 (sd_oc mi) pc nx a (decode (sd_by mi) pc) = true) (hs : pm_nx nx ls (.ref (2000 + a) :: st) h = some (.inl (pc', ls', st', h'))) (kk : sd_Kt p l e R s m args below meth c Q D cI cL base adX k0 s0 nL ad h.1.length pc' ls' st' h') : W p l e R s m args below meth c H locs cells slots Q (F0 m pc Ls St) := by
  obtain ⟨hx, hlt, hown, hb, hml, hrt, hlk, htb, hnm⟩ := hF
  obtain ⟨rfl, rfl, rfl, rfl⟩ := pm_nx_inj hs
  obtain ⟨x, hd, rfl, hl⟩ := sd_c49_inv hc
  obtain ⟨q, hq, e1⟩ := List.any_eq_true.mp hl
  obtain ⟨e1, e2, e3⟩ := of_decide_eq_true e1
  have hZ := hG.2.2.2.2.2.2.2.1.1 q hq
  rw [e1, e2, e3] at hZ
  have had : ad (2000 + a) = adX (2000 + a) := hR.1.2.2.2.2 _ (sd_ge a)
  exact va_ldcS hx hb hown hZ hd (sd_same hR (sd_st_c (v := .ref (2000 + a)) (w := .ref (adX (2000 + a))) ⟨by rw [had], Or.inr (sd_ge a)⟩ hR.2.2.2.1) kk)
theorem sd_jf_at {oc ix k : Nat} (hG : sd_G D cI cL base b0 adX X s) (h : (sd_jf.any fun q => decide (q.1 = oc ∧ q.2.1 = ix ∧ q.2.2.1 = k)) = true) : ∃ q : Nat × (Nat × (Nat × Nat)), q.1 = oc ∧ q.2.1 = ix ∧ q.2.2.1 = k ∧ (sd_wJ q).before args s = true := by
  obtain ⟨q, hq, e⟩ := List.any_eq_true.mp h
  obtain ⟨h1, h2, h3⟩ := of_decide_eq_true e
  exact ⟨q, h1, h2, h3, sd_word hG (sd_jf_ok q hq) args⟩
theorem sd_s50 {nx : Nat} (hF : sd_F p l s m meth c mi) (hG : sd_G D cI cL base b0 adX X s) (hR : sd_R D cI cL base adX s R k0 s0 nL ad ls st h Ls St H locs cells slots)  (hc : sd_c50 (sd_oc mi) pc nx (decode (sd_by mi) pc) = true) (hs : pm_s50 nx ls st h = some (.inl (pc', ls', st', h'))) (kk : sd_Kt p l e R s m args below meth c Q D cI cL base adX k0 s0 nL ad h.1.length pc' ls' st' h') : W p l e R s m args below meth c H locs cells slots Q (F0 m pc Ls St) := by
  obtain ⟨hx, hlt, hown, hb, hml, hrt, hlk, htb, hnm⟩ := hF
  unfold pm_s50 at hs
  split at hs
  · rename_i q r
    split at hs
    · rename_i hq
      obtain ⟨k9, rfl, hk9, hk3⟩ := sd_k9 hq
      obtain ⟨rfl, rfl, rfl, rfl⟩ := pm_nx_inj hs
      obtain ⟨w2, k2, rfl, hw2, hrs⟩ := hR.2.2.2.1.c
      cases hw2.1
      obtain ⟨x, hd, rfl, hl⟩ := sd_c50_inv hc
      obtain ⟨u, e1, e2, e3, hw⟩ := sd_jf_at (args := args) hG hl
      obtain ⟨u1, u2, u3, u4⟩ := u
      simp only at e1 e2 e3
      subst e1 e2 e3
      rw [hR.1.2.2.2.2 (2000 + k9) (sd_ge k9)]
      exact vk_getf hx hb (hG.2.2.2.2.1 k9 hk9).2.2.1 hR.2.1 hown hw (fun _ h => h) hd (sd_same hR (sd_st_c (v := .ref (2000 + k9 + 1000)) (w := .ref (adX (3000 + k9))) ⟨by rw [hk3, hR.1.2.2.2.2 _ (sd_ge3 k9)], Or.inr (by rw [hk3]; exact sd_ge3 k9)⟩ hrs) kk)
    · cases hs
  · cases hs
theorem sd_s51 {nx : Nat} (hF : sd_F p l s m meth c mi) (hG : sd_G D cI cL base b0 adX X s) (hR : sd_R D cI cL base adX s R k0 s0 nL ad ls st h Ls St H locs cells slots)  (hc : sd_c51 (sd_oc mi) pc nx (decode (sd_by mi) pc) = true) (hs : pm_s51 nx ls st h = some (.inl (pc', ls', st', h'))) (kk : sd_Kt p l e R s m args below meth c Q D cI cL base adX k0 s0 nL ad h.1.length pc' ls' st' h') : W p l e R s m args below meth c H locs cells slots Q (F0 m pc Ls St) := by
  obtain ⟨hx, hlt, hown, hb, hml, hrt, hlk, htb, hnm⟩ := hF
  unfold pm_s51 at hs
  split at hs
  · rename_i q r
    split at hs
    · rename_i hq
      obtain ⟨k9, rfl, hk9, hk3⟩ := sd_k9 hq
      obtain ⟨rfl, rfl, rfl, rfl⟩ := pm_nx_inj hs
      obtain ⟨w2, k2, rfl, hw2, hrs⟩ := hR.2.2.2.1.c
      cases hw2.1
      obtain ⟨x, hd, rfl, hl⟩ := sd_c51_inv hc
      obtain ⟨u, e1, e2, e3, hw⟩ := sd_jf_at (args := args) hG hl
      obtain ⟨u1, u2, u3, u4⟩ := u
      simp only at e1 e2 e3
      subst e1 e2 e3
      rw [hR.1.2.2.2.2 (2000 + k9) (sd_ge k9)]
      exact vk_getf hx hb (hG.2.2.2.2.1 k9 hk9).2.1 hR.2.1 hown hw (fun _ h => h) hd (sd_same hR (sd_st_c (v := .int 0) (w := .int 0) rfl hrs) kk)
    · cases hs
  · cases hs
theorem sd_s52 {nx : Nat} (hF : sd_F p l s m meth c mi) (hG : sd_G D cI cL base b0 adX X s) (hR : sd_R D cI cL base adX s R k0 s0 nL ad ls st h Ls St H locs cells slots)  (hc : sd_c52 (sd_oc mi) pc nx (decode (sd_by mi) pc) = true) (hs : pm_nx nx ls (.int 1 :: st) h = some (.inl (pc', ls', st', h'))) (kk : sd_Kt p l e R s m args below meth c Q D cI cL base adX k0 s0 nL ad h.1.length pc' ls' st' h') : W p l e R s m args below meth c H locs cells slots Q (F0 m pc Ls St) := by
  obtain ⟨hx, hlt, hown, hb, hml, hrt, hlk, htb, hnm⟩ := hF
  obtain ⟨rfl, rfl, rfl, rfl⟩ := pm_nx_inj hs
  obtain ⟨x, hd, rfl, hl⟩ := sd_c52_inv hc
  obtain ⟨u, e1, e2, e3, hw⟩ := sd_jf_at (args := args) hG hl
  obtain ⟨u1, u2, u3, u4⟩ := u
  simp only at e1 e2 e3
  subst e1 e2 e3
  exact va_gets hx hb hG.2.2.2.2.2.2.1.1 hR.2.1 hown hw (fun _ h => h) hd (sd_same hR (sd_st_c (v := .int 1) (w := .int 1) rfl hR.2.2.2.1) kk)
theorem sd_s53 {nx : Nat} (hF : sd_F p l s m meth c mi) (hG : sd_G D cI cL base b0 adX X s) (hR : sd_R D cI cL base adX s R k0 s0 nL ad ls st h Ls St H locs cells slots)  (hc : sd_c53 (sd_oc mi) pc nx (decode (sd_by mi) pc) = true) (hs : pm_nx nx ls (.float 1 :: st) h = some (.inl (pc', ls', st', h'))) (kk : sd_Kt p l e R s m args below meth c Q D cI cL base adX k0 s0 nL ad h.1.length pc' ls' st' h') : W p l e R s m args below meth c H locs cells slots Q (F0 m pc Ls St) := by
  obtain ⟨hx, hlt, hown, hb, hml, hrt, hlk, htb, hnm⟩ := hF
  obtain ⟨rfl, rfl, rfl, rfl⟩ := pm_nx_inj hs
  obtain ⟨x, hd, rfl, hl⟩ := sd_c53_inv hc
  obtain ⟨u, e1, e2, e3, hw⟩ := sd_jf_at (args := args) hG hl
  obtain ⟨u1, u2, u3, u4⟩ := u
  simp only at e1 e2 e3
  subst e1 e2 e3
  rcases hG.2.2.2.2.2.2.1.2 with hz | ⟨t, hz⟩
  · exact va_gets hx hb hz hR.2.1 hown hw (fun _ h => h) hd (sd_same hR (sd_st_c (v := .float 1) (w := .null) (Or.inl rfl) hR.2.2.2.1) kk)
  · exact va_gets hx hb hz hR.2.1 hown hw (fun _ h => h) hd (sd_same hR (sd_st_c (v := .float 1) (w := .ref t) (Or.inr ⟨t, rfl⟩) hR.2.2.2.1) kk)
theorem sd_s43 {nx : Nat} (hF : sd_F p l s m meth c mi) (hG : sd_G D cI cL base b0 adX X s) (hR : sd_R D cI cL base adX s R k0 s0 nL ad ls st h Ls St H locs cells slots) (hRm : sd_Rm d R) (hnL : nL = pm_ml mi) (hc : sd_c43 (sd_oc mi) pc nx (decode (sd_by mi) pc) = true) (hs : pm_s43 nx ls st h = some (.inl (pc', ls', st', h'))) (kk : sd_Kt p l e R s m args below meth c Q D cI cL base adX k0 s0 nL ad h.1.length pc' ls' st' h') : W p l e R s m args below meth c H locs cells slots Q (F0 m pc Ls St) := by
  obtain ⟨hx, hlt, hown, hb, hml, hrt, hlk, htb, hnm⟩ := hF
  unfold pm_s43 at hs
  split at hs
  · rename_i q r
    split at hs
    · rename_i hq
      obtain ⟨rfl, rfl, rfl, rfl⟩ := pm_nx_inj hs
      obtain ⟨w2, k2, rfl, hw2, hrs⟩ := hR.2.2.2.1.c
      cases hw2.1
      obtain ⟨x, hd, rfl, hl⟩ := sd_c43_inv hc
      obtain ⟨u, hu, e1⟩ := List.any_eq_true.mp hl
      obtain ⟨e1, e2⟩ := of_decide_eq_true e1
      have hw := sd_word hG (sd_ol_ok u hu) args
      rw [e1, e2] at hw
      have hcat := hrs.w8 hq.2
      refine W.objInit (g := F0 m pc Ls (.ref (ad q) :: k2)) hx hb hown hw (sd_word hG sd_oi_ok.1 args) (sd_word hG sd_oi_ok.2.1 args) rfl (by show Ls.size = c.maxLocals; rw [hR.2.2.1.size, hml, hnL]) rfl hd (by have := hRm.1; omega) (by have := hRm.2; show 2 * 0 + (k2.map fun v => v.category).sum + 12 ≤ R.locals; omega) ?_
      exact sd_same hR hrs kk
    · cases hs
  · cases hs
end SDV3
