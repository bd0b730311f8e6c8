/-! ===== what is owed ===== -/
theorem pm_law_ok : pm_law := pm_law_of wLW_0 wLW_ln wLW_X
  (fun _ hX _ _ _ _ _ _ _ _ hi hc hV hN => op_2 wLW_X hi hX hc hV hN)
  (fun _ hX _ _ _ _ _ _ _ _ hi hc hV hN => op_3 hi hX hc hV hN)
  (fun _ hX _ _ _ _ _ _ _ _ hi hc hV hN => op_10 hi hX hc hV hN)
  (fun _ hX _ _ _ _ _ _ _ _ hi hc hV hN => op_11 hi hX hc hV hN)
  (fun _ hX _ _ _ _ _ _ _ _ hi hc hV hN => op_18 hi hX hc hV hN)
  (fun _ hX _ _ _ _ _ _ _ _ hi hc hV hN => op_20 hi hX hc hV hN)
  (fun _ hX _ _ _ _ _ _ _ _ hi hc hV hN => op_22 hi hX hc hV hN)
theorem i_vc : Claimed_1_1 ∧ Claimed_1_2 := sd_vc pm_law_ok
