/-! ===== what is thrown goes on; where a switch goes ===== -/
section WKX
variable {X : pm_X} {d pc nx e : Nat} {ls rest : List Value} {h : pm_H} {Φ : pm_O → pm_H → Prop} {x : Int32}
theorem wx_100 : WK X d 100 pc nx ls rest Φ (.inr e) h ↔ Φ (.inr e) h := wk_x rfl
theorem wy_100 : wthr e h (WK X d 100 pc nx ls rest Φ) ↔ wthr e h Φ := and_congr_right fun _ => wk_x rfl
theorem wx_101 : WK X d 101 pc nx ls rest Φ (.inr e) h ↔ Φ (.inr e) h := wk_x rfl
theorem wy_101 : wthr e h (WK X d 101 pc nx ls rest Φ) ↔ wthr e h Φ := and_congr_right fun _ => wk_x rfl
theorem wx_102 : WK X d 102 pc nx ls rest Φ (.inr e) h ↔ Φ (.inr e) h := wk_x rfl
theorem wy_102 : wthr e h (WK X d 102 pc nx ls rest Φ) ↔ wthr e h Φ := and_congr_right fun _ => wk_x rfl
theorem wx_103 : WK X d 103 pc nx ls rest Φ (.inr e) h ↔ Φ (.inr e) h := wk_x rfl
theorem wy_103 : wthr e h (WK X d 103 pc nx ls rest Φ) ↔ wthr e h Φ := and_congr_right fun _ => wk_x rfl
theorem wx_104 : WK X d 104 pc nx ls rest Φ (.inr e) h ↔ Φ (.inr e) h := wk_x rfl
theorem wy_104 : wthr e h (WK X d 104 pc nx ls rest Φ) ↔ wthr e h Φ := and_congr_right fun _ => wk_x rfl
theorem wx_105 : WK X d 105 pc nx ls rest Φ (.inr e) h ↔ Φ (.inr e) h := wk_x rfl
theorem wy_105 : wthr e h (WK X d 105 pc nx ls rest Φ) ↔ wthr e h Φ := and_congr_right fun _ => wk_x rfl
theorem wx_106 : WK X d 106 pc nx ls rest Φ (.inr e) h ↔ Φ (.inr e) h := wk_x rfl
theorem wy_106 : wthr e h (WK X d 106 pc nx ls rest Φ) ↔ wthr e h Φ := and_congr_right fun _ => wk_x rfl
theorem wx_107 : WK X d 107 pc nx ls rest Φ (.inr e) h ↔ Φ (.inr e) h := wk_x rfl
theorem wy_107 : wthr e h (WK X d 107 pc nx ls rest Φ) ↔ wthr e h Φ := and_congr_right fun _ => wk_x rfl
theorem wx_108 : WK X d 108 pc nx ls rest Φ (.inr e) h ↔ Φ (.inr e) h := wk_x rfl
theorem wy_108 : wthr e h (WK X d 108 pc nx ls rest Φ) ↔ wthr e h Φ := and_congr_right fun _ => wk_x rfl
theorem wx_109 : WK X d 109 pc nx ls rest Φ (.inr e) h ↔ Φ (.inr e) h := wk_x rfl
theorem wy_109 : wthr e h (WK X d 109 pc nx ls rest Φ) ↔ wthr e h Φ := and_congr_right fun _ => wk_x rfl
theorem wx_110 : WK X d 110 pc nx ls rest Φ (.inr e) h ↔ Φ (.inr e) h := wk_x rfl
theorem wy_110 : wthr e h (WK X d 110 pc nx ls rest Φ) ↔ wthr e h Φ := and_congr_right fun _ => wk_x rfl
theorem wx_111 : WK X d 111 pc nx ls rest Φ (.inr e) h ↔ Φ (.inr e) h := wk_x rfl
theorem wy_111 : wthr e h (WK X d 111 pc nx ls rest Φ) ↔ wthr e h Φ := and_congr_right fun _ => wk_x rfl
theorem wx_112 : WK X d 112 pc nx ls rest Φ (.inr e) h ↔ Φ (.inr e) h := wk_x rfl
theorem wy_112 : wthr e h (WK X d 112 pc nx ls rest Φ) ↔ wthr e h Φ := and_congr_right fun _ => wk_x rfl
theorem wx_113 : WK X d 113 pc nx ls rest Φ (.inr e) h ↔ Φ (.inr e) h := wk_x rfl
theorem wy_113 : wthr e h (WK X d 113 pc nx ls rest Φ) ↔ wthr e h Φ := and_congr_right fun _ => wk_x rfl
theorem wx_114 : WK X d 114 pc nx ls rest Φ (.inr e) h ↔ Φ (.inr e) h := wk_x rfl
theorem wy_114 : wthr e h (WK X d 114 pc nx ls rest Φ) ↔ wthr e h Φ := and_congr_right fun _ => wk_x rfl
theorem wx_115 : WK X d 115 pc nx ls rest Φ (.inr e) h ↔ Φ (.inr e) h := wk_x rfl
theorem wy_115 : wthr e h (WK X d 115 pc nx ls rest Φ) ↔ wthr e h Φ := and_congr_right fun _ => wk_x rfl
theorem wx_116 : WK X d 116 pc nx ls rest Φ (.inr e) h ↔ Φ (.inr e) h := wk_x rfl
theorem wy_116 : wthr e h (WK X d 116 pc nx ls rest Φ) ↔ wthr e h Φ := and_congr_right fun _ => wk_x rfl
theorem wx_117 : WK X d 117 pc nx ls rest Φ (.inr e) h ↔ Φ (.inr e) h := wk_x rfl
theorem wy_117 : wthr e h (WK X d 117 pc nx ls rest Φ) ↔ wthr e h Φ := and_congr_right fun _ => wk_x rfl
theorem wx_118 : WK X d 118 pc nx ls rest Φ (.inr e) h ↔ Φ (.inr e) h := wk_x rfl
theorem wy_118 : wthr e h (WK X d 118 pc nx ls rest Φ) ↔ wthr e h Φ := and_congr_right fun _ => wk_x rfl
theorem wx_119 : WK X d 119 pc nx ls rest Φ (.inr e) h ↔ Φ (.inr e) h := wk_x rfl
theorem wy_119 : wthr e h (WK X d 119 pc nx ls rest Φ) ↔ wthr e h Φ := and_congr_right fun _ => wk_x rfl
theorem wx_120 : WK X d 120 pc nx ls rest Φ (.inr e) h ↔ Φ (.inr e) h := wk_x rfl
theorem wy_120 : wthr e h (WK X d 120 pc nx ls rest Φ) ↔ wthr e h Φ := and_congr_right fun _ => wk_x rfl
theorem wx_121 : WK X d 121 pc nx ls rest Φ (.inr e) h ↔ Φ (.inr e) h := wk_x rfl
theorem wy_121 : wthr e h (WK X d 121 pc nx ls rest Φ) ↔ wthr e h Φ := and_congr_right fun _ => wk_x rfl
theorem wx_122 : WK X d 122 pc nx ls rest Φ (.inr e) h ↔ Φ (.inr e) h := wk_x rfl
theorem wy_122 : wthr e h (WK X d 122 pc nx ls rest Φ) ↔ wthr e h Φ := and_congr_right fun _ => wk_x rfl
theorem wx_123 : WK X d 123 pc nx ls rest Φ (.inr e) h ↔ Φ (.inr e) h := wk_x rfl
theorem wy_123 : wthr e h (WK X d 123 pc nx ls rest Φ) ↔ wthr e h Φ := and_congr_right fun _ => wk_x rfl
theorem wx_124 : WK X d 124 pc nx ls rest Φ (.inr e) h ↔ Φ (.inr e) h := wk_x rfl
theorem wy_124 : wthr e h (WK X d 124 pc nx ls rest Φ) ↔ wthr e h Φ := and_congr_right fun _ => wk_x rfl
theorem wx_125 : WK X d 125 pc nx ls rest Φ (.inr e) h ↔ Φ (.inr e) h := wk_x rfl
theorem wy_125 : wthr e h (WK X d 125 pc nx ls rest Φ) ↔ wthr e h Φ := and_congr_right fun _ => wk_x rfl
theorem wx_126 : WK X d 126 pc nx ls rest Φ (.inr e) h ↔ Φ (.inr e) h := wk_x rfl
theorem wy_126 : wthr e h (WK X d 126 pc nx ls rest Φ) ↔ wthr e h Φ := and_congr_right fun _ => wk_x rfl
theorem wx_127 : WK X d 127 pc nx ls rest Φ (.inr e) h ↔ Φ (.inr e) h := wk_x rfl
theorem wy_127 : wthr e h (WK X d 127 pc nx ls rest Φ) ↔ wthr e h Φ := and_congr_right fun _ => wk_x rfl
theorem wx_128 : WK X d 128 pc nx ls rest Φ (.inr e) h ↔ Φ (.inr e) h := wk_x rfl
theorem wy_128 : wthr e h (WK X d 128 pc nx ls rest Φ) ↔ wthr e h Φ := and_congr_right fun _ => wk_x rfl
theorem wx_129 : WK X d 129 pc nx ls rest Φ (.inr e) h ↔ Φ (.inr e) h := wk_x rfl
theorem wy_129 : wthr e h (WK X d 129 pc nx ls rest Φ) ↔ wthr e h Φ := and_congr_right fun _ => wk_x rfl
theorem wx_130 : WK X d 130 pc nx ls rest Φ (.inr e) h ↔ Φ (.inr e) h := wk_x rfl
theorem wy_130 : wthr e h (WK X d 130 pc nx ls rest Φ) ↔ wthr e h Φ := and_congr_right fun _ => wk_x rfl
theorem wx_131 : WK X d 131 pc nx ls rest Φ (.inr e) h ↔ Φ (.inr e) h := wk_x rfl
theorem wy_131 : wthr e h (WK X d 131 pc nx ls rest Φ) ↔ wthr e h Φ := and_congr_right fun _ => wk_x rfl
theorem wx_132 : WK X d 132 pc nx ls rest Φ (.inr e) h ↔ Φ (.inr e) h := wk_x rfl
theorem wy_132 : wthr e h (WK X d 132 pc nx ls rest Φ) ↔ wthr e h Φ := and_congr_right fun _ => wk_x rfl
theorem wx_133 : WK X d 133 pc nx ls rest Φ (.inr e) h ↔ Φ (.inr e) h := wk_x rfl
theorem wy_133 : wthr e h (WK X d 133 pc nx ls rest Φ) ↔ wthr e h Φ := and_congr_right fun _ => wk_x rfl
theorem wx_134 : WK X d 134 pc nx ls rest Φ (.inr e) h ↔ Φ (.inr e) h := wk_x rfl
theorem wy_134 : wthr e h (WK X d 134 pc nx ls rest Φ) ↔ wthr e h Φ := and_congr_right fun _ => wk_x rfl
theorem wx_135 : WK X d 135 pc nx ls rest Φ (.inr e) h ↔ Φ (.inr e) h := wk_x rfl
theorem wy_135 : wthr e h (WK X d 135 pc nx ls rest Φ) ↔ wthr e h Φ := and_congr_right fun _ => wk_x rfl
theorem wx_136 : WK X d 136 pc nx ls rest Φ (.inr e) h ↔ Φ (.inr e) h := wk_x rfl
theorem wy_136 : wthr e h (WK X d 136 pc nx ls rest Φ) ↔ wthr e h Φ := and_congr_right fun _ => wk_x rfl
theorem wx_137 : WK X d 137 pc nx ls rest Φ (.inr e) h ↔ Φ (.inr e) h := wk_x rfl
theorem wy_137 : wthr e h (WK X d 137 pc nx ls rest Φ) ↔ wthr e h Φ := and_congr_right fun _ => wk_x rfl
theorem wx_138 : WK X d 138 pc nx ls rest Φ (.inr e) h ↔ Φ (.inr e) h := wk_x rfl
theorem wy_138 : wthr e h (WK X d 138 pc nx ls rest Φ) ↔ wthr e h Φ := and_congr_right fun _ => wk_x rfl
theorem wx_139 : WK X d 139 pc nx ls rest Φ (.inr e) h ↔ Φ (.inr e) h := wk_x rfl
theorem wy_139 : wthr e h (WK X d 139 pc nx ls rest Φ) ↔ wthr e h Φ := and_congr_right fun _ => wk_x rfl
theorem wh_238_0 : WK X d 238 3 nx ls rest Φ (.inr 0) h ↔ WP X d 238 11 ls [.float 0] h Φ := wk_h (List.cons_ne_nil _ _) rfl
theorem wh_238_1 : WK X d 238 3 nx ls rest Φ (.inr 1) h ↔ WP X d 238 14 ls [.float 0] h Φ := wk_h (List.cons_ne_nil _ _) rfl
theorem wh_239_0 : WK X d 239 3 nx ls rest Φ (.inr 0) h ↔ WP X d 239 11 ls [.float 0] h Φ := wk_h (List.cons_ne_nil _ _) rfl
theorem wh_240_0 : WK X d 240 5 nx ls rest Φ (.inr 0) h ↔ WP X d 240 13 ls [.float 0] h Φ := wk_h (List.cons_ne_nil _ _) rfl
theorem wh_241_2 : WK X d 241 5 nx ls rest Φ (.inr 2) h ↔ WP X d 241 13 ls [.float 0] h Φ := wk_h (List.cons_ne_nil _ _) rfl
theorem wh_241_3 : WK X d 241 5 nx ls rest Φ (.inr 3) h ↔ WP X d 241 17 ls [.float 0] h Φ := wk_h (List.cons_ne_nil _ _) rfl
theorem wh_242_2 : WK X d 242 9 nx ls rest Φ (.inr 2) h ↔ WP X d 242 17 ls [.float 0] h Φ := wk_h (List.cons_ne_nil _ _) rfl
theorem wh_242_3 : WK X d 242 9 nx ls rest Φ (.inr 3) h ↔ WP X d 242 21 ls [.float 0] h Φ := wk_h (List.cons_ne_nil _ _) rfl
theorem wh_243_2 : WK X d 243 5 nx ls rest Φ (.inr 2) h ↔ WP X d 243 20 ls [.float 0] h Φ := wk_h (List.cons_ne_nil _ _) rfl
theorem wh_244_2 : WK X d 244 5 nx ls rest Φ (.inr 2) h ↔ WP X d 244 13 ls [.float 0] h Φ := wk_h (List.cons_ne_nil _ _) rfl
theorem wh_245_2 : WK X d 245 4 nx ls rest Φ (.inr 2) h ↔ WP X d 245 12 ls [.float 0] h Φ := wk_h (List.cons_ne_nil _ _) rfl
theorem wh_246_0 : WK X d 246 4 nx ls rest Φ (.inr 0) h ↔ WP X d 246 12 ls [.float 0] h Φ := wk_h (List.cons_ne_nil _ _) rfl
theorem wh_247_0 : WK X d 247 5 nx ls rest Φ (.inr 0) h ↔ WP X d 247 13 ls [.float 0] h Φ := wk_h (List.cons_ne_nil _ _) rfl
theorem wh_248_2 : WK X d 248 11 nx ls rest Φ (.inr 2) h ↔ WP X d 248 19 ls [.float 0] h Φ := wk_h (List.cons_ne_nil _ _) rfl
theorem wh_248_0 : WK X d 248 11 nx ls rest Φ (.inr 0) h ↔ WP X d 248 23 ls [.float 0] h Φ := wk_h (List.cons_ne_nil _ _) rfl
theorem wh_248_1 : WK X d 248 11 nx ls rest Φ (.inr 1) h ↔ WP X d 248 27 ls [.float 0] h Φ := wk_h (List.cons_ne_nil _ _) rfl
theorem wh_249_2 : WK X d 249 5 nx ls rest Φ (.inr 2) h ↔ WP X d 249 13 ls [.float 0] h Φ := wk_h (List.cons_ne_nil _ _) rfl
theorem wh_249_1 : WK X d 249 5 nx ls rest Φ (.inr 1) h ↔ WP X d 249 17 ls [.float 0] h Φ := wk_h (List.cons_ne_nil _ _) rfl
theorem wh_250_2 : WK X d 250 4 nx ls rest Φ (.inr 2) h ↔ WP X d 250 12 ls [.float 0] h Φ := wk_h (List.cons_ne_nil _ _) rfl
theorem wh_251_0 : WK X d 251 9 nx ls rest Φ (.inr 0) h ↔ WP X d 251 17 ls [.float 0] h Φ := wk_h (List.cons_ne_nil _ _) rfl
theorem wh_251_3 : WK X d 251 9 nx ls rest Φ (.inr 3) h ↔ WP X d 251 21 ls [.float 0] h Φ := wk_h (List.cons_ne_nil _ _) rfl
theorem wh_252_2 : WK X d 252 5 nx ls rest Φ (.inr 2) h ↔ WP X d 252 13 ls [.float 0] h Φ := wk_h (List.cons_ne_nil _ _) rfl
theorem wh_253_2 : WK X d 253 9 nx ls rest Φ (.inr 2) h ↔ WP X d 253 17 ls [.float 0] h Φ := wk_h (List.cons_ne_nil _ _) rfl
theorem wh_253_0 : WK X d 253 9 nx ls rest Φ (.inr 0) h ↔ WP X d 253 21 ls [.float 0] h Φ := wk_h (List.cons_ne_nil _ _) rfl
theorem wh_253_3 : WK X d 253 9 nx ls rest Φ (.inr 3) h ↔ WP X d 253 25 ls [.float 0] h Φ := wk_h (List.cons_ne_nil _ _) rfl
theorem wh_254_2 : WK X d 254 11 nx ls rest Φ (.inr 2) h ↔ WP X d 254 19 ls [.float 0] h Φ := wk_h (List.cons_ne_nil _ _) rfl
theorem wh_254_0 : WK X d 254 11 nx ls rest Φ (.inr 0) h ↔ WP X d 254 23 ls [.float 0] h Φ := wk_h (List.cons_ne_nil _ _) rfl
theorem wh_255_2 : WK X d 255 7 nx ls rest Φ (.inr 2) h ↔ WP X d 255 15 ls [.float 0] h Φ := wk_h (List.cons_ne_nil _ _) rfl
theorem wh_255_3 : WK X d 255 7 nx ls rest Φ (.inr 3) h ↔ WP X d 255 19 ls [.float 0] h Φ := wk_h (List.cons_ne_nil _ _) rfl
theorem wh_256_3 : WK X d 256 4 nx ls rest Φ (.inr 3) h ↔ WP X d 256 12 ls [.float 0] h Φ := wk_h (List.cons_ne_nil _ _) rfl
theorem wh_257_2 : WK X d 257 7 nx ls rest Φ (.inr 2) h ↔ WP X d 257 15 ls [.float 0] h Φ := wk_h (List.cons_ne_nil _ _) rfl
theorem wh_257_0 : WK X d 257 7 nx ls rest Φ (.inr 0) h ↔ WP X d 257 19 ls [.float 0] h Φ := wk_h (List.cons_ne_nil _ _) rfl
theorem sw_29_0 : pm_sw 66 (-5) [62, 66, 51, 40, 36] (wi (-5)) = 62 := rfl
theorem sw_29_1 : pm_sw 66 (-5) [62, 66, 51, 40, 36] (wi (-4)) = 66 := rfl
theorem sw_29_2 : pm_sw 66 (-5) [62, 66, 51, 40, 36] (wi (-3)) = 51 := rfl
theorem sw_29_3 : pm_sw 66 (-5) [62, 66, 51, 40, 36] (wi (-2)) = 40 := rfl
theorem sw_29_4 : pm_sw 66 (-5) [62, 66, 51, 40, 36] (wi (-1)) = 36 := rfl
theorem sw_29_d (h : x.toInt < -5 ∨ 0 ≤ x.toInt) : pm_sw 66 (-5) [62, 66, 51, 40, 36] x = 66 := if_pos (h.imp_right fun h9 => (show (-5 : Int) + ((5 : Nat) : Int) ≤ x.toInt by omega))
theorem sw_107_0 : pm_sw 156 (0) [60, 69, 82, 95, 104, 113, 126, 139] (wn 0) = 60 := rfl
theorem sw_107_1 : pm_sw 156 (0) [60, 69, 82, 95, 104, 113, 126, 139] (wn 1) = 69 := rfl
theorem sw_107_2 : pm_sw 156 (0) [60, 69, 82, 95, 104, 113, 126, 139] (wn 2) = 82 := rfl
theorem sw_107_3 : pm_sw 156 (0) [60, 69, 82, 95, 104, 113, 126, 139] (wn 3) = 95 := rfl
theorem sw_107_4 : pm_sw 156 (0) [60, 69, 82, 95, 104, 113, 126, 139] (wn 4) = 104 := rfl
theorem sw_107_5 : pm_sw 156 (0) [60, 69, 82, 95, 104, 113, 126, 139] (wn 5) = 113 := rfl
theorem sw_107_6 : pm_sw 156 (0) [60, 69, 82, 95, 104, 113, 126, 139] (wn 6) = 126 := rfl
theorem sw_107_7 : pm_sw 156 (0) [60, 69, 82, 95, 104, 113, 126, 139] (wn 7) = 139 := rfl
theorem sw_107_d (h : x.toInt < 0 ∨ 8 ≤ x.toInt) : pm_sw 156 (0) [60, 69, 82, 95, 104, 113, 126, 139] x = 156 := if_pos (h.imp_right fun h9 => (show (0 : Int) + ((8 : Nat) : Int) ≤ x.toInt by omega))
theorem sw_108_0 : pm_sw 160 (0) [120, 128, 144] (wn 0) = 120 := rfl
theorem sw_108_1 : pm_sw 160 (0) [120, 128, 144] (wn 1) = 128 := rfl
theorem sw_108_2 : pm_sw 160 (0) [120, 128, 144] (wn 2) = 144 := rfl
theorem sw_108_d (h : x.toInt < 0 ∨ 3 ≤ x.toInt) : pm_sw 160 (0) [120, 128, 144] x = 160 := if_pos (h.imp_right fun h9 => (show (0 : Int) + ((3 : Nat) : Int) ≤ x.toInt by omega))
theorem sw_123_0 : pm_sw 108 (0) [84, 92, 100] (wn 0) = 84 := rfl
theorem sw_123_1 : pm_sw 108 (0) [84, 92, 100] (wn 1) = 92 := rfl
theorem sw_123_2 : pm_sw 108 (0) [84, 92, 100] (wn 2) = 100 := rfl
theorem sw_123_d (h : x.toInt < 0 ∨ 3 ≤ x.toInt) : pm_sw 108 (0) [84, 92, 100] x = 108 := if_pos (h.imp_right fun h9 => (show (0 : Int) + ((3 : Nat) : Int) ≤ x.toInt by omega))
theorem sw_128_0 : pm_sw 235 (0) [80, 91, 102, 110, 118, 129, 137, 145, 156, 164, 172, 180, 188, 196, 204, 212] (wn 0) = 80 := rfl
theorem sw_128_1 : pm_sw 235 (0) [80, 91, 102, 110, 118, 129, 137, 145, 156, 164, 172, 180, 188, 196, 204, 212] (wn 1) = 91 := rfl
theorem sw_128_2 : pm_sw 235 (0) [80, 91, 102, 110, 118, 129, 137, 145, 156, 164, 172, 180, 188, 196, 204, 212] (wn 2) = 102 := rfl
theorem sw_128_3 : pm_sw 235 (0) [80, 91, 102, 110, 118, 129, 137, 145, 156, 164, 172, 180, 188, 196, 204, 212] (wn 3) = 110 := rfl
theorem sw_128_4 : pm_sw 235 (0) [80, 91, 102, 110, 118, 129, 137, 145, 156, 164, 172, 180, 188, 196, 204, 212] (wn 4) = 118 := rfl
theorem sw_128_5 : pm_sw 235 (0) [80, 91, 102, 110, 118, 129, 137, 145, 156, 164, 172, 180, 188, 196, 204, 212] (wn 5) = 129 := rfl
theorem sw_128_6 : pm_sw 235 (0) [80, 91, 102, 110, 118, 129, 137, 145, 156, 164, 172, 180, 188, 196, 204, 212] (wn 6) = 137 := rfl
theorem sw_128_7 : pm_sw 235 (0) [80, 91, 102, 110, 118, 129, 137, 145, 156, 164, 172, 180, 188, 196, 204, 212] (wn 7) = 145 := rfl
theorem sw_128_8 : pm_sw 235 (0) [80, 91, 102, 110, 118, 129, 137, 145, 156, 164, 172, 180, 188, 196, 204, 212] (wn 8) = 156 := rfl
theorem sw_128_9 : pm_sw 235 (0) [80, 91, 102, 110, 118, 129, 137, 145, 156, 164, 172, 180, 188, 196, 204, 212] (wn 9) = 164 := rfl
theorem sw_128_10 : pm_sw 235 (0) [80, 91, 102, 110, 118, 129, 137, 145, 156, 164, 172, 180, 188, 196, 204, 212] (wn 10) = 172 := rfl
theorem sw_128_11 : pm_sw 235 (0) [80, 91, 102, 110, 118, 129, 137, 145, 156, 164, 172, 180, 188, 196, 204, 212] (wn 11) = 180 := rfl
theorem sw_128_12 : pm_sw 235 (0) [80, 91, 102, 110, 118, 129, 137, 145, 156, 164, 172, 180, 188, 196, 204, 212] (wn 12) = 188 := rfl
theorem sw_128_13 : pm_sw 235 (0) [80, 91, 102, 110, 118, 129, 137, 145, 156, 164, 172, 180, 188, 196, 204, 212] (wn 13) = 196 := rfl
theorem sw_128_14 : pm_sw 235 (0) [80, 91, 102, 110, 118, 129, 137, 145, 156, 164, 172, 180, 188, 196, 204, 212] (wn 14) = 204 := rfl
theorem sw_128_15 : pm_sw 235 (0) [80, 91, 102, 110, 118, 129, 137, 145, 156, 164, 172, 180, 188, 196, 204, 212] (wn 15) = 212 := rfl
theorem sw_128_d (h : x.toInt < 0 ∨ 16 ≤ x.toInt) : pm_sw 235 (0) [80, 91, 102, 110, 118, 129, 137, 145, 156, 164, 172, 180, 188, 196, 204, 212] x = 235 := if_pos (h.imp_right fun h9 => (show (0 : Int) + ((16 : Nat) : Int) ≤ x.toInt by omega))
theorem sw_258_0 : pm_sw 1841 (0) [168, 241, 266, 310, 354, 367, 435, 503, 611, 686, 754, 810, 866, 934, 1038, 1106, 1119, 1175, 1188, 1280, 1364, 1456, 1576, 1656, 1712, 1792, 1803, 1816] (wn 0) = 168 := rfl
theorem sw_258_1 : pm_sw 1841 (0) [168, 241, 266, 310, 354, 367, 435, 503, 611, 686, 754, 810, 866, 934, 1038, 1106, 1119, 1175, 1188, 1280, 1364, 1456, 1576, 1656, 1712, 1792, 1803, 1816] (wn 1) = 241 := rfl
theorem sw_258_2 : pm_sw 1841 (0) [168, 241, 266, 310, 354, 367, 435, 503, 611, 686, 754, 810, 866, 934, 1038, 1106, 1119, 1175, 1188, 1280, 1364, 1456, 1576, 1656, 1712, 1792, 1803, 1816] (wn 2) = 266 := rfl
theorem sw_258_3 : pm_sw 1841 (0) [168, 241, 266, 310, 354, 367, 435, 503, 611, 686, 754, 810, 866, 934, 1038, 1106, 1119, 1175, 1188, 1280, 1364, 1456, 1576, 1656, 1712, 1792, 1803, 1816] (wn 3) = 310 := rfl
theorem sw_258_4 : pm_sw 1841 (0) [168, 241, 266, 310, 354, 367, 435, 503, 611, 686, 754, 810, 866, 934, 1038, 1106, 1119, 1175, 1188, 1280, 1364, 1456, 1576, 1656, 1712, 1792, 1803, 1816] (wn 4) = 354 := rfl
theorem sw_258_5 : pm_sw 1841 (0) [168, 241, 266, 310, 354, 367, 435, 503, 611, 686, 754, 810, 866, 934, 1038, 1106, 1119, 1175, 1188, 1280, 1364, 1456, 1576, 1656, 1712, 1792, 1803, 1816] (wn 5) = 367 := rfl
theorem sw_258_6 : pm_sw 1841 (0) [168, 241, 266, 310, 354, 367, 435, 503, 611, 686, 754, 810, 866, 934, 1038, 1106, 1119, 1175, 1188, 1280, 1364, 1456, 1576, 1656, 1712, 1792, 1803, 1816] (wn 6) = 435 := rfl
theorem sw_258_7 : pm_sw 1841 (0) [168, 241, 266, 310, 354, 367, 435, 503, 611, 686, 754, 810, 866, 934, 1038, 1106, 1119, 1175, 1188, 1280, 1364, 1456, 1576, 1656, 1712, 1792, 1803, 1816] (wn 7) = 503 := rfl
theorem sw_258_8 : pm_sw 1841 (0) [168, 241, 266, 310, 354, 367, 435, 503, 611, 686, 754, 810, 866, 934, 1038, 1106, 1119, 1175, 1188, 1280, 1364, 1456, 1576, 1656, 1712, 1792, 1803, 1816] (wn 8) = 611 := rfl
theorem sw_258_9 : pm_sw 1841 (0) [168, 241, 266, 310, 354, 367, 435, 503, 611, 686, 754, 810, 866, 934, 1038, 1106, 1119, 1175, 1188, 1280, 1364, 1456, 1576, 1656, 1712, 1792, 1803, 1816] (wn 9) = 686 := rfl
theorem sw_258_10 : pm_sw 1841 (0) [168, 241, 266, 310, 354, 367, 435, 503, 611, 686, 754, 810, 866, 934, 1038, 1106, 1119, 1175, 1188, 1280, 1364, 1456, 1576, 1656, 1712, 1792, 1803, 1816] (wn 10) = 754 := rfl
theorem sw_258_11 : pm_sw 1841 (0) [168, 241, 266, 310, 354, 367, 435, 503, 611, 686, 754, 810, 866, 934, 1038, 1106, 1119, 1175, 1188, 1280, 1364, 1456, 1576, 1656, 1712, 1792, 1803, 1816] (wn 11) = 810 := rfl
theorem sw_258_12 : pm_sw 1841 (0) [168, 241, 266, 310, 354, 367, 435, 503, 611, 686, 754, 810, 866, 934, 1038, 1106, 1119, 1175, 1188, 1280, 1364, 1456, 1576, 1656, 1712, 1792, 1803, 1816] (wn 12) = 866 := rfl
theorem sw_258_13 : pm_sw 1841 (0) [168, 241, 266, 310, 354, 367, 435, 503, 611, 686, 754, 810, 866, 934, 1038, 1106, 1119, 1175, 1188, 1280, 1364, 1456, 1576, 1656, 1712, 1792, 1803, 1816] (wn 13) = 934 := rfl
theorem sw_258_14 : pm_sw 1841 (0) [168, 241, 266, 310, 354, 367, 435, 503, 611, 686, 754, 810, 866, 934, 1038, 1106, 1119, 1175, 1188, 1280, 1364, 1456, 1576, 1656, 1712, 1792, 1803, 1816] (wn 14) = 1038 := rfl
theorem sw_258_15 : pm_sw 1841 (0) [168, 241, 266, 310, 354, 367, 435, 503, 611, 686, 754, 810, 866, 934, 1038, 1106, 1119, 1175, 1188, 1280, 1364, 1456, 1576, 1656, 1712, 1792, 1803, 1816] (wn 15) = 1106 := rfl
theorem sw_258_16 : pm_sw 1841 (0) [168, 241, 266, 310, 354, 367, 435, 503, 611, 686, 754, 810, 866, 934, 1038, 1106, 1119, 1175, 1188, 1280, 1364, 1456, 1576, 1656, 1712, 1792, 1803, 1816] (wn 16) = 1119 := rfl
theorem sw_258_17 : pm_sw 1841 (0) [168, 241, 266, 310, 354, 367, 435, 503, 611, 686, 754, 810, 866, 934, 1038, 1106, 1119, 1175, 1188, 1280, 1364, 1456, 1576, 1656, 1712, 1792, 1803, 1816] (wn 17) = 1175 := rfl
theorem sw_258_18 : pm_sw 1841 (0) [168, 241, 266, 310, 354, 367, 435, 503, 611, 686, 754, 810, 866, 934, 1038, 1106, 1119, 1175, 1188, 1280, 1364, 1456, 1576, 1656, 1712, 1792, 1803, 1816] (wn 18) = 1188 := rfl
theorem sw_258_19 : pm_sw 1841 (0) [168, 241, 266, 310, 354, 367, 435, 503, 611, 686, 754, 810, 866, 934, 1038, 1106, 1119, 1175, 1188, 1280, 1364, 1456, 1576, 1656, 1712, 1792, 1803, 1816] (wn 19) = 1280 := rfl
theorem sw_258_20 : pm_sw 1841 (0) [168, 241, 266, 310, 354, 367, 435, 503, 611, 686, 754, 810, 866, 934, 1038, 1106, 1119, 1175, 1188, 1280, 1364, 1456, 1576, 1656, 1712, 1792, 1803, 1816] (wn 20) = 1364 := rfl
theorem sw_258_21 : pm_sw 1841 (0) [168, 241, 266, 310, 354, 367, 435, 503, 611, 686, 754, 810, 866, 934, 1038, 1106, 1119, 1175, 1188, 1280, 1364, 1456, 1576, 1656, 1712, 1792, 1803, 1816] (wn 21) = 1456 := rfl
theorem sw_258_22 : pm_sw 1841 (0) [168, 241, 266, 310, 354, 367, 435, 503, 611, 686, 754, 810, 866, 934, 1038, 1106, 1119, 1175, 1188, 1280, 1364, 1456, 1576, 1656, 1712, 1792, 1803, 1816] (wn 22) = 1576 := rfl
theorem sw_258_23 : pm_sw 1841 (0) [168, 241, 266, 310, 354, 367, 435, 503, 611, 686, 754, 810, 866, 934, 1038, 1106, 1119, 1175, 1188, 1280, 1364, 1456, 1576, 1656, 1712, 1792, 1803, 1816] (wn 23) = 1656 := rfl
theorem sw_258_24 : pm_sw 1841 (0) [168, 241, 266, 310, 354, 367, 435, 503, 611, 686, 754, 810, 866, 934, 1038, 1106, 1119, 1175, 1188, 1280, 1364, 1456, 1576, 1656, 1712, 1792, 1803, 1816] (wn 24) = 1712 := rfl
theorem sw_258_25 : pm_sw 1841 (0) [168, 241, 266, 310, 354, 367, 435, 503, 611, 686, 754, 810, 866, 934, 1038, 1106, 1119, 1175, 1188, 1280, 1364, 1456, 1576, 1656, 1712, 1792, 1803, 1816] (wn 25) = 1792 := rfl
theorem sw_258_26 : pm_sw 1841 (0) [168, 241, 266, 310, 354, 367, 435, 503, 611, 686, 754, 810, 866, 934, 1038, 1106, 1119, 1175, 1188, 1280, 1364, 1456, 1576, 1656, 1712, 1792, 1803, 1816] (wn 26) = 1803 := rfl
theorem sw_258_27 : pm_sw 1841 (0) [168, 241, 266, 310, 354, 367, 435, 503, 611, 686, 754, 810, 866, 934, 1038, 1106, 1119, 1175, 1188, 1280, 1364, 1456, 1576, 1656, 1712, 1792, 1803, 1816] (wn 27) = 1816 := rfl
theorem sw_258_d (h : x.toInt < 0 ∨ 28 ≤ x.toInt) : pm_sw 1841 (0) [168, 241, 266, 310, 354, 367, 435, 503, 611, 686, 754, 810, 866, 934, 1038, 1106, 1119, 1175, 1188, 1280, 1364, 1456, 1576, 1656, 1712, 1792, 1803, 1816] x = 1841 := if_pos (h.imp_right fun h9 => (show (0 : Int) + ((28 : Nat) : Int) ≤ x.toInt by omega))
end WKX
