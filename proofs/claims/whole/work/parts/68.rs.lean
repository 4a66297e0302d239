theorem ci_ssc {w : Nat → Bool} {d : Nat} {h : am_Hp} {S : sm_I} {Y : sm_X} {ad : Nat → Nat} (hA : adk ad) (hS : sm (tbs ad) h S Y) (hZ : ∀ i, i < 12 → ad i ≠ 0) {a : Nat} (ha : h[a]? = some (.inl (5, [.int 0, .null, .null, .null, .null, .null, .null, .null, .int 0, .int 0, .null, .int 0, .null, .null]))) (hna : tbs ad a = none) (hwa : w a = true) (hfit : am_fit (.object "MirrorPairs$Request") (Y 200 0) = true) (hbf : am_fit .boolean (.int (S 0 3)) = true) (hd : 1 ≤ d) : am_Ev (am_prog w) d 21 [.ref a, .ref (ad 0)] h (fun r h' => r = none ∧ sm (tbs ad) h' S Y ∧ qa a h h' 8 202 ∧ sm (tbs (adC ad a h.length)) h' S Y) := by
  obtain ⟨d, rfl⟩ : ∃ e, d = e + 1 := ⟨d - 1, by omega⟩
  refine ev_go rfl (Nat.le_of_ble_eq_true rfl) rfl ?_
  refine go_s (pc' := 1) rfl rfl rfl rfl ?_
  refine go_s (pc' := 2) rfl rfl rfl rfl ?_
  refine go_s (pc' := 3) rfl rfl rfl rfl ?_
  refine go_s (pc' := 4) (st' := [.int 1, .ref a]) rfl rfl rfl rfl ?_
  refine go_putF (pc' := 5) rfl ha rfl (by decide) (Nat.le_of_ble_eq_true rfl) rfl hwa rfl (fun h1 hc2 hp3 => ?_)
  have hS4 := sm_pq hS hp3 hna
  have hQ5 := qa_p (qa_refl a h) hp3 (by omega)
  refine go_s (pc' := 6) rfl rfl rfl rfl ?_
  refine go_s (pc' := 7) (st' := [.int 1, .ref a]) rfl rfl rfl rfl ?_
  refine go_putF (pc' := 8) rfl hc2 rfl (by decide) (Nat.le_of_ble_eq_true rfl) rfl hwa rfl (fun h6 hc7 hp8 => ?_)
  have hS9 := sm_pq hS4 hp8 hna
  have hQ10 := qa_p hQ5 hp8 (by omega)
  refine go_s (pc' := 9) rfl rfl rfl rfl ?_
  refine go_s (pc' := 10) rfl rfl rfl rfl ?_
  refine go_sget (pc' := 11) (v := .int (S 0 0)) hS9 rfl rfl (tbs_s hA (i := 0) (by decide) rfl) (by decide) rfl rfl ?_
  refine go_putF (pc' := 12) rfl hc7 rfl (by decide) (Nat.le_of_ble_eq_true rfl) rfl hwa rfl (fun h11 hc12 hp13 => ?_)
  have hS14 := sm_pq hS9 hp13 hna
  have hQ15 := qa_p hQ10 hp13 (by omega)
  refine go_s (pc' := 13) rfl rfl rfl rfl ?_
  refine go_s (pc' := 14) rfl rfl rfl rfl ?_
  refine go_sget (pc' := 15) (v := .ref (ad 1)) hS14 rfl rfl (tbs_s hA (i := 0) (by decide) rfl) (by decide) rfl rfl ?_
  refine go_clnF (pc' := 16) rfl (hS14 (ad 1) _ _ (tbs_at hA (i := 1) (by decide))) rfl (hZ 1 (by decide)) rfl rfl (fun L16 h17 hL18 hc19 hg20 => ?_)
  have hq21 := (hg20.2.2 _ (lt_of hc12)).trans hc12
  have lt_a_L16 : a < L16 := hL18 ▸ lt_of hc12
  have nb_L16 := tbs_new (L := L16) hA hS14 (by omega)
  have hS22 := sm_gq hS14 hg20
  have hQ23 := qa_g hQ15 hg20
  have len_L16 := hQ15.1
  refine go_castA (pc' := 17) rfl hc19 rfl (by omega) rfl ?_
  refine go_putF (pc' := 18) rfl hq21 rfl (by decide) (Nat.le_of_ble_eq_true rfl) rfl hwa rfl (fun h24 hc25 hp26 => ?_)
  have hq27 := (hp26.2.2 _ (by omega)).trans hc19
  have hS28 := sm_pq hS22 hp26 hna
  have hQ29 := qa_p hQ23 hp26 (by omega)
  refine go_s (pc' := 19) rfl rfl rfl rfl ?_
  refine go_s (pc' := 20) rfl rfl rfl rfl ?_
  refine go_sget (pc' := 21) (v := .ref (ad 2)) hS28 rfl rfl (tbs_s hA (i := 0) (by decide) rfl) (by decide) rfl rfl ?_
  refine go_clnF (pc' := 22) rfl (hS28 (ad 2) _ _ (tbs_at hA (i := 2) (by decide))) rfl (hZ 2 (by decide)) rfl rfl (fun L30 h31 hL32 hc33 hg34 => ?_)
  have hq35 := (hg34.2.2 _ (lt_of hc25)).trans hc25
  have lt_a_L30 : a < L30 := hL32 ▸ lt_of hc25
  have hq36 := (hg34.2.2 _ (lt_of hq27)).trans hq27
  have lt_L16_L30 : L16 < L30 := hL32 ▸ lt_of hq27
  have nb_L30 := tbs_new (L := L30) hA hS28 (by omega)
  have hS37 := sm_gq hS28 hg34
  have hQ38 := qa_g hQ29 hg34
  have len_L30 := hQ29.1
  refine go_castA (pc' := 23) rfl hc33 rfl (by omega) rfl ?_
  refine go_putF (pc' := 24) rfl hq35 rfl (by decide) (Nat.le_of_ble_eq_true rfl) rfl hwa rfl (fun h39 hc40 hp41 => ?_)
  have hq42 := (hp41.2.2 _ (by omega)).trans hq36
  have hq43 := (hp41.2.2 _ (by omega)).trans hc33
  have hS44 := sm_pq hS37 hp41 hna
  have hQ45 := qa_p hQ38 hp41 (by omega)
  refine go_s (pc' := 25) rfl rfl rfl rfl ?_
  refine go_s (pc' := 26) rfl rfl rfl rfl ?_
  refine go_sget (pc' := 27) (v := .ref (ad 3)) hS44 rfl rfl (tbs_s hA (i := 0) (by decide) rfl) (by decide) rfl rfl ?_
  refine go_clnF (pc' := 28) rfl (hS44 (ad 3) _ _ (tbs_at hA (i := 3) (by decide))) rfl (hZ 3 (by decide)) rfl rfl (fun L46 h47 hL48 hc49 hg50 => ?_)
  have hq51 := (hg50.2.2 _ (lt_of hc40)).trans hc40
  have lt_a_L46 : a < L46 := hL48 ▸ lt_of hc40
  have hq52 := (hg50.2.2 _ (lt_of hq42)).trans hq42
  have lt_L16_L46 : L16 < L46 := hL48 ▸ lt_of hq42
  have hq53 := (hg50.2.2 _ (lt_of hq43)).trans hq43
  have lt_L30_L46 : L30 < L46 := hL48 ▸ lt_of hq43
  have nb_L46 := tbs_new (L := L46) hA hS44 (by omega)
  have hS54 := sm_gq hS44 hg50
  have hQ55 := qa_g hQ45 hg50
  have len_L46 := hQ45.1
  refine go_castA (pc' := 29) rfl hc49 rfl (by omega) rfl ?_
  refine go_putF (pc' := 30) rfl hq51 rfl (by decide) (Nat.le_of_ble_eq_true rfl) rfl hwa rfl (fun h56 hc57 hp58 => ?_)
  have hq59 := (hp58.2.2 _ (by omega)).trans hq52
  have hq60 := (hp58.2.2 _ (by omega)).trans hq53
  have hq61 := (hp58.2.2 _ (by omega)).trans hc49
  have hS62 := sm_pq hS54 hp58 hna
  have hQ63 := qa_p hQ55 hp58 (by omega)
  refine go_s (pc' := 31) rfl rfl rfl rfl ?_
  refine go_s (pc' := 32) rfl rfl rfl rfl ?_
  refine go_sget (pc' := 33) (v := .ref (ad 4)) hS62 rfl rfl (tbs_s hA (i := 0) (by decide) rfl) (by decide) rfl rfl ?_
  refine go_clnF (pc' := 34) rfl (hS62 (ad 4) _ _ (tbs_at hA (i := 4) (by decide))) rfl (hZ 4 (by decide)) rfl rfl (fun L64 h65 hL66 hc67 hg68 => ?_)
  have hq69 := (hg68.2.2 _ (lt_of hc57)).trans hc57
  have lt_a_L64 : a < L64 := hL66 ▸ lt_of hc57
  have hq70 := (hg68.2.2 _ (lt_of hq59)).trans hq59
  have lt_L16_L64 : L16 < L64 := hL66 ▸ lt_of hq59
  have hq71 := (hg68.2.2 _ (lt_of hq60)).trans hq60
  have lt_L30_L64 : L30 < L64 := hL66 ▸ lt_of hq60
  have hq72 := (hg68.2.2 _ (lt_of hq61)).trans hq61
  have lt_L46_L64 : L46 < L64 := hL66 ▸ lt_of hq61
  have nb_L64 := tbs_new (L := L64) hA hS62 (by omega)
  have hS73 := sm_gq hS62 hg68
  have hQ74 := qa_g hQ63 hg68
  have len_L64 := hQ63.1
  refine go_castA (pc' := 35) rfl hc67 rfl (by omega) rfl ?_
  refine go_putF (pc' := 36) rfl hq69 rfl (by decide) (Nat.le_of_ble_eq_true rfl) rfl hwa rfl (fun h75 hc76 hp77 => ?_)
  have hq78 := (hp77.2.2 _ (by omega)).trans hq70
  have hq79 := (hp77.2.2 _ (by omega)).trans hq71
  have hq80 := (hp77.2.2 _ (by omega)).trans hq72
  have hq81 := (hp77.2.2 _ (by omega)).trans hc67
  have hS82 := sm_pq hS73 hp77 hna
  have hQ83 := qa_p hQ74 hp77 (by omega)
  refine go_s (pc' := 37) rfl rfl rfl rfl ?_
  refine go_s (pc' := 38) rfl rfl rfl rfl ?_
  refine go_sget (pc' := 39) (v := .ref (ad 5)) hS82 rfl rfl (tbs_s hA (i := 0) (by decide) rfl) (by decide) rfl rfl ?_
  refine go_clnF (pc' := 40) rfl (hS82 (ad 5) _ _ (tbs_at hA (i := 5) (by decide))) rfl (hZ 5 (by decide)) rfl rfl (fun L84 h85 hL86 hc87 hg88 => ?_)
  have hq89 := (hg88.2.2 _ (lt_of hc76)).trans hc76
  have lt_a_L84 : a < L84 := hL86 ▸ lt_of hc76
  have hq90 := (hg88.2.2 _ (lt_of hq78)).trans hq78
  have lt_L16_L84 : L16 < L84 := hL86 ▸ lt_of hq78
  have hq91 := (hg88.2.2 _ (lt_of hq79)).trans hq79
  have lt_L30_L84 : L30 < L84 := hL86 ▸ lt_of hq79
  have hq92 := (hg88.2.2 _ (lt_of hq80)).trans hq80
  have lt_L46_L84 : L46 < L84 := hL86 ▸ lt_of hq80
  have hq93 := (hg88.2.2 _ (lt_of hq81)).trans hq81
  have lt_L64_L84 : L64 < L84 := hL86 ▸ lt_of hq81
  have nb_L84 := tbs_new (L := L84) hA hS82 (by omega)
  have hS94 := sm_gq hS82 hg88
  have hQ95 := qa_g hQ83 hg88
  have len_L84 := hQ83.1
  refine go_castA (pc' := 41) rfl hc87 rfl (by omega) rfl ?_
  refine go_putF (pc' := 42) rfl hq89 rfl (by decide) (Nat.le_of_ble_eq_true rfl) rfl hwa rfl (fun h96 hc97 hp98 => ?_)
  have hq99 := (hp98.2.2 _ (by omega)).trans hq90
  have hq100 := (hp98.2.2 _ (by omega)).trans hq91
  have hq101 := (hp98.2.2 _ (by omega)).trans hq92
  have hq102 := (hp98.2.2 _ (by omega)).trans hq93
  have hq103 := (hp98.2.2 _ (by omega)).trans hc87
  have hS104 := sm_pq hS94 hp98 hna
  have hQ105 := qa_p hQ95 hp98 (by omega)
  refine go_s (pc' := 43) rfl rfl rfl rfl ?_
  refine go_s (pc' := 44) rfl rfl rfl rfl ?_
  refine go_sget (pc' := 45) (v := .ref (ad 6)) hS104 rfl rfl (tbs_s hA (i := 0) (by decide) rfl) (by decide) rfl rfl ?_
  refine go_clnF (pc' := 46) rfl (hS104 (ad 6) _ _ (tbs_at hA (i := 6) (by decide))) rfl (hZ 6 (by decide)) rfl rfl (fun L106 h107 hL108 hc109 hg110 => ?_)
  have hq111 := (hg110.2.2 _ (lt_of hc97)).trans hc97
  have lt_a_L106 : a < L106 := hL108 ▸ lt_of hc97
  have hq112 := (hg110.2.2 _ (lt_of hq99)).trans hq99
  have lt_L16_L106 : L16 < L106 := hL108 ▸ lt_of hq99
  have hq113 := (hg110.2.2 _ (lt_of hq100)).trans hq100
  have lt_L30_L106 : L30 < L106 := hL108 ▸ lt_of hq100
  have hq114 := (hg110.2.2 _ (lt_of hq101)).trans hq101
  have lt_L46_L106 : L46 < L106 := hL108 ▸ lt_of hq101
  have hq115 := (hg110.2.2 _ (lt_of hq102)).trans hq102
  have lt_L64_L106 : L64 < L106 := hL108 ▸ lt_of hq102
  have hq116 := (hg110.2.2 _ (lt_of hq103)).trans hq103
  have lt_L84_L106 : L84 < L106 := hL108 ▸ lt_of hq103
  have nb_L106 := tbs_new (L := L106) hA hS104 (by omega)
  have hS117 := sm_gq hS104 hg110
  have hQ118 := qa_g hQ105 hg110
  have len_L106 := hQ105.1
  refine go_castA (pc' := 47) rfl hc109 rfl (by omega) rfl ?_
  refine go_putF (pc' := 48) rfl hq111 rfl (by decide) (Nat.le_of_ble_eq_true rfl) rfl hwa rfl (fun h119 hc120 hp121 => ?_)
  have hq122 := (hp121.2.2 _ (by omega)).trans hq112
  have hq123 := (hp121.2.2 _ (by omega)).trans hq113
  have hq124 := (hp121.2.2 _ (by omega)).trans hq114
  have hq125 := (hp121.2.2 _ (by omega)).trans hq115
  have hq126 := (hp121.2.2 _ (by omega)).trans hq116
  have hq127 := (hp121.2.2 _ (by omega)).trans hc109
  have hS128 := sm_pq hS117 hp121 hna
  have hQ129 := qa_p hQ118 hp121 (by omega)
  refine go_s (pc' := 49) rfl rfl rfl rfl ?_
  refine go_s (pc' := 50) rfl rfl rfl rfl ?_
  refine go_sget (pc' := 51) (v := .ref (ad 7)) hS128 rfl rfl (tbs_s hA (i := 0) (by decide) rfl) (by decide) rfl rfl ?_
  refine go_clnF (pc' := 52) rfl (hS128 (ad 7) _ _ (tbs_at hA (i := 7) (by decide))) rfl (hZ 7 (by decide)) rfl rfl (fun L130 h131 hL132 hc133 hg134 => ?_)
  have hq135 := (hg134.2.2 _ (lt_of hc120)).trans hc120
  have lt_a_L130 : a < L130 := hL132 ▸ lt_of hc120
  have hq136 := (hg134.2.2 _ (lt_of hq122)).trans hq122
  have lt_L16_L130 : L16 < L130 := hL132 ▸ lt_of hq122
  have hq137 := (hg134.2.2 _ (lt_of hq123)).trans hq123
  have lt_L30_L130 : L30 < L130 := hL132 ▸ lt_of hq123
  have hq138 := (hg134.2.2 _ (lt_of hq124)).trans hq124
  have lt_L46_L130 : L46 < L130 := hL132 ▸ lt_of hq124
  have hq139 := (hg134.2.2 _ (lt_of hq125)).trans hq125
  have lt_L64_L130 : L64 < L130 := hL132 ▸ lt_of hq125
  have hq140 := (hg134.2.2 _ (lt_of hq126)).trans hq126
  have lt_L84_L130 : L84 < L130 := hL132 ▸ lt_of hq126
  have hq141 := (hg134.2.2 _ (lt_of hq127)).trans hq127
  have lt_L106_L130 : L106 < L130 := hL132 ▸ lt_of hq127
  have nb_L130 := tbs_new (L := L130) hA hS128 (by omega)
  have hS142 := sm_gq hS128 hg134
  have hQ143 := qa_g hQ129 hg134
  have len_L130 := hQ129.1
  refine go_castA (pc' := 53) rfl hc133 rfl (by omega) rfl ?_
  refine go_putF (pc' := 54) rfl hq135 rfl (by decide) (Nat.le_of_ble_eq_true rfl) rfl hwa rfl (fun h144 hc145 hp146 => ?_)
  have hq147 := (hp146.2.2 _ (by omega)).trans hq136
  have hq148 := (hp146.2.2 _ (by omega)).trans hq137
  have hq149 := (hp146.2.2 _ (by omega)).trans hq138
  have hq150 := (hp146.2.2 _ (by omega)).trans hq139
  have hq151 := (hp146.2.2 _ (by omega)).trans hq140
  have hq152 := (hp146.2.2 _ (by omega)).trans hq141
  have hq153 := (hp146.2.2 _ (by omega)).trans hc133
  have hS154 := sm_pq hS142 hp146 hna
  have hQ155 := qa_p hQ143 hp146 (by omega)
  refine go_s (pc' := 55) rfl rfl rfl rfl ?_
  refine go_s (pc' := 56) rfl rfl rfl rfl ?_
  refine go_sget (pc' := 57) (v := .int (S 0 1)) hS154 rfl rfl (tbs_s hA (i := 0) (by decide) rfl) (by decide) rfl rfl ?_
  refine go_putF (pc' := 58) rfl hc145 rfl (by decide) (Nat.le_of_ble_eq_true rfl) rfl hwa rfl (fun h156 hc157 hp158 => ?_)
  have hq159 := (hp158.2.2 _ (by omega)).trans hq147
  have hq160 := (hp158.2.2 _ (by omega)).trans hq148
  have hq161 := (hp158.2.2 _ (by omega)).trans hq149
  have hq162 := (hp158.2.2 _ (by omega)).trans hq150
  have hq163 := (hp158.2.2 _ (by omega)).trans hq151
  have hq164 := (hp158.2.2 _ (by omega)).trans hq152
  have hq165 := (hp158.2.2 _ (by omega)).trans hq153
  have hS166 := sm_pq hS154 hp158 hna
  have hQ167 := qa_p hQ155 hp158 (by omega)
  refine go_s (pc' := 59) rfl rfl rfl rfl ?_
  refine go_s (pc' := 60) rfl rfl rfl rfl ?_
  refine go_sget (pc' := 61) (v := .int (S 0 2)) hS166 rfl rfl (tbs_s hA (i := 0) (by decide) rfl) (by decide) rfl rfl ?_
  refine go_putF (pc' := 62) rfl hc157 rfl (by decide) (Nat.le_of_ble_eq_true rfl) rfl hwa rfl (fun h168 hc169 hp170 => ?_)
  have hq171 := (hp170.2.2 _ (by omega)).trans hq159
  have hq172 := (hp170.2.2 _ (by omega)).trans hq160
  have hq173 := (hp170.2.2 _ (by omega)).trans hq161
  have hq174 := (hp170.2.2 _ (by omega)).trans hq162
  have hq175 := (hp170.2.2 _ (by omega)).trans hq163
  have hq176 := (hp170.2.2 _ (by omega)).trans hq164
  have hq177 := (hp170.2.2 _ (by omega)).trans hq165
  have hS178 := sm_pq hS166 hp170 hna
  have hQ179 := qa_p hQ167 hp170 (by omega)
  refine go_s (pc' := 63) rfl rfl rfl rfl ?_
  refine go_s (pc' := 64) rfl rfl rfl rfl ?_
  refine go_sget (pc' := 65) (v := .ref (ad 8)) hS178 rfl rfl (tbs_s hA (i := 0) (by decide) rfl) (by decide) rfl rfl ?_
  refine go_clnF (pc' := 66) rfl (hS178 (ad 8) _ _ (tbs_at hA (i := 8) (by decide))) rfl (hZ 8 (by decide)) rfl rfl (fun L180 h181 hL182 hc183 hg184 => ?_)
  have hq185 := (hg184.2.2 _ (lt_of hc169)).trans hc169
  have lt_a_L180 : a < L180 := hL182 ▸ lt_of hc169
  have hq186 := (hg184.2.2 _ (lt_of hq171)).trans hq171
  have lt_L16_L180 : L16 < L180 := hL182 ▸ lt_of hq171
  have hq187 := (hg184.2.2 _ (lt_of hq172)).trans hq172
  have lt_L30_L180 : L30 < L180 := hL182 ▸ lt_of hq172
  have hq188 := (hg184.2.2 _ (lt_of hq173)).trans hq173
  have lt_L46_L180 : L46 < L180 := hL182 ▸ lt_of hq173
  have hq189 := (hg184.2.2 _ (lt_of hq174)).trans hq174
  have lt_L64_L180 : L64 < L180 := hL182 ▸ lt_of hq174
  have hq190 := (hg184.2.2 _ (lt_of hq175)).trans hq175
  have lt_L84_L180 : L84 < L180 := hL182 ▸ lt_of hq175
  have hq191 := (hg184.2.2 _ (lt_of hq176)).trans hq176
  have lt_L106_L180 : L106 < L180 := hL182 ▸ lt_of hq176
  have hq192 := (hg184.2.2 _ (lt_of hq177)).trans hq177
  have lt_L130_L180 : L130 < L180 := hL182 ▸ lt_of hq177
  have nb_L180 := tbs_new (L := L180) hA hS178 (by omega)
  have hS193 := sm_gq hS178 hg184
  have hQ194 := qa_g hQ179 hg184
  have len_L180 := hQ179.1
  refine go_castA (pc' := 67) rfl hc183 rfl (by omega) rfl ?_
  refine go_putF (pc' := 68) rfl hq185 rfl (by decide) (Nat.le_of_ble_eq_true rfl) rfl hwa rfl (fun h195 hc196 hp197 => ?_)
  have hq198 := (hp197.2.2 _ (by omega)).trans hq186
  have hq199 := (hp197.2.2 _ (by omega)).trans hq187
  have hq200 := (hp197.2.2 _ (by omega)).trans hq188
  have hq201 := (hp197.2.2 _ (by omega)).trans hq189
  have hq202 := (hp197.2.2 _ (by omega)).trans hq190
  have hq203 := (hp197.2.2 _ (by omega)).trans hq191
  have hq204 := (hp197.2.2 _ (by omega)).trans hq192
  have hq205 := (hp197.2.2 _ (by omega)).trans hc183
  have hS206 := sm_pq hS193 hp197 hna
  have hQ207 := qa_p hQ194 hp197 (by omega)
  refine go_s (pc' := 69) rfl rfl rfl rfl ?_
  refine go_s (pc' := 70) rfl rfl rfl rfl ?_
  refine go_sget (pc' := 71) (v := .int (S 0 3)) hS206 rfl rfl (tbs_s hA (i := 0) (by decide) rfl) (by decide) rfl rfl ?_
  refine go_putF (pc' := 72) rfl hc196 rfl (by decide) (Nat.le_of_ble_eq_true rfl) hbf hwa rfl (fun h208 hc209 hp210 => ?_)
  have hq211 := (hp210.2.2 _ (by omega)).trans hq198
  have hq212 := (hp210.2.2 _ (by omega)).trans hq199
  have hq213 := (hp210.2.2 _ (by omega)).trans hq200
  have hq214 := (hp210.2.2 _ (by omega)).trans hq201
  have hq215 := (hp210.2.2 _ (by omega)).trans hq202
  have hq216 := (hp210.2.2 _ (by omega)).trans hq203
  have hq217 := (hp210.2.2 _ (by omega)).trans hq204
  have hq218 := (hp210.2.2 _ (by omega)).trans hq205
  have hS219 := sm_pq hS206 hp210 hna
  have hQ220 := qa_p hQ207 hp210 (by omega)
  refine go_s (pc' := 73) rfl rfl rfl rfl ?_
  refine go_s (pc' := 74) rfl rfl rfl rfl ?_
  refine go_sget (pc' := 75) (v := (Y 200 0)) hS219 rfl rfl (tbs_s hA (i := 0) (by decide) rfl) (by decide) rfl rfl ?_
  refine go_putF (pc' := 76) rfl hc209 rfl (by decide) (Nat.le_of_ble_eq_true rfl) hfit hwa rfl (fun h221 hc222 hp223 => ?_)
  have hq224 := (hp223.2.2 _ (by omega)).trans hq211
  have hq225 := (hp223.2.2 _ (by omega)).trans hq212
  have hq226 := (hp223.2.2 _ (by omega)).trans hq213
  have hq227 := (hp223.2.2 _ (by omega)).trans hq214
  have hq228 := (hp223.2.2 _ (by omega)).trans hq215
  have hq229 := (hp223.2.2 _ (by omega)).trans hq216
  have hq230 := (hp223.2.2 _ (by omega)).trans hq217
  have hq231 := (hp223.2.2 _ (by omega)).trans hq218
  have hS232 := sm_pq hS219 hp223 hna
  have hQ233 := qa_p hQ220 hp223 (by omega)
  refine go_s (pc' := 77) rfl rfl rfl rfl ?_
  refine go_s (pc' := 78) rfl rfl rfl rfl ?_
  refine go_sget (pc' := 79) (v := .ref (ad 9)) hS232 rfl rfl (tbs_s hA (i := 0) (by decide) rfl) (by decide) rfl rfl ?_
  refine go_putF (pc' := 80) rfl hc222 rfl (by decide) (Nat.le_of_ble_eq_true rfl) rfl hwa rfl (fun h234 hc235 hp236 => ?_)
  have hq237 := (hp236.2.2 _ (by omega)).trans hq224
  have hq238 := (hp236.2.2 _ (by omega)).trans hq225
  have hq239 := (hp236.2.2 _ (by omega)).trans hq226
  have hq240 := (hp236.2.2 _ (by omega)).trans hq227
  have hq241 := (hp236.2.2 _ (by omega)).trans hq228
  have hq242 := (hp236.2.2 _ (by omega)).trans hq229
  have hq243 := (hp236.2.2 _ (by omega)).trans hq230
  have hq244 := (hp236.2.2 _ (by omega)).trans hq231
  have hS245 := sm_pq hS232 hp236 hna
  have hQ246 := qa_p hQ233 hp236 (by omega)
  refine go_ret rfl rfl ?_
  have hlt := lt_of ha
  obtain rfl : L16 = h.length + 0 := by omega
  obtain rfl : L30 = h.length + 1 := by omega
  obtain rfl : L46 = h.length + 2 := by omega
  obtain rfl : L64 = h.length + 3 := by omega
  obtain rfl : L84 = h.length + 4 := by omega
  obtain rfl : L106 = h.length + 5 := by omega
  obtain rfl : L130 = h.length + 6 := by omega
  obtain rfl : L180 = h.length + 7 := by omega
  refine ⟨rfl, hS245, hQ246, sm_mk ?_⟩
  intro i hi
  match i, hi with
  | 0, _ => exact hc235
  | 1, _ => exact hq237
  | 2, _ => exact hq238
  | 3, _ => exact hq239
  | 4, _ => exact hq240
  | 5, _ => exact hq241
  | 6, _ => exact hq242
  | 7, _ => exact hq243
  | 8, _ => exact hq244
  | 9, _ => exact hS245 (ad 9) _ _ (tbs_at hA (by decide))
  | 10, _ => exact hS245 (ad 10) _ _ (tbs_at hA (by decide))
  | 11, _ => exact hS245 (ad 11) _ _ (tbs_at hA (by decide))
theorem lp_ssn {w : Nat → Bool} {d : Nat} {ad : Nat → Nat} {a : Nat} {h0 : am_Hp} (hA : adk ad) (hZ : ∀ i, i < 12 → ad i ≠ 0) (hW : ∀ i, i < 12 → w (ad i) = true) (hge : ∀ i, 1 ≤ i → i < 12 → h0.length ≤ ad i) (e0 : ad 0 = a) : ∀ (k n : Nat) (h : am_Hp), n + k = 16 → sm (tbs ad) h (SL n) (fun _ _ => .null) → qa a h0 h 11 415 → am_Go (am_prog w) d am_c6 none 47 [some (.ref (ad 0)), some (.int (nI n))] [] h (fun r h' => r = none ∧ sm (tbs ad) h' (SL 16) (fun _ _ => .null) ∧ qa a h0 h' 11 415) := by
  intro k
  induction k with
  | zero =>
    intro n h hn hS hQ
    obtain rfl : n = 16 := by omega
    refine go_s (pc' := 48) rfl rfl rfl rfl ?_
    refine go_s (pc' := 49) (st' := [.int 16, .int (nI 16)]) rfl rfl rfl rfl ?_
    refine go_icmpP (t' := 57) (pc' := 50) rfl rfl rfl (fun _ => ?_) (fun (c : ¬ (16 ≤ (nI 16))) => absurd (by decide) c)
    refine go_ret rfl rfl ?_
    exact ⟨rfl, hS, hQ⟩
  | succ k ih =>
    intro n h hn hS hQ
    refine go_s (pc' := 48) rfl rfl rfl rfl ?_
    refine go_s (pc' := 49) (st' := [.int 16, .int (nI n)]) rfl rfl rfl rfl ?_
    refine go_icmpP (t' := 57) (pc' := 50) rfl rfl rfl (fun (c : 16 ≤ (nI n)) => absurd c (nI_ge (b := 16) (by omega) (by decide))) (fun _ => ?_)
    refine go_s (pc' := 51) rfl rfl rfl rfl ?_
    refine go_sget (pc' := 52) (v := .ref (ad 6)) hS rfl rfl (tbs_s hA (i := 0) (by decide) rfl) (by decide) rfl rfl ?_
    refine go_s (pc' := 53) rfl rfl rfl rfl ?_
    refine go_s (pc' := 54) (st' := [.int (-1), .int (nI n), .ref (ad 6)]) rfl rfl rfl rfl ?_
    refine go_siast (pc' := 55) (q := n) hS rfl (tbs_s hA (i := 6) (by decide) (rg_el (by omega))) tbs_inj (Nat.le_of_ble_eq_true rfl) rfl (by omega) (hZ 6 (by decide)) (hW 6 (by decide)) rfl (fun h1 hS2 hE3 => ?_)
    refine go_ninc (pc' := 56) (a := n) (n := 1) (lo' := [some (.ref (ad 0)), some (.int (nI (n + 1)))]) rfl rfl rfl rfl rfl rfl ?_
    refine go_s (pc' := 47) rfl rfl rfl rfl ?_
    refine ih (n + 1) _ (by omega) (by rw [← SL_s]; exact hS2) ⟨by have := hE3.1; have := hQ.1; omega, by have := hE3.2.1; have := hQ.2.1; omega, fun b hb hne => ?_⟩
    refine (hE3.2.2 b (tbs_none (fun i hi e => ?_))).trans (hQ.2.2 b hb hne)
    by_cases z : i = 0
    · subst z; exact hne (e.symm.trans e0)
    · have := hge i (by omega) hi; omega
theorem ci_ssn {w : Nat → Bool} {d : Nat} {h : am_Hp} {a : Nat} (ha : h[a]? = some (.inl (5, [.int 0, .null, .null, .null, .null, .null, .null, .null, .int 0, .int 0, .null, .int 0, .null, .null]))) (hwa : w a = true) (h0 : a ≠ 0) (hWn : ∀ a, h.length ≤ a → w a = true) (hd : 2 ≤ d) : am_Ev (am_prog w) d 6 [.ref a] h (fun r h' => r = none ∧ sm (tbs (adN a h.length)) h' (SL 16) (fun _ _ => .null) ∧ qa a h h' 11 415) := by
  have hlt := lt_of ha
  obtain ⟨d, rfl⟩ : ∃ e, d = e + 1 := ⟨d - 1, by omega⟩
  refine ev_go rfl (Nat.le_of_ble_eq_true rfl) rfl ?_
  refine go_s (pc' := 1) rfl rfl rfl rfl ?_
  refine go_s (pc' := 2) rfl rfl rfl rfl ?_
  refine go_s (pc' := 3) rfl rfl rfl rfl ?_
  refine go_s (pc' := 4) (st' := [.int 1, .ref a]) rfl rfl rfl rfl ?_
  refine go_putF (pc' := 5) rfl ha rfl (by decide) (Nat.le_of_ble_eq_true rfl) rfl hwa rfl (fun h1 hc2 hp3 => ?_)
  have hQ4 := qa_p (qa_refl a h) hp3 (by omega)
  refine go_s (pc' := 6) rfl rfl rfl rfl ?_
  refine go_s (pc' := 7) (st' := [.int 1, .ref a]) rfl rfl rfl rfl ?_
  refine go_putF (pc' := 8) rfl hc2 rfl (by decide) (Nat.le_of_ble_eq_true rfl) rfl hwa rfl (fun h5 hc6 hp7 => ?_)
  have hQ8 := qa_p hQ4 hp7 (by omega)
  refine go_s (pc' := 9) rfl rfl rfl rfl ?_
  refine go_newF (pc' := 10) (n := 3) rfl rfl rfl rfl (fun L9 h10 hL11 hc12 hg13 => ?_)
  have hq14 := (hg13.2.2 _ (lt_of hc6)).trans hc6
  have lt_a_L9 : a < L9 := hL11 ▸ lt_of hc6
  have hQ15 := qa_g hQ8 hg13
  have len_L9 := hQ8.1
  refine go_s (pc' := 11) rfl rfl rfl rfl ?_
  refine go_callI (pc' := 12) rfl rfl rfl (Nat.le_of_ble_eq_true rfl) rfl hc12 rfl rfl rfl (ci_wr hc12 (hWn _ (by omega)) (by omega)) (fun r h16 q17 => ?_)
  obtain ⟨rfl, LA, LB, hLA, hLB, hca, hcb, hcc, hqa⟩ := q17
  have hq18 := (hqa.2.2 _ (lt_of hq14) (by omega)).trans hq14
  have lqa := hqa.1
  have l0 := hQ15.1
  have lLB : LB < _ := lt_of hcc
  have lLA : LA < LB := hLB
  have hQq : qa a h _ (0 + 1 + 2) (0 + 3 + 210) := ⟨by omega, by have := hqa.2.1; have := hQ15.2.1; omega, fun b hb hn => (hqa.2.2 b (by omega) (by omega)).trans (hQ15.2.2 b hb hn)⟩
  refine go_putF (pc' := 13) rfl hq18 rfl (by decide) (Nat.le_of_ble_eq_true rfl) rfl hwa rfl (fun h19 hc20 hp21 => ?_)
  have hq22 := (hp21.2.2 _ (by omega)).trans hca
  have hq23 := (hp21.2.2 _ (by omega)).trans hcb
  have hq24 := (hp21.2.2 _ (by omega)).trans hcc
  have hQ25 := qa_p hQq hp21 (by omega)
  refine go_s (pc' := 14) rfl rfl rfl rfl ?_
  refine go_s (pc' := 15) (st' := [.int 2, .ref a]) rfl rfl rfl rfl ?_
  refine go_narrF (pc' := 16) (n := 2) rfl rfl (Nat.le_of_ble_eq_true rfl) rfl rfl rfl (fun L26 h27 hL28 hc29 hg30 => ?_)
  have hq31 := (hg30.2.2 _ (lt_of hc20)).trans hc20
  have lt_a_L26 : a < L26 := hL28 ▸ lt_of hc20
  have hq32 := (hg30.2.2 _ (lt_of hq22)).trans hq22
  have lt_L9_L26 : L9 < L26 := hL28 ▸ lt_of hq22
  have hq33 := (hg30.2.2 _ (lt_of hq23)).trans hq23
  have lt_LA_L26 : LA < L26 := hL28 ▸ lt_of hq23
  have hq34 := (hg30.2.2 _ (lt_of hq24)).trans hq24
  have lt_LB_L26 : LB < L26 := hL28 ▸ lt_of hq24
  have hQ35 := qa_g hQ25 hg30
  have len_L26 := hQ25.1
  refine go_putF (pc' := 17) rfl hq31 rfl (by decide) (Nat.le_of_ble_eq_true rfl) rfl hwa rfl (fun h36 hc37 hp38 => ?_)
  have hq39 := (hp38.2.2 _ (by omega)).trans hq32
  have hq40 := (hp38.2.2 _ (by omega)).trans hq33
  have hq41 := (hp38.2.2 _ (by omega)).trans hq34
  have hq42 := (hp38.2.2 _ (by omega)).trans hc29
  have hQ43 := qa_p hQ35 hp38 (by omega)
  refine go_s (pc' := 18) rfl rfl rfl rfl ?_
  refine go_s (pc' := 19) (st' := [.int 2, .ref a]) rfl rfl rfl rfl ?_
  refine go_narrF (pc' := 20) (n := 2) rfl rfl (Nat.le_of_ble_eq_true rfl) rfl rfl rfl (fun L44 h45 hL46 hc47 hg48 => ?_)
  have hq49 := (hg48.2.2 _ (lt_of hc37)).trans hc37
  have lt_a_L44 : a < L44 := hL46 ▸ lt_of hc37
  have hq50 := (hg48.2.2 _ (lt_of hq39)).trans hq39
  have lt_L9_L44 : L9 < L44 := hL46 ▸ lt_of hq39
  have hq51 := (hg48.2.2 _ (lt_of hq40)).trans hq40
  have lt_LA_L44 : LA < L44 := hL46 ▸ lt_of hq40
  have hq52 := (hg48.2.2 _ (lt_of hq41)).trans hq41
  have lt_LB_L44 : LB < L44 := hL46 ▸ lt_of hq41
  have hq53 := (hg48.2.2 _ (lt_of hq42)).trans hq42
  have lt_L26_L44 : L26 < L44 := hL46 ▸ lt_of hq42
  have hQ54 := qa_g hQ43 hg48
  have len_L44 := hQ43.1
  refine go_putF (pc' := 21) rfl hq49 rfl (by decide) (Nat.le_of_ble_eq_true rfl) rfl hwa rfl (fun h55 hc56 hp57 => ?_)
  have hq58 := (hp57.2.2 _ (by omega)).trans hq50
  have hq59 := (hp57.2.2 _ (by omega)).trans hq51
  have hq60 := (hp57.2.2 _ (by omega)).trans hq52
  have hq61 := (hp57.2.2 _ (by omega)).trans hq53
  have hq62 := (hp57.2.2 _ (by omega)).trans hc47
  have hQ63 := qa_p hQ54 hp57 (by omega)
  refine go_s (pc' := 22) rfl rfl rfl rfl ?_
  refine go_s (pc' := 23) (st' := [.int 2, .ref a]) rfl rfl rfl rfl ?_
  refine go_narrF (pc' := 24) (n := 2) rfl rfl (Nat.le_of_ble_eq_true rfl) rfl rfl rfl (fun L64 h65 hL66 hc67 hg68 => ?_)
  have hq69 := (hg68.2.2 _ (lt_of hc56)).trans hc56
  have lt_a_L64 : a < L64 := hL66 ▸ lt_of hc56
  have hq70 := (hg68.2.2 _ (lt_of hq58)).trans hq58
  have lt_L9_L64 : L9 < L64 := hL66 ▸ lt_of hq58
  have hq71 := (hg68.2.2 _ (lt_of hq59)).trans hq59
  have lt_LA_L64 : LA < L64 := hL66 ▸ lt_of hq59
  have hq72 := (hg68.2.2 _ (lt_of hq60)).trans hq60
  have lt_LB_L64 : LB < L64 := hL66 ▸ lt_of hq60
  have hq73 := (hg68.2.2 _ (lt_of hq61)).trans hq61
  have lt_L26_L64 : L26 < L64 := hL66 ▸ lt_of hq61
  have hq74 := (hg68.2.2 _ (lt_of hq62)).trans hq62
  have lt_L44_L64 : L44 < L64 := hL66 ▸ lt_of hq62
  have hQ75 := qa_g hQ63 hg68
  have len_L64 := hQ63.1
  refine go_putF (pc' := 25) rfl hq69 rfl (by decide) (Nat.le_of_ble_eq_true rfl) rfl hwa rfl (fun h76 hc77 hp78 => ?_)
  have hq79 := (hp78.2.2 _ (by omega)).trans hq70
  have hq80 := (hp78.2.2 _ (by omega)).trans hq71
  have hq81 := (hp78.2.2 _ (by omega)).trans hq72
  have hq82 := (hp78.2.2 _ (by omega)).trans hq73
  have hq83 := (hp78.2.2 _ (by omega)).trans hq74
  have hq84 := (hp78.2.2 _ (by omega)).trans hc67
  have hQ85 := qa_p hQ75 hp78 (by omega)
  refine go_s (pc' := 26) rfl rfl rfl rfl ?_
  refine go_s (pc' := 27) (st' := [.int 2, .ref a]) rfl rfl rfl rfl ?_
  refine go_narrF (pc' := 28) (n := 2) rfl rfl (Nat.le_of_ble_eq_true rfl) rfl rfl rfl (fun L86 h87 hL88 hc89 hg90 => ?_)
  have hq91 := (hg90.2.2 _ (lt_of hc77)).trans hc77
  have lt_a_L86 : a < L86 := hL88 ▸ lt_of hc77
  have hq92 := (hg90.2.2 _ (lt_of hq79)).trans hq79
  have lt_L9_L86 : L9 < L86 := hL88 ▸ lt_of hq79
  have hq93 := (hg90.2.2 _ (lt_of hq80)).trans hq80
  have lt_LA_L86 : LA < L86 := hL88 ▸ lt_of hq80
  have hq94 := (hg90.2.2 _ (lt_of hq81)).trans hq81
  have lt_LB_L86 : LB < L86 := hL88 ▸ lt_of hq81
  have hq95 := (hg90.2.2 _ (lt_of hq82)).trans hq82
  have lt_L26_L86 : L26 < L86 := hL88 ▸ lt_of hq82
  have hq96 := (hg90.2.2 _ (lt_of hq83)).trans hq83
  have lt_L44_L86 : L44 < L86 := hL88 ▸ lt_of hq83
  have hq97 := (hg90.2.2 _ (lt_of hq84)).trans hq84
  have lt_L64_L86 : L64 < L86 := hL88 ▸ lt_of hq84
  have hQ98 := qa_g hQ85 hg90
  have len_L86 := hQ85.1
  refine go_putF (pc' := 29) rfl hq91 rfl (by decide) (Nat.le_of_ble_eq_true rfl) rfl hwa rfl (fun h99 hc100 hp101 => ?_)
  have hq102 := (hp101.2.2 _ (by omega)).trans hq92
  have hq103 := (hp101.2.2 _ (by omega)).trans hq93
  have hq104 := (hp101.2.2 _ (by omega)).trans hq94
  have hq105 := (hp101.2.2 _ (by omega)).trans hq95
  have hq106 := (hp101.2.2 _ (by omega)).trans hq96
  have hq107 := (hp101.2.2 _ (by omega)).trans hq97
  have hq108 := (hp101.2.2 _ (by omega)).trans hc89
  have hQ109 := qa_p hQ98 hp101 (by omega)
  refine go_s (pc' := 30) rfl rfl rfl rfl ?_
  refine go_s (pc' := 31) (st' := [.int 16, .ref a]) rfl rfl rfl rfl ?_
  refine go_narrF (pc' := 32) (n := 16) rfl rfl (Nat.le_of_ble_eq_true rfl) rfl rfl rfl (fun L110 h111 hL112 hc113 hg114 => ?_)
  have hq115 := (hg114.2.2 _ (lt_of hc100)).trans hc100
  have lt_a_L110 : a < L110 := hL112 ▸ lt_of hc100
  have hq116 := (hg114.2.2 _ (lt_of hq102)).trans hq102
  have lt_L9_L110 : L9 < L110 := hL112 ▸ lt_of hq102
  have hq117 := (hg114.2.2 _ (lt_of hq103)).trans hq103
  have lt_LA_L110 : LA < L110 := hL112 ▸ lt_of hq103
  have hq118 := (hg114.2.2 _ (lt_of hq104)).trans hq104
  have lt_LB_L110 : LB < L110 := hL112 ▸ lt_of hq104
  have hq119 := (hg114.2.2 _ (lt_of hq105)).trans hq105
  have lt_L26_L110 : L26 < L110 := hL112 ▸ lt_of hq105
  have hq120 := (hg114.2.2 _ (lt_of hq106)).trans hq106
  have lt_L44_L110 : L44 < L110 := hL112 ▸ lt_of hq106
  have hq121 := (hg114.2.2 _ (lt_of hq107)).trans hq107
  have lt_L64_L110 : L64 < L110 := hL112 ▸ lt_of hq107
  have hq122 := (hg114.2.2 _ (lt_of hq108)).trans hq108
  have lt_L86_L110 : L86 < L110 := hL112 ▸ lt_of hq108
  have hQ123 := qa_g hQ109 hg114
  have len_L110 := hQ109.1
  refine go_putF (pc' := 33) rfl hq115 rfl (by decide) (Nat.le_of_ble_eq_true rfl) rfl hwa rfl (fun h124 hc125 hp126 => ?_)
  have hq127 := (hp126.2.2 _ (by omega)).trans hq116
  have hq128 := (hp126.2.2 _ (by omega)).trans hq117
  have hq129 := (hp126.2.2 _ (by omega)).trans hq118
  have hq130 := (hp126.2.2 _ (by omega)).trans hq119
  have hq131 := (hp126.2.2 _ (by omega)).trans hq120
  have hq132 := (hp126.2.2 _ (by omega)).trans hq121
  have hq133 := (hp126.2.2 _ (by omega)).trans hq122
  have hq134 := (hp126.2.2 _ (by omega)).trans hc113
  have hQ135 := qa_p hQ123 hp126 (by omega)
  refine go_s (pc' := 34) rfl rfl rfl rfl ?_
  refine go_s (pc' := 35) (st' := [.int 16, .ref a]) rfl rfl rfl rfl ?_
  refine go_narrF (pc' := 36) (n := 16) rfl rfl (Nat.le_of_ble_eq_true rfl) rfl rfl rfl (fun L136 h137 hL138 hc139 hg140 => ?_)
  have hq141 := (hg140.2.2 _ (lt_of hc125)).trans hc125
  have lt_a_L136 : a < L136 := hL138 ▸ lt_of hc125
  have hq142 := (hg140.2.2 _ (lt_of hq127)).trans hq127
  have lt_L9_L136 : L9 < L136 := hL138 ▸ lt_of hq127
  have hq143 := (hg140.2.2 _ (lt_of hq128)).trans hq128
  have lt_LA_L136 : LA < L136 := hL138 ▸ lt_of hq128
  have hq144 := (hg140.2.2 _ (lt_of hq129)).trans hq129
  have lt_LB_L136 : LB < L136 := hL138 ▸ lt_of hq129
  have hq145 := (hg140.2.2 _ (lt_of hq130)).trans hq130
  have lt_L26_L136 : L26 < L136 := hL138 ▸ lt_of hq130
  have hq146 := (hg140.2.2 _ (lt_of hq131)).trans hq131
  have lt_L44_L136 : L44 < L136 := hL138 ▸ lt_of hq131
  have hq147 := (hg140.2.2 _ (lt_of hq132)).trans hq132
  have lt_L64_L136 : L64 < L136 := hL138 ▸ lt_of hq132
  have hq148 := (hg140.2.2 _ (lt_of hq133)).trans hq133
  have lt_L86_L136 : L86 < L136 := hL138 ▸ lt_of hq133
  have hq149 := (hg140.2.2 _ (lt_of hq134)).trans hq134
  have lt_L110_L136 : L110 < L136 := hL138 ▸ lt_of hq134
  have hQ150 := qa_g hQ135 hg140
  have len_L136 := hQ135.1
  refine go_putF (pc' := 37) rfl hq141 rfl (by decide) (Nat.le_of_ble_eq_true rfl) rfl hwa rfl (fun h151 hc152 hp153 => ?_)
  have hq154 := (hp153.2.2 _ (by omega)).trans hq142
  have hq155 := (hp153.2.2 _ (by omega)).trans hq143
  have hq156 := (hp153.2.2 _ (by omega)).trans hq144
  have hq157 := (hp153.2.2 _ (by omega)).trans hq145
  have hq158 := (hp153.2.2 _ (by omega)).trans hq146
  have hq159 := (hp153.2.2 _ (by omega)).trans hq147
  have hq160 := (hp153.2.2 _ (by omega)).trans hq148
  have hq161 := (hp153.2.2 _ (by omega)).trans hq149
  have hq162 := (hp153.2.2 _ (by omega)).trans hc139
  have hQ163 := qa_p hQ150 hp153 (by omega)
  refine go_s (pc' := 38) rfl rfl rfl rfl ?_
  refine go_s (pc' := 39) (st' := [.int 2, .ref a]) rfl rfl rfl rfl ?_
  refine go_narrF (pc' := 40) (n := 2) rfl rfl (Nat.le_of_ble_eq_true rfl) rfl rfl rfl (fun L164 h165 hL166 hc167 hg168 => ?_)
  have hq169 := (hg168.2.2 _ (lt_of hc152)).trans hc152
  have lt_a_L164 : a < L164 := hL166 ▸ lt_of hc152
  have hq170 := (hg168.2.2 _ (lt_of hq154)).trans hq154
  have lt_L9_L164 : L9 < L164 := hL166 ▸ lt_of hq154
  have hq171 := (hg168.2.2 _ (lt_of hq155)).trans hq155
  have lt_LA_L164 : LA < L164 := hL166 ▸ lt_of hq155
  have hq172 := (hg168.2.2 _ (lt_of hq156)).trans hq156
  have lt_LB_L164 : LB < L164 := hL166 ▸ lt_of hq156
  have hq173 := (hg168.2.2 _ (lt_of hq157)).trans hq157
  have lt_L26_L164 : L26 < L164 := hL166 ▸ lt_of hq157
  have hq174 := (hg168.2.2 _ (lt_of hq158)).trans hq158
  have lt_L44_L164 : L44 < L164 := hL166 ▸ lt_of hq158
  have hq175 := (hg168.2.2 _ (lt_of hq159)).trans hq159
  have lt_L64_L164 : L64 < L164 := hL166 ▸ lt_of hq159
  have hq176 := (hg168.2.2 _ (lt_of hq160)).trans hq160
  have lt_L86_L164 : L86 < L164 := hL166 ▸ lt_of hq160
  have hq177 := (hg168.2.2 _ (lt_of hq161)).trans hq161
  have lt_L110_L164 : L110 < L164 := hL166 ▸ lt_of hq161
  have hq178 := (hg168.2.2 _ (lt_of hq162)).trans hq162
  have lt_L136_L164 : L136 < L164 := hL166 ▸ lt_of hq162
  have hQ179 := qa_g hQ163 hg168
  have len_L164 := hQ163.1
  refine go_putF (pc' := 41) rfl hq169 rfl (by decide) (Nat.le_of_ble_eq_true rfl) rfl hwa rfl (fun h180 hc181 hp182 => ?_)
  have hq183 := (hp182.2.2 _ (by omega)).trans hq170
  have hq184 := (hp182.2.2 _ (by omega)).trans hq171
  have hq185 := (hp182.2.2 _ (by omega)).trans hq172
  have hq186 := (hp182.2.2 _ (by omega)).trans hq173
  have hq187 := (hp182.2.2 _ (by omega)).trans hq174
  have hq188 := (hp182.2.2 _ (by omega)).trans hq175
  have hq189 := (hp182.2.2 _ (by omega)).trans hq176
  have hq190 := (hp182.2.2 _ (by omega)).trans hq177
  have hq191 := (hp182.2.2 _ (by omega)).trans hq178
  have hq192 := (hp182.2.2 _ (by omega)).trans hc167
  have hQ193 := qa_p hQ179 hp182 (by omega)
  refine go_s (pc' := 42) rfl rfl rfl rfl ?_
  refine go_s (pc' := 43) (st' := [.int 160, .ref a]) rfl rfl rfl rfl ?_
  refine go_narrF (pc' := 44) (n := 160) rfl rfl (Nat.le_of_ble_eq_true rfl) rfl rfl rfl (fun L194 h195 hL196 hc197 hg198 => ?_)
  have hq199 := (hg198.2.2 _ (lt_of hc181)).trans hc181
  have lt_a_L194 : a < L194 := hL196 ▸ lt_of hc181
  have hq200 := (hg198.2.2 _ (lt_of hq183)).trans hq183
  have lt_L9_L194 : L9 < L194 := hL196 ▸ lt_of hq183
  have hq201 := (hg198.2.2 _ (lt_of hq184)).trans hq184
  have lt_LA_L194 : LA < L194 := hL196 ▸ lt_of hq184
  have hq202 := (hg198.2.2 _ (lt_of hq185)).trans hq185
  have lt_LB_L194 : LB < L194 := hL196 ▸ lt_of hq185
  have hq203 := (hg198.2.2 _ (lt_of hq186)).trans hq186
  have lt_L26_L194 : L26 < L194 := hL196 ▸ lt_of hq186
  have hq204 := (hg198.2.2 _ (lt_of hq187)).trans hq187
  have lt_L44_L194 : L44 < L194 := hL196 ▸ lt_of hq187
  have hq205 := (hg198.2.2 _ (lt_of hq188)).trans hq188
  have lt_L64_L194 : L64 < L194 := hL196 ▸ lt_of hq188
  have hq206 := (hg198.2.2 _ (lt_of hq189)).trans hq189
  have lt_L86_L194 : L86 < L194 := hL196 ▸ lt_of hq189
  have hq207 := (hg198.2.2 _ (lt_of hq190)).trans hq190
  have lt_L110_L194 : L110 < L194 := hL196 ▸ lt_of hq190
  have hq208 := (hg198.2.2 _ (lt_of hq191)).trans hq191
  have lt_L136_L194 : L136 < L194 := hL196 ▸ lt_of hq191
  have hq209 := (hg198.2.2 _ (lt_of hq192)).trans hq192
  have lt_L164_L194 : L164 < L194 := hL196 ▸ lt_of hq192
  have hQ210 := qa_g hQ193 hg198
  have len_L194 := hQ193.1
  refine go_putF (pc' := 45) rfl hq199 rfl (by decide) (Nat.le_of_ble_eq_true rfl) rfl hwa rfl (fun h211 hc212 hp213 => ?_)
  have hq214 := (hp213.2.2 _ (by omega)).trans hq200
  have hq215 := (hp213.2.2 _ (by omega)).trans hq201
  have hq216 := (hp213.2.2 _ (by omega)).trans hq202
  have hq217 := (hp213.2.2 _ (by omega)).trans hq203
  have hq218 := (hp213.2.2 _ (by omega)).trans hq204
  have hq219 := (hp213.2.2 _ (by omega)).trans hq205
  have hq220 := (hp213.2.2 _ (by omega)).trans hq206
  have hq221 := (hp213.2.2 _ (by omega)).trans hq207
  have hq222 := (hp213.2.2 _ (by omega)).trans hq208
  have hq223 := (hp213.2.2 _ (by omega)).trans hq209
  have hq224 := (hp213.2.2 _ (by omega)).trans hc197
  have hQ225 := qa_p hQ210 hp213 (by omega)
  refine go_s (pc' := 46) (st' := [.int 0]) rfl rfl rfl rfl ?_
  refine go_s (pc' := 47) (lo' := [some (.ref a), some (.int 0)]) rfl rfl rfl rfl ?_
  obtain rfl : L9 = h.length := by omega
  obtain rfl : LA = h.length + 1 := by omega
  obtain rfl : LB = h.length + 2 := by omega
  obtain rfl : L26 = h.length + 2 + 1 := by omega
  obtain rfl : L44 = h.length + 2 + 2 := by omega
  obtain rfl : L64 = h.length + 2 + 3 := by omega
  obtain rfl : L86 = h.length + 2 + 4 := by omega
  obtain rfl : L110 = h.length + 2 + 5 := by omega
  obtain rfl : L136 = h.length + 2 + 6 := by omega
  obtain rfl : L164 = h.length + 2 + 7 := by omega
  obtain rfl : L194 = h.length + 2 + 8 := by omega
  have hS9 : sm (tbs (adN a h.length)) h211 (SL 0) (fun _ _ => .null) := by
    refine sm_mk (fun i hi => ?_)
    match i, hi with
    | 0, _ => exact hc212
    | 1, _ => exact hq217.trans (congrArg (fun z => some (sm_c (.inr .int) z)) (rg_rep (S := SL 0) (Y := fun _ _ => .null) (c := 1) (fun j => rfl)).symm)
    | 2, _ => exact hq218.trans (congrArg (fun z => some (sm_c (.inr .int) z)) (rg_rep (S := SL 0) (Y := fun _ _ => .null) (c := 2) (fun j => rfl)).symm)
    | 3, _ => exact hq219.trans (congrArg (fun z => some (sm_c (.inr .int) z)) (rg_rep (S := SL 0) (Y := fun _ _ => .null) (c := 3) (fun j => rfl)).symm)
    | 4, _ => exact hq220.trans (congrArg (fun z => some (sm_c (.inr .int) z)) (rg_rep (S := SL 0) (Y := fun _ _ => .null) (c := 4) (fun j => rfl)).symm)
    | 5, _ => exact hq221.trans (congrArg (fun z => some (sm_c (.inr .int) z)) (rg_rep (S := SL 0) (Y := fun _ _ => .null) (c := 5) (fun j => rfl)).symm)
    | 6, _ => exact hq222.trans (congrArg (fun z => some (sm_c (.inr .int) z)) (rg_rep (S := SL 0) (Y := fun _ _ => .null) (c := 6) (fun j => by simp [sm_v, SL, SN])).symm)
    | 7, _ => exact hq223.trans (congrArg (fun z => some (sm_c (.inr .boolean) z)) (rg_rep (S := SL 0) (Y := fun _ _ => .null) (c := 7) (fun j => rfl)).symm)
    | 8, _ => exact hq224.trans (congrArg (fun z => some (sm_c (.inr .int) z)) (rg_rep (S := SL 0) (Y := fun _ _ => .null) (c := 8) (fun j => rfl)).symm)
    | 9, _ => exact hq214
    | 10, _ => exact hq215.trans (congrArg (fun z => some (sm_c (.inr .int) z)) (rg_rep (S := SL 0) (Y := fun _ _ => .null) (c := 9) (fun j => rfl)).symm)
    | 11, _ => exact hq216.trans (congrArg (fun z => some (sm_c (.inr .int) z)) (rg_rep (S := SL 0) (Y := fun _ _ => .null) (c := 10) (fun j => rfl)).symm)
  have hA9 := adN_k (a := a) (n := h.length) hlt
  exact lp_ssn hA9 (by intro i hi; unfold adN; split <;> (try split) <;> omega) (by intro i hi; unfold adN; split; exact hwa; split; exact hWn _ (by omega); exact hWn _ (by omega)) (fun i h1 h2 => by unfold adN; rw [if_neg (by omega)]; split <;> omega) rfl 16 0 _ rfl hS9 hQ225
