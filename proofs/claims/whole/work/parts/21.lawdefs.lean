def fb_L_law_1220 (n : Nat) (scL : Nat) (scX : Nat → Int32) (k18 : Nat → Nat → Int32 → zH → Option (Int32 × zH)) (l1 : Nat) (l2 : Nat) (l3 : Int32) (h : zH) : Option (Int32 × zH) :=
  k18 l1 l2 (l3 + 6) h
def fb_L_law_18 (n : Nat) (scL : Nat) (scX : Nat → Int32) (k18 : Nat → Nat → Int32 → zH → Option (Int32 × zH)) (l1 : Nat) (l2 : Nat) (l3 : Int32) (h : zH) : Option (Int32 × zH) :=
  if (Int32.ofNat scL) - 6 < l3 then
    some (1, h)
  else
    zsc scL scX l3 fun v1 =>
    zswl (v1 &&& 63) [
      (0, 220,
        zsc scL scX (l3 + 1) fun v2 =>
        zsc scL scX (l3 + 2) fun v3 =>
        zck h 12 l1 (zb (f_X11_of n l1 v2 v3 h) fun r4 h5 =>
        zsc scL scX (l3 + 1) fun v6 =>
        zsc scL scX (l3 + 2) fun v7 =>
        zck h5 13 l2 (zb (f_X12_of n l2 v6 v7 h5) fun r8 h9 =>
        if r4 = r8 then
          fb_L_law_1220 n scL scX k18 l1 l2 l3 h9
        else
          some (0, h9)))),
      (1, 253,
        zsc scL scX (l3 + 1) fun v10 =>
        zsc scL scX (l3 + 2) fun v11 =>
        zck h 12 l1 (zb (f_X11_cell n l1 v10 v11 h) fun r12 h13 =>
        zsc scL scX (l3 + 1) fun v14 =>
        zsc scL scX (l3 + 2) fun v15 =>
        zck h13 13 l2 (zb (f_X12_cell n l2 v14 v15 h13) fun r16 h17 =>
        if r12 = r16 then
          fb_L_law_1220 n scL scX k18 l1 l2 l3 h17
        else
          some (0, h17)))),
      (2, 286,
        zsc scL scX (l3 + 1) fun v18 =>
        zck h 12 l1 (zb (f_X11_list n l1 v18 h) fun r19 h20 =>
        zsc scL scX (l3 + 1) fun v21 =>
        zck h20 13 l2 (zb (f_X12_list n l2 v21 h20) fun r22 h23 =>
        if r19 = r22 then
          fb_L_law_1220 n scL scX k18 l1 l2 l3 h23
        else
          some (0, h23)))),
      (3, 309,
        zsc scL scX (l3 + 1) fun v24 =>
        zck h 12 l1 (zb (f_X11_find n l1 v24 h) fun r25 h26 =>
        zsc scL scX (l3 + 1) fun v27 =>
        zck h26 13 l2 (zb (f_X12_find n l2 v27 h26) fun r28 h29 =>
        if r25 = r28 then
          fb_L_law_1220 n scL scX k18 l1 l2 l3 h29
        else
          some (0, h29)))),
      (4, 332,
        zsc scL scX (l3 + 1) fun v30 =>
        zck h 12 l1 (zb (f_X11_node n l1 v30 h) fun r31 h32 =>
        zsc scL scX (l3 + 1) fun v33 =>
        zck h32 13 l2 (zb (f_X12_node n l2 v33 h32) fun r34 h35 =>
        if r31 = r34 then
          fb_L_law_1220 n scL scX k18 l1 l2 l3 h35
        else
          some (0, h35)))),
      (5, 355,
        zsc scL scX (l3 + 1) fun v36 =>
        zsc scL scX (l3 + 2) fun v37 =>
        zck h 12 l1 (zb (f_X11_old n l1 v36 v37 h) fun r38 h39 =>
        zsc scL scX (l3 + 1) fun v40 =>
        zsc scL scX (l3 + 2) fun v41 =>
        zck h39 13 l2 (zb (f_X12_old n l2 v40 v41 h39) fun r42 h43 =>
        if r38 = r42 then
          fb_L_law_1220 n scL scX k18 l1 l2 l3 h43
        else
          some (0, h43)))),
      (6, 388,
        zsc scL scX (l3 + 1) fun v44 =>
        zsc scL scX (l3 + 2) fun v45 =>
        zck h 12 l1 (zb (f_X11_terms n l1 v44 v45 h) fun r46 h47 =>
        zsc scL scX (l3 + 1) fun v48 =>
        zsc scL scX (l3 + 2) fun v49 =>
        zck h47 13 l2 (zb (f_X12_terms n l2 v48 v49 h47) fun r50 h51 =>
        if r46 = r50 then
          fb_L_law_1220 n scL scX k18 l1 l2 l3 h51
        else
          some (0, h51)))),
      (7, 421,
        zsc scL scX (l3 + 1) fun v52 =>
        zsc scL scX (l3 + 2) fun v53 =>
        zsc scL scX (l3 + 3) fun v54 =>
        zsc scL scX (l3 + 4) fun v55 =>
        zsc scL scX (l3 + 5) fun v56 =>
        zck h 12 l1 (zb (f_X11_feed n l1 v52 v53 v54 v55 v56 h) fun r57 h58 =>
        zsc scL scX (l3 + 1) fun v59 =>
        zsc scL scX (l3 + 2) fun v60 =>
        zsc scL scX (l3 + 3) fun v61 =>
        zsc scL scX (l3 + 4) fun v62 =>
        zsc scL scX (l3 + 5) fun v63 =>
        zck h58 13 l2 (zb (f_X12_feed n l2 v59 v60 v61 v62 v63 h58) fun r64 h65 =>
        if r57 = r64 then
          fb_L_law_1220 n scL scX k18 l1 l2 l3 h65
        else
          some (0, h65)))),
      (8, 484,
        zsc scL scX (l3 + 1) fun v66 =>
        zck h 12 l1 (zb (f_X11_end n l1 v66 h) fun r67 h68 =>
        zsc scL scX (l3 + 1) fun v69 =>
        zck h68 13 l2 (zb (f_X12_end n l2 v69 h68) fun r70 h71 =>
        if r67 = r70 then
          fb_L_law_1220 n scL scX k18 l1 l2 l3 h71
        else
          some (0, h71)))),
      (9, 507,
        zck h 12 l1 (zb (f_X11_row n l1 h) fun r72 h73 =>
        zck h73 13 l2 (zb (f_X12_row n l2 h73) fun r74 h75 =>
        if r72 = r74 then
          fb_L_law_1220 n scL scX k18 l1 l2 l3 h75
        else
          some (0, h75)))),
      (10, 520,
        zck h 12 l1 (zb (f_X11_tears n l1 h) fun r76 h77 =>
        zck h77 13 l2 (zb (f_X12_tears n l2 h77) fun r78 h79 =>
        if r76 = r78 then
          fb_L_law_1220 n scL scX k18 l1 l2 l3 h79
        else
          some (0, h79)))),
      (11, 533,
        zck h 12 l1 (zb (f_X11_law n l1 h) fun r80 h81 =>
        zck h81 13 l2 (zb (f_X12_law n l2 h81) fun r82 h83 =>
        if r80 = r82 then
          fb_L_law_1220 n scL scX k18 l1 l2 l3 h83
        else
          some (0, h83)))),
      (12, 546,
        zck h 12 l1 (zb (f_X11_orders n l1 h) fun r84 h85 =>
        zck h85 13 l2 (zb (f_X12_orders n l2 h85) fun r86 h87 =>
        if r84 = r86 then
          fb_L_law_1220 n scL scX k18 l1 l2 l3 h87
        else
          some (0, h87)))),
      (13, 559,
        zck h 12 l1 (zb (f_X11_fault n l1 h) fun r88 h89 =>
        zck h89 13 l2 (zb (f_X12_fault n l2 h89) fun r90 h91 =>
        if r88 = r90 then
          fb_L_law_1220 n scL scX k18 l1 l2 l3 h91
        else
          some (0, h91)))),
      (14, 572,
        zck h 12 l1 (zb (f_X11_stopped n l1 h) fun r92 h93 =>
        zck h93 13 l2 (zb (f_X12_stopped n l2 h93) fun r94 h95 =>
        if r92 = r94 then
          fb_L_law_1220 n scL scX k18 l1 l2 l3 h95
        else
          some (0, h95)))),
      (15, 585,
        zsc scL scX (l3 + 1) fun v96 =>
        zck h 12 l1 (zb (f_X11_force n l1 v96 h) fun r97 h98 =>
        zsc scL scX (l3 + 1) fun v99 =>
        zck h98 13 l2 (zb (f_X12_force n l2 v99 h98) fun r100 h101 =>
        if r97 = r100 then
          fb_L_law_1220 n scL scX k18 l1 l2 l3 h101
        else
          some (0, h101)))),
      (16, 608,
        zsc scL scX (l3 + 1) fun v102 =>
        zsc scL scX (l3 + 2) fun v103 =>
        zck h 12 l1 (zb (f_X11_put n l1 v102 v103 h) fun r104 h105 =>
        zsc scL scX (l3 + 1) fun v106 =>
        zsc scL scX (l3 + 2) fun v107 =>
        zck h105 13 l2 (zb (f_X12_put n l2 v106 v107 h105) fun r108 h109 =>
        if r104 = r108 then
          fb_L_law_1220 n scL scX k18 l1 l2 l3 h109
        else
          some (0, h109)))),
      (17, 641,
        zsc scL scX (l3 + 1) fun v110 =>
        zck h 12 l1 (zb (f_X11_drop n l1 v110 h) fun r111 h112 =>
        zsc scL scX (l3 + 1) fun v113 =>
        zck h112 13 l2 (zb (f_X12_drop n l2 v113 h112) fun r114 h115 =>
        if r111 = r114 then
          fb_L_law_1220 n scL scX k18 l1 l2 l3 h115
        else
          some (0, h115)))),
      (18, 664,
        zsc scL scX (l3 + 1) fun v116 =>
        zck h 12 l1 (zb (f_X11_enter n l1 v116 h) fun r117 h118 =>
        zsc scL scX (l3 + 1) fun v119 =>
        zck h118 13 l2 (zb (f_X12_enter n l2 v119 h118) fun r120 h121 =>
        if r117 = r120 then
          fb_L_law_1220 n scL scX k18 l1 l2 l3 h121
        else
          some (0, h121)))),
      (19, 687,
        zsc scL scX (l3 + 1) fun v122 =>
        zck h 12 l1 (zb (f_X11_step n l1 v122 h) fun r123 h124 =>
        zsc scL scX (l3 + 1) fun v125 =>
        zck h124 13 l2 (zb (f_X12_step n l2 v125 h124) fun r126 h127 =>
        if r123 = r126 then
          fb_L_law_1220 n scL scX k18 l1 l2 l3 h127
        else
          some (0, h127)))),
      (20, 710,
        zsc scL scX (l3 + 1) fun v128 =>
        zck h 12 l1 (zb (f_X11_park n l1 v128 h) fun r129 h130 =>
        zsc scL scX (l3 + 1) fun v131 =>
        zck h130 13 l2 (zb (f_X12_park n l2 v131 h130) fun r132 h133 =>
        if r129 = r132 then
          fb_L_law_1220 n scL scX k18 l1 l2 l3 h133
        else
          some (0, h133)))),
      (21, 733,
        zsc scL scX (l3 + 1) fun v134 =>
        zck h 12 l1 (zb (f_X11_leave n l1 v134 h) fun r135 h136 =>
        zsc scL scX (l3 + 1) fun v137 =>
        zck h136 13 l2 (zb (f_X12_leave n l2 v137 h136) fun r138 h139 =>
        if r135 = r138 then
          fb_L_law_1220 n scL scX k18 l1 l2 l3 h139
        else
          some (0, h139)))),
      (22, 756,
        zsc scL scX (l3 + 1) fun v140 =>
        zck h 12 l1 (zb (f_X11_tick n l1 v140 h) fun r141 h142 =>
        zsc scL scX (l3 + 1) fun v143 =>
        zck h142 13 l2 (zb (f_X12_tick n l2 v143 h142) fun r144 h145 =>
        if r141 = r144 then
          fb_L_law_1220 n scL scX k18 l1 l2 l3 h145
        else
          some (0, h145)))),
      (23, 779,
        zck h 12 l1 (zb (f_X11_begin n l1 h) fun r146 h147 =>
        zck h147 13 l2 (zb (f_X12_begin n l2 h147) fun r148 h149 =>
        if r146 = r148 then
          fb_L_law_1220 n scL scX k18 l1 l2 l3 h149
        else
          some (0, h149)))),
      (24, 792,
        zck h 12 l1 (zb (f_X11_hurry n l1 h) fun r150 h151 =>
        zck h151 13 l2 (zb (f_X12_hurry n l2 h151) fun r152 h153 =>
        if r150 = r152 then
          fb_L_law_1220 n scL scX k18 l1 l2 l3 h153
        else
          some (0, h153)))),
      (25, 805,
        zck h 12 l1 (zb (f_X11_undo n l1 h) fun r154 h155 =>
        zck h155 13 l2 (zb (f_X12_undo n l2 h155) fun r156 h157 =>
        if r154 = r156 then
          fb_L_law_1220 n scL scX k18 l1 l2 l3 h157
        else
          some (0, h157)))),
      (26, 818,
        zsc scL scX (l3 + 1) fun v158 =>
        zsc scL scX (l3 + 2) fun v159 =>
        zck h 12 l1 (zb (f_X11_sees n l1 v158 v159 h) fun r160 h161 =>
        zsc scL scX (l3 + 1) fun v162 =>
        zsc scL scX (l3 + 2) fun v163 =>
        zck h161 13 l2 (zb (f_X12_sees n l2 v162 v163 h161) fun r164 h165 =>
        if r160 = r164 then
          fb_L_law_1220 n scL scX k18 l1 l2 l3 h165
        else
          some (0, h165)))),
      (27, 851,
        zsc scL scX (l3 + 1) fun v166 =>
        zck h 12 l1 (zb (f_X11_reach n l1 v166 h) fun r167 h168 =>
        zsc scL scX (l3 + 1) fun v169 =>
        zck h168 13 l2 (zb (f_X12_reach n l2 v169 h168) fun r170 h171 =>
        if r167 = r170 then
          fb_L_law_1220 n scL scX k18 l1 l2 l3 h171
        else
          some (0, h171)))),
      (28, 874,
        zck h 12 l1 (zb (f_X11_holders n l1 h) fun r172 h173 =>
        zck h173 13 l2 (zb (f_X12_holders n l2 h173) fun r174 h175 =>
        if r172 = r174 then
          fb_L_law_1220 n scL scX k18 l1 l2 l3 h175
        else
          some (0, h175)))),
      (29, 887,
        zsc scL scX (l3 + 1) fun v176 =>
        zck h 12 l1 (zb (f_X11_why n l1 v176 h) fun r177 h178 =>
        zsc scL scX (l3 + 1) fun v179 =>
        zck h178 13 l2 (zb (f_X12_why n l2 v179 h178) fun r180 h181 =>
        if r177 = r180 then
          fb_L_law_1220 n scL scX k18 l1 l2 l3 h181
        else
          some (0, h181)))),
      (30, 910,
        zck h 12 l1 (zb (f_X11_least n l1 h) fun r182 h183 =>
        zck h183 13 l2 (zb (f_X12_least n l2 h183) fun r184 h185 =>
        if r182 = r184 then
          fb_L_law_1220 n scL scX k18 l1 l2 l3 h185
        else
          some (0, h185)))),
      (31, 923,
        zsc scL scX (l3 + 1) fun v186 =>
        zsc scL scX (l3 + 2) fun v187 =>
        zck h 12 l1 (zb (f_X11_seen n l1 v186 v187 h) fun r188 h189 =>
        zsc scL scX (l3 + 1) fun v190 =>
        zsc scL scX (l3 + 2) fun v191 =>
        zck h189 13 l2 (zb (f_X12_seen n l2 v190 v191 h189) fun r192 h193 =>
        if r188 = r192 then
          fb_L_law_1220 n scL scX k18 l1 l2 l3 h193
        else
          some (0, h193)))),
      (32, 956,
        zck h 12 l1 (zb (f_X11_forget n l1 h) fun r194 h195 =>
        zck h195 13 l2 (zb (f_X12_forget n l2 h195) fun r196 h197 =>
        if r194 = r196 then
          fb_L_law_1220 n scL scX k18 l1 l2 l3 h197
        else
          some (0, h197)))),
      (33, 969,
        zck h 12 l1 (zb (f_X11_canBe n l1 h) fun r198 h199 =>
        zck h199 13 l2 (zb (f_X12_canBe n l2 h199) fun r200 h201 =>
        if r198 = r200 then
          fb_L_law_1220 n scL scX k18 l1 l2 l3 h201
        else
          some (0, h201)))),
      (34, 982,
        zsc scL scX (l3 + 1) fun v202 =>
        zck h 12 l1 (zb (f_X11_ask n l1 v202 h) fun r203 h204 =>
        zsc scL scX (l3 + 1) fun v205 =>
        zck h204 13 l2 (zb (f_X12_ask n l2 v205 h204) fun r206 h207 =>
        if r203 = r206 then
          fb_L_law_1220 n scL scX k18 l1 l2 l3 h207
        else
          some (0, h207)))),
      (35, 1005,
        zsc scL scX (l3 + 1) fun v208 =>
        zsc scL scX (l3 + 2) fun v209 =>
        zck h 12 l1 (zb (f_X11_few n l1 v208 v209 h) fun r210 h211 =>
        zsc scL scX (l3 + 1) fun v212 =>
        zsc scL scX (l3 + 2) fun v213 =>
        zck h211 13 l2 (zb (f_X12_few n l2 v212 v213 h211) fun r214 h215 =>
        if lg_cmp r210 r214 = 0 then
          fb_L_law_1220 n scL scX k18 l1 l2 l3 h215
        else
          some (0, h215)))),
      (36, 1039,
        zsc scL scX (l3 + 1) fun v216 =>
        zsc scL scX (l3 + 2) fun v217 =>
        zsc scL scX (l3 + 3) fun v218 =>
        zck h 12 l1 (zb (f_X11_compare n l1 v216 v217 v218 h) fun r219 h220 =>
        zsc scL scX (l3 + 1) fun v221 =>
        zsc scL scX (l3 + 2) fun v222 =>
        zsc scL scX (l3 + 3) fun v223 =>
        zck h220 13 l2 (zb (f_X12_compare n l2 v221 v222 v223 h220) fun r224 h225 =>
        if r219 = r224 then
          fb_L_law_1220 n scL scX k18 l1 l2 l3 h225
        else
          some (0, h225)))),
      (37, 1082,
        zsc scL scX (l3 + 1) fun v226 =>
        zsc scL scX (l3 + 2) fun v227 =>
        zck h 12 l1 (zb (f_X11_days n l1 v226 v227 h) fun r228 h229 =>
        zsc scL scX (l3 + 1) fun v230 =>
        zsc scL scX (l3 + 2) fun v231 =>
        zck h229 13 l2 (zb (f_X12_days n l2 v230 v231 h229) fun r232 h233 =>
        if r228 = r232 then
          fb_L_law_1220 n scL scX k18 l1 l2 l3 h233
        else
          some (0, h233)))),
      (38, 1115,
        zsc scL scX (l3 + 1) fun v234 =>
        zck h 12 l1 (zb (f_X11_drawn n l1 v234 h) fun r235 h236 =>
        zsc scL scX (l3 + 1) fun v237 =>
        zck h236 13 l2 (zb (f_X12_drawn n l2 v237 h236) fun r238 h239 =>
        if r235 = r238 then
          fb_L_law_1220 n scL scX k18 l1 l2 l3 h239
        else
          some (0, h239)))),
      (39, 1138,
        zsc scL scX (l3 + 1) fun v240 =>
        zck h 12 l1 (zb (f_X11_image n l1 v240 h) fun r241 h242 =>
        zsc scL scX (l3 + 1) fun v243 =>
        zck h242 13 l2 (zb (f_X12_image n l2 v243 h242) fun r244 h245 =>
        if r241 = r244 then
          fb_L_law_1220 n scL scX k18 l1 l2 l3 h245
        else
          some (0, h245)))),
      (40, 1161,
        zsc scL scX (l3 + 1) fun v246 =>
        zck h 12 l1 (zb (f_X11_back n l1 v246 h) fun r247 h248 =>
        zsc scL scX (l3 + 1) fun v249 =>
        zck h248 13 l2 (zb (f_X12_back n l2 v249 h248) fun r250 h251 =>
        if r247 = r250 then
          fb_L_law_1220 n scL scX k18 l1 l2 l3 h251
        else
          some (0, h251)))),
      (41, 1184,
        zsc scL scX (l3 + 1) fun v252 =>
        zck h 12 l1 (zb (f_X11_count n l1 v252 h) fun r253 h254 =>
        zsc scL scX (l3 + 1) fun v255 =>
        zck h254 13 l2 (zb (f_X12_count n l2 v255 h254) fun r256 h257 =>
        if r253 = r256 then
          fb_L_law_1220 n scL scX k18 l1 l2 l3 h257
        else
          some (0, h257)))),
      (42, 1207,
        zck h 12 l1 (zb (f_X11_status n l1 h) fun r258 h259 =>
        zck h259 13 l2 (zb (f_X12_status n l2 h259) fun r260 h261 =>
        if r258 = r260 then
          fb_L_law_1220 n scL scX k18 l1 l2 l3 h261
        else
          some (0, h261))))] (
        fb_L_law_1220 n scL scX k18 l1 l2 l3 h)
def f_L_law (n : Nat) (scL : Nat) (scX : Nat → Int32) (h : zH) : Option (Int32 × zH) :=
  znO h 12 20 fun r1 h2 =>
  zb (f_X11_init n r1 h2) fun _ h4 =>
  znO h4 13 43 fun r5 h6 =>
  zb (f_X12_init n r5 h6) fun _ h8 =>
  zlp3 (fb_L_law_18 n scL scX ) n r1 r5 0 h8
