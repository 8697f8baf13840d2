theorem md_X11_reach : zMd yX11_reach cX11_reach 4 (some .int) 1 := ⟨zt5 19 rfl rfl, zt1 1 (by decide +kernel) (by decide +kernel), ⟨(by decide +kernel), (by decide +kernel)⟩, (by decide +kernel), by decide⟩
theorem mv_X11_reach : zMv yX11_reach := ⟨zt5 17 (by decide +kernel) (by decide +kernel), zt5 18 (by decide +kernel) (by decide +kernel)⟩
theorem md_X11_row : zMd yX11_row cX11_row 4 (some .int) 0 := ⟨zt3 26 rfl rfl, zt1 1 (by decide +kernel) (by decide +kernel), ⟨(by decide +kernel), (by decide +kernel)⟩, (by decide +kernel), by decide⟩
theorem mv_X11_row : zMv yX11_row := ⟨zt3 24 (by decide +kernel) (by decide +kernel), zt3 25 (by decide +kernel) (by decide +kernel)⟩
theorem md_X11_runClause : zMd yX11_runClause cX11_runClause 9 (some .boolean) 2 := ⟨zt4 71 rfl rfl, zt1 1 (by decide +kernel) (by decide +kernel), ⟨(by decide +kernel), (by decide +kernel)⟩, (by decide +kernel), by decide⟩
theorem mv_X11_runClause : zMv yX11_runClause := ⟨zt4 70 (by decide +kernel) (by decide +kernel), zp2 (q := (yX11_runClause, 20)) 8 rfl rfl⟩
theorem md_X11_seen : zMd yX11_seen cX11_seen 3 (some .int) 2 := ⟨zt5 44 rfl rfl, zt1 1 (by decide +kernel) (by decide +kernel), ⟨(by decide +kernel), (by decide +kernel)⟩, (by decide +kernel), by decide⟩
theorem mv_X11_seen : zMv yX11_seen := ⟨zt5 42 (by decide +kernel) (by decide +kernel), zt5 43 (by decide +kernel) (by decide +kernel)⟩
theorem md_X11_sees : zMd yX11_sees cX11_sees 3 (some .int) 2 := ⟨zt5 15 rfl rfl, zt1 1 (by decide +kernel) (by decide +kernel), ⟨(by decide +kernel), (by decide +kernel)⟩, (by decide +kernel), by decide⟩
theorem mv_X11_sees : zMv yX11_sees := ⟨zt5 13 (by decide +kernel) (by decide +kernel), zt5 14 (by decide +kernel) (by decide +kernel)⟩
theorem md_X11_status : zMd yX11_status cX11_status 1 (some .int) 0 := ⟨zt5 153 rfl rfl, zt1 1 (by decide +kernel) (by decide +kernel), ⟨(by decide +kernel), (by decide +kernel)⟩, (by decide +kernel), by decide⟩
theorem mv_X11_status : zMv yX11_status := ⟨zt5 151 (by decide +kernel) (by decide +kernel), zt5 152 (by decide +kernel) (by decide +kernel)⟩
theorem md_X11_step : zMd yX11_step cX11_step 2 (some .int) 1 := ⟨zt4 213 rfl rfl, zt1 1 (by decide +kernel) (by decide +kernel), ⟨(by decide +kernel), (by decide +kernel)⟩, (by decide +kernel), by decide⟩
theorem mv_X11_step : zMv yX11_step := ⟨zt4 211 (by decide +kernel) (by decide +kernel), zt4 212 (by decide +kernel) (by decide +kernel)⟩
theorem md_X11_stopped : zMd yX11_stopped cX11_stopped 1 (some .int) 0 := ⟨zt4 183 rfl rfl, zt1 1 (by decide +kernel) (by decide +kernel), ⟨(by decide +kernel), (by decide +kernel)⟩, (by decide +kernel), by decide⟩
theorem mv_X11_stopped : zMv yX11_stopped := ⟨zt4 181 (by decide +kernel) (by decide +kernel), zt4 182 (by decide +kernel) (by decide +kernel)⟩
theorem md_X11_tears : zMd yX11_tears cX11_tears 1 (some .int) 0 := ⟨zt3 80 rfl rfl, zt1 1 (by decide +kernel) (by decide +kernel), ⟨(by decide +kernel), (by decide +kernel)⟩, (by decide +kernel), by decide⟩
theorem mv_X11_tears : zMv yX11_tears := ⟨zt3 78 (by decide +kernel) (by decide +kernel), zt3 79 (by decide +kernel) (by decide +kernel)⟩
theorem md_X11_tellOrderWords : zMd yX11_tellOrderWords cX11_tellOrderWords 3 none 0 := ⟨zt4 76 rfl rfl, zt1 1 (by decide +kernel) (by decide +kernel), ⟨(by decide +kernel), (by decide +kernel)⟩, (by decide +kernel), by decide⟩
theorem mv_X11_tellOrderWords : zMv yX11_tellOrderWords := ⟨zt4 75 (by decide +kernel) (by decide +kernel), zp2 (q := (yX11_tellOrderWords, 20)) 9 rfl rfl⟩
theorem md_X11_termNow : zMd yX11_termNow cX11_termNow 2 (some .int) 1 := ⟨zt3 6 rfl rfl, zt1 1 (by decide +kernel) (by decide +kernel), ⟨(by decide +kernel), (by decide +kernel)⟩, (by decide +kernel), by decide⟩
theorem mv_X11_termNow : zMv yX11_termNow := ⟨zt3 5 (by decide +kernel) (by decide +kernel), zp1 (q := (yX11_termNow, 20)) 3 rfl rfl⟩
theorem md_X11_terms : zMd yX11_terms cX11_terms 5 (some .int) 2 := ⟨zt2 232 rfl rfl, zt1 1 (by decide +kernel) (by decide +kernel), ⟨(by decide +kernel), (by decide +kernel)⟩, (by decide +kernel), by decide⟩
theorem mv_X11_terms : zMv yX11_terms := ⟨zt2 230 (by decide +kernel) (by decide +kernel), zt2 231 (by decide +kernel) (by decide +kernel)⟩
theorem md_X11_tick : zMd yX11_tick cX11_tick 2 (some .int) 1 := ⟨zt4 228 rfl rfl, zt1 1 (by decide +kernel) (by decide +kernel), ⟨(by decide +kernel), (by decide +kernel)⟩, (by decide +kernel), by decide⟩
theorem mv_X11_tick : zMv yX11_tick := ⟨zt4 226 (by decide +kernel) (by decide +kernel), zt4 227 (by decide +kernel) (by decide +kernel)⟩
theorem md_X11_told : zMd yX11_told cX11_told 3 (some .int) 1 := ⟨zt2 239 rfl rfl, zt1 1 (by decide +kernel) (by decide +kernel), ⟨(by decide +kernel), (by decide +kernel)⟩, (by decide +kernel), by decide⟩
theorem mv_X11_told : zMv yX11_told := ⟨zt2 238 (by decide +kernel) (by decide +kernel), zp1 (q := (yX11_told, 20)) 2 rfl rfl⟩
theorem md_X11_undo : zMd yX11_undo cX11_undo 1 (some .int) 0 := ⟨zt5 7 rfl rfl, zt1 1 (by decide +kernel) (by decide +kernel), ⟨(by decide +kernel), (by decide +kernel)⟩, (by decide +kernel), by decide⟩
theorem mv_X11_undo : zMv yX11_undo := ⟨zt5 5 (by decide +kernel) (by decide +kernel), zt5 6 (by decide +kernel) (by decide +kernel)⟩
theorem md_X11_why : zMd yX11_why cX11_why 4 (some .int) 1 := ⟨zt5 31 rfl rfl, zt1 1 (by decide +kernel) (by decide +kernel), ⟨(by decide +kernel), (by decide +kernel)⟩, (by decide +kernel), by decide⟩
theorem mv_X11_why : zMv yX11_why := ⟨zt5 29 (by decide +kernel) (by decide +kernel), zt5 30 (by decide +kernel) (by decide +kernel)⟩
theorem md_X0_init : zMd yX0_init cX0_init 1 none 0 := ⟨zt1 40 rfl rfl, zt1 3 (by decide +kernel) (by decide +kernel), ⟨(by decide +kernel), (by decide +kernel)⟩, (by decide +kernel), by decide⟩
theorem mi_X0_init : Cond.instanceMethod yX0_init ∈ zT := zt1 39 (by decide +kernel) (by decide +kernel)
theorem md_X0_along : zMd yX0_along cX0_along 5 (some .int) 2 := ⟨zt2 200 rfl rfl, zt1 3 (by decide +kernel) (by decide +kernel), ⟨(by decide +kernel), (by decide +kernel)⟩, (by decide +kernel), by decide⟩
theorem mv_X0_along : zMv yX0_along := ⟨zt2 198 (by decide +kernel) (by decide +kernel), zt2 199 (by decide +kernel) (by decide +kernel)⟩
theorem md_X0_copyFrom : zMd yX0_copyFrom cX0_copyFrom 2 none 1 := ⟨zt4 53 rfl rfl, zt1 3 (by decide +kernel) (by decide +kernel), ⟨(by decide +kernel), (by decide +kernel)⟩, (by decide +kernel), by decide⟩
theorem mv_X0_copyFrom : zMv yX0_copyFrom := ⟨zt4 51 (by decide +kernel) (by decide +kernel), zt4 52 (by decide +kernel) (by decide +kernel)⟩
theorem md_X0_follower : zMd yX0_follower cX0_follower 2 (some .int) 1 := ⟨zt2 217 rfl rfl, zt1 3 (by decide +kernel) (by decide +kernel), ⟨(by decide +kernel), (by decide +kernel)⟩, (by decide +kernel), by decide⟩
theorem mv_X0_follower : zMv yX0_follower := ⟨zt2 216 (by decide +kernel) (by decide +kernel), zp1 (q := (yX0_follower, 9)) 1 rfl rfl⟩
theorem md_X0_freeCurrent : zMd yX0_freeCurrent cX0_freeCurrent 3 (some .int) 0 := ⟨zt4 157 rfl rfl, zt1 3 (by decide +kernel) (by decide +kernel), ⟨(by decide +kernel), (by decide +kernel)⟩, (by decide +kernel), by decide⟩
theorem mv_X0_freeCurrent : zMv yX0_freeCurrent := ⟨zt4 155 (by decide +kernel) (by decide +kernel), zt4 156 (by decide +kernel) (by decide +kernel)⟩
theorem md_X0_holding : zMd yX0_holding cX0_holding 3 (some .int) 1 := ⟨zt2 209 rfl rfl, zt1 3 (by decide +kernel) (by decide +kernel), ⟨(by decide +kernel), (by decide +kernel)⟩, (by decide +kernel), by decide⟩
theorem mv_X0_holding : zMv yX0_holding := ⟨zt2 207 (by decide +kernel) (by decide +kernel), zt2 208 (by decide +kernel) (by decide +kernel)⟩
theorem md_X0_insert : zMd yX0_insert cX0_insert 7 (some .int) 2 := ⟨zt3 64 rfl rfl, zt1 3 (by decide +kernel) (by decide +kernel), ⟨(by decide +kernel), (by decide +kernel)⟩, (by decide +kernel), by decide⟩
theorem mv_X0_insert : zMv yX0_insert := ⟨zt3 62 (by decide +kernel) (by decide +kernel), zt3 63 (by decide +kernel) (by decide +kernel)⟩
theorem md_X0_lastBelow : zMd yX0_lastBelow cX0_lastBelow 5 (some .int) 1 := ⟨zt2 213 rfl rfl, zt1 3 (by decide +kernel) (by decide +kernel), ⟨(by decide +kernel), (by decide +kernel)⟩, (by decide +kernel), by decide⟩
theorem mv_X0_lastBelow : zMv yX0_lastBelow := ⟨zt2 212 (by decide +kernel) (by decide +kernel), zp1 (q := (yX0_lastBelow, 9)) 0 rfl rfl⟩
theorem md_X0_leadTo : zMd yX0_leadTo cX0_leadTo 3 none 2 := ⟨zt3 72 rfl rfl, zt1 3 (by decide +kernel) (by decide +kernel), ⟨(by decide +kernel), (by decide +kernel)⟩, (by decide +kernel), by decide⟩
theorem mv_X0_leadTo : zMv yX0_leadTo := ⟨zt3 71 (by decide +kernel) (by decide +kernel), zp1 (q := (yX0_leadTo, 9)) 8 rfl rfl⟩
theorem md_X0_leadsTo : zMd yX0_leadsTo cX0_leadsTo 5 (some .boolean) 2 := ⟨zt5 23 rfl rfl, zt1 3 (by decide +kernel) (by decide +kernel), ⟨(by decide +kernel), (by decide +kernel)⟩, (by decide +kernel), by decide⟩
theorem mv_X0_leadsTo : zMv yX0_leadsTo := ⟨zt5 21 (by decide +kernel) (by decide +kernel), zt5 22 (by decide +kernel) (by decide +kernel)⟩
theorem md_X0_liveCount : zMd yX0_liveCount cX0_liveCount 3 (some .int) 0 := ⟨zt5 149 rfl rfl, zt1 3 (by decide +kernel) (by decide +kernel), ⟨(by decide +kernel), (by decide +kernel)⟩, (by decide +kernel), by decide⟩
theorem mv_X0_liveCount : zMv yX0_liveCount := ⟨zt5 147 (by decide +kernel) (by decide +kernel), zt5 148 (by decide +kernel) (by decide +kernel)⟩
theorem md_X0_lowestFree : zMd yX0_lowestFree cX0_lowestFree 2 (some .int) 0 := ⟨zt3 68 rfl rfl, zt1 3 (by decide +kernel) (by decide +kernel), ⟨(by decide +kernel), (by decide +kernel)⟩, (by decide +kernel), by decide⟩
theorem mv_X0_lowestFree : zMv yX0_lowestFree := ⟨zt3 67 (by decide +kernel) (by decide +kernel), zp1 (q := (yX0_lowestFree, 9)) 7 rfl rfl⟩
theorem md_X0_remove : zMd yX0_remove cX0_remove 4 (some .int) 1 := ⟨zt4 98 rfl rfl, zt1 3 (by decide +kernel) (by decide +kernel), ⟨(by decide +kernel), (by decide +kernel)⟩, (by decide +kernel), by decide⟩
theorem mv_X0_remove : zMv yX0_remove := ⟨zt4 96 (by decide +kernel) (by decide +kernel), zt4 97 (by decide +kernel) (by decide +kernel)⟩
theorem md_X0_retire : zMd yX0_retire cX0_retire 2 none 1 := ⟨zt3 76 rfl rfl, zt1 3 (by decide +kernel) (by decide +kernel), ⟨(by decide +kernel), (by decide +kernel)⟩, (by decide +kernel), by decide⟩
theorem mv_X0_retire : zMv yX0_retire := ⟨zt3 75 (by decide +kernel) (by decide +kernel), zp1 (q := (yX0_retire, 9)) 9 rfl rfl⟩
theorem md_X0_tellValues : zMd yX0_tellValues cX0_tellValues 5 none 2 := ⟨zt4 80 rfl rfl, zt1 3 (by decide +kernel) (by decide +kernel), ⟨(by decide +kernel), (by decide +kernel)⟩, (by decide +kernel), by decide⟩
theorem mv_X0_tellValues : zMv yX0_tellValues := ⟨zt4 78 (by decide +kernel) (by decide +kernel), zt4 79 (by decide +kernel) (by decide +kernel)⟩
theorem md_X0_waitingBecomeCurrent : zMd yX0_waitingBecomeCurrent cX0_waitingBecomeCurrent 2 none 0 := ⟨zt4 166 rfl rfl, zt1 3 (by decide +kernel) (by decide +kernel), ⟨(by decide +kernel), (by decide +kernel)⟩, (by decide +kernel), by decide⟩
theorem mv_X0_waitingBecomeCurrent : zMv yX0_waitingBecomeCurrent := ⟨zt4 164 (by decide +kernel) (by decide +kernel), zt4 165 (by decide +kernel) (by decide +kernel)⟩
theorem md_X1_init : zMd yX1_init cX1_init 1 none 0 := ⟨zt1 187 rfl rfl, zt1 6 (by decide +kernel) (by decide +kernel), ⟨(by decide +kernel), (by decide +kernel)⟩, (by decide +kernel), by decide⟩
theorem mi_X1_init : Cond.instanceMethod yX1_init ∈ zT := zt1 186 (by decide +kernel) (by decide +kernel)
theorem md_X1_copyFrom : zMd yX1_copyFrom cX1_copyFrom 2 none 1 := ⟨zt5 132 rfl rfl, zt1 6 (by decide +kernel) (by decide +kernel), ⟨(by decide +kernel), (by decide +kernel)⟩, (by decide +kernel), by decide⟩
theorem mv_X1_copyFrom : zMv yX1_copyFrom := ⟨zt5 130 (by decide +kernel) (by decide +kernel), zt5 131 (by decide +kernel) (by decide +kernel)⟩
theorem md_X1_factOf : zMd yX1_factOf cX1_factOf 4 (some .int) 3 := ⟨zt5 63 rfl rfl, zt1 6 (by decide +kernel) (by decide +kernel), ⟨(by decide +kernel), (by decide +kernel)⟩, (by decide +kernel), by decide⟩
theorem ms_X1_factOf : Cond.static yX1_factOf ∈ zT := zt5 62 (by decide +kernel) (by decide +kernel)
theorem md_X1_fitting : zMd yX1_fitting cX1_fitting 6 (some .int) 1 := ⟨zt5 60 rfl rfl, zt1 6 (by decide +kernel) (by decide +kernel), ⟨(by decide +kernel), (by decide +kernel)⟩, (by decide +kernel), by decide⟩
theorem mv_X1_fitting : zMv yX1_fitting := ⟨zt5 58 (by decide +kernel) (by decide +kernel), zt5 59 (by decide +kernel) (by decide +kernel)⟩
theorem md_X1_mostAlike : zMd yX1_mostAlike cX1_mostAlike 9 (some .int) 3 := ⟨zt5 74 rfl rfl, zt1 6 (by decide +kernel) (by decide +kernel), ⟨(by decide +kernel), (by decide +kernel)⟩, (by decide +kernel), by decide⟩
theorem mv_X1_mostAlike : zMv yX1_mostAlike := ⟨zt5 72 (by decide +kernel) (by decide +kernel), zt5 73 (by decide +kernel) (by decide +kernel)⟩
theorem md_X1_note : zMd yX1_note cX1_note 3 (some .int) 2 := ⟨zt5 48 rfl rfl, zt1 6 (by decide +kernel) (by decide +kernel), ⟨(by decide +kernel), (by decide +kernel)⟩, (by decide +kernel), by decide⟩
theorem mv_X1_note : zMv yX1_note := ⟨zt5 46 (by decide +kernel) (by decide +kernel), zt5 47 (by decide +kernel) (by decide +kernel)⟩
theorem md_X2_init : zMd yX2_init cX2_init 2 none 0 := ⟨zt1 204 rfl rfl, zt1 7 (by decide +kernel) (by decide +kernel), ⟨(by decide +kernel), (by decide +kernel)⟩, (by decide +kernel), by decide⟩
theorem mi_X2_init : Cond.instanceMethod yX2_init ∈ zT := zt1 203 (by decide +kernel) (by decide +kernel)
theorem md_X2_clear : zMd yX2_clear cX2_clear 1 none 0 := ⟨zt3 10 rfl rfl, zt1 7 (by decide +kernel) (by decide +kernel), ⟨(by decide +kernel), (by decide +kernel)⟩, (by decide +kernel), by decide⟩
theorem mv_X2_clear : zMv yX2_clear := ⟨zt3 8 (by decide +kernel) (by decide +kernel), zt3 9 (by decide +kernel) (by decide +kernel)⟩
theorem md_X2_commit : zMd yX2_commit cX2_commit 2 none 1 := ⟨zt4 175 rfl rfl, zt1 7 (by decide +kernel) (by decide +kernel), ⟨(by decide +kernel), (by decide +kernel)⟩, (by decide +kernel), by decide⟩
theorem mv_X2_commit : zMv yX2_commit := ⟨zt4 173 (by decide +kernel) (by decide +kernel), zt4 174 (by decide +kernel) (by decide +kernel)⟩
theorem md_X2_copyFrom : zMd yX2_copyFrom cX2_copyFrom 4 none 1 := ⟨zt4 59 rfl rfl, zt1 7 (by decide +kernel) (by decide +kernel), ⟨(by decide +kernel), (by decide +kernel)⟩, (by decide +kernel), by decide⟩
theorem mv_X2_copyFrom : zMv yX2_copyFrom := ⟨zt4 57 (by decide +kernel) (by decide +kernel), zt4 58 (by decide +kernel) (by decide +kernel)⟩
theorem md_X2_prepare : zMd yX2_prepare cX2_prepare 2 none 1 := ⟨zt4 85 rfl rfl, zt1 7 (by decide +kernel) (by decide +kernel), ⟨(by decide +kernel), (by decide +kernel)⟩, (by decide +kernel), by decide⟩
theorem mv_X2_prepare : zMv yX2_prepare := ⟨zt4 83 (by decide +kernel) (by decide +kernel), zt4 84 (by decide +kernel) (by decide +kernel)⟩
theorem md_X2_slotOf : zMd yX2_slotOf cX2_slotOf 2 (some .int) 1 := ⟨zt4 63 rfl rfl, zt1 7 (by decide +kernel) (by decide +kernel), ⟨(by decide +kernel), (by decide +kernel)⟩, (by decide +kernel), by decide⟩
theorem mv_X2_slotOf : zMv yX2_slotOf := ⟨zt4 62 (by decide +kernel) (by decide +kernel), zp2 (q := (yX2_slotOf, 4)) 7 rfl rfl⟩
theorem md_X2_takeBack : zMd yX2_takeBack cX2_takeBack 2 (some .int) 1 := ⟨zt5 11 rfl rfl, zt1 7 (by decide +kernel) (by decide +kernel), ⟨(by decide +kernel), (by decide +kernel)⟩, (by decide +kernel), by decide⟩
theorem mv_X2_takeBack : zMv yX2_takeBack := ⟨zt5 9 (by decide +kernel) (by decide +kernel), zt5 10 (by decide +kernel) (by decide +kernel)⟩
theorem md_X3_init : zMd yX3_init cX3_init 2 none 1 := ⟨zt1 227 rfl rfl, zt1 8 (by decide +kernel) (by decide +kernel), ⟨(by decide +kernel), (by decide +kernel)⟩, (by decide +kernel), by decide⟩
theorem mi_X3_init : Cond.instanceMethod yX3_init ∈ zT := zt1 226 (by decide +kernel) (by decide +kernel)
theorem md_X3_giveBack : zMd yX3_giveBack cX3_giveBack 4 none 3 := ⟨zt5 141 rfl rfl, zt1 8 (by decide +kernel) (by decide +kernel), ⟨(by decide +kernel), (by decide +kernel)⟩, (by decide +kernel), by decide⟩
theorem mv_X3_giveBack : zMv yX3_giveBack := ⟨zt5 139 (by decide +kernel) (by decide +kernel), zt5 140 (by decide +kernel) (by decide +kernel)⟩
theorem md_X3_keep : zMd yX3_keep cX3_keep 4 none 3 := ⟨zt5 123 rfl rfl, zt1 8 (by decide +kernel) (by decide +kernel), ⟨(by decide +kernel), (by decide +kernel)⟩, (by decide +kernel), by decide⟩
theorem mv_X3_keep : zMv yX3_keep := ⟨zt5 121 (by decide +kernel) (by decide +kernel), zt5 122 (by decide +kernel) (by decide +kernel)⟩
theorem md_X4_init : zMd yX4_init cX4_init 1 none 0 := ⟨zt1 134 rfl rfl, zt1 4 (by decide +kernel) (by decide +kernel), ⟨(by decide +kernel), (by decide +kernel)⟩, (by decide +kernel), by decide⟩
theorem mi_X4_init : Cond.instanceMethod yX4_init ∈ zT := zt1 133 (by decide +kernel) (by decide +kernel)
theorem md_X4_isBroken : zMd yX4_isBroken cX4_isBroken 6 (some .boolean) 3 := ⟨zt3 58 rfl rfl, zt1 4 (by decide +kernel) (by decide +kernel), ⟨(by decide +kernel), (by decide +kernel)⟩, (by decide +kernel), by decide⟩
theorem mv_X4_isBroken : zMv yX4_isBroken := ⟨zt3 57 (by decide +kernel) (by decide +kernel), zp1 (q := (yX4_isBroken, 3)) 6 rfl rfl⟩
theorem md_X4_runs : zMd yX4_runs cX4_runs 9 (some .boolean) 2 := ⟨zt3 54 rfl rfl, zt1 4 (by decide +kernel) (by decide +kernel), ⟨(by decide +kernel), (by decide +kernel)⟩, (by decide +kernel), by decide⟩
theorem mv_X4_runs : zMv yX4_runs := ⟨zt3 52 (by decide +kernel) (by decide +kernel), zt3 53 (by decide +kernel) (by decide +kernel)⟩
theorem md_X5_init : zMd yX5_init cX5_init 1 none 0 := ⟨zt2 30 rfl rfl, zt1 10 (by decide +kernel) (by decide +kernel), ⟨(by decide +kernel), (by decide +kernel)⟩, (by decide +kernel), by decide⟩
theorem mi_X5_init : Cond.instanceMethod yX5_init ∈ zT := zt2 29 (by decide +kernel) (by decide +kernel)
theorem md_X5_fails : zMd yX5_fails cX5_fails 1 (some .boolean) 0 := ⟨zt3 214 rfl rfl, zt1 10 (by decide +kernel) (by decide +kernel), ⟨(by decide +kernel), (by decide +kernel)⟩, (by decide +kernel), by decide⟩
theorem mv_X5_fails : zMv yX5_fails := ⟨zt3 213 (by decide +kernel) (by decide +kernel), zp1 (q := (yX5_fails, 5)) 13 rfl rfl⟩
theorem md_X5_lawClause : zMd yX5_lawClause cX5_lawClause 1 (some .boolean) 0 := ⟨zt4 15 rfl rfl, zt1 10 (by decide +kernel) (by decide +kernel), ⟨(by decide +kernel), (by decide +kernel)⟩, (by decide +kernel), by decide⟩
theorem mv_X5_lawClause : zMv yX5_lawClause := ⟨zt4 14 (by decide +kernel) (by decide +kernel), zp2 (q := (yX5_lawClause, 5)) 4 rfl rfl⟩
theorem md_X5_number : zMd yX5_number cX5_number 5 (some .boolean) 3 := ⟨zt4 7 rfl rfl, zt1 10 (by decide +kernel) (by decide +kernel), ⟨(by decide +kernel), (by decide +kernel)⟩, (by decide +kernel), by decide⟩
theorem mv_X5_number : zMv yX5_number := ⟨zt4 6 (by decide +kernel) (by decide +kernel), zp2 (q := (yX5_number, 5)) 2 rfl rfl⟩
theorem md_X5_numberWithin : zMd yX5_numberWithin cX5_numberWithin 4 (some .int) 2 := ⟨zt4 11 rfl rfl, zt1 10 (by decide +kernel) (by decide +kernel), ⟨(by decide +kernel), (by decide +kernel)⟩, (by decide +kernel), by decide⟩
theorem mv_X5_numberWithin : zMv yX5_numberWithin := ⟨zt4 10 (by decide +kernel) (by decide +kernel), zp2 (q := (yX5_numberWithin, 5)) 3 rfl rfl⟩
theorem md_X5_orderClause : zMd yX5_orderClause cX5_orderClause 3 (some .boolean) 0 := ⟨zt3 206 rfl rfl, zt1 10 (by decide +kernel) (by decide +kernel), ⟨(by decide +kernel), (by decide +kernel)⟩, (by decide +kernel), by decide⟩
theorem mv_X5_orderClause : zMv yX5_orderClause := ⟨zt3 205 (by decide +kernel) (by decide +kernel), zp1 (q := (yX5_orderClause, 5)) 11 rfl rfl⟩
theorem md_X5_part : zMd yX5_part cX5_part 3 (some .boolean) 1 := ⟨zt3 235 rfl rfl, zt1 10 (by decide +kernel) (by decide +kernel), ⟨(by decide +kernel), (by decide +kernel)⟩, (by decide +kernel), by decide⟩
theorem mv_X5_part : zMv yX5_part := ⟨zt3 234 (by decide +kernel) (by decide +kernel), zp2 (q := (yX5_part, 5)) 0 rfl rfl⟩
theorem md_X5_plain : zMd yX5_plain cX5_plain 4 (some .boolean) 1 := ⟨zt4 23 rfl rfl, zt1 10 (by decide +kernel) (by decide +kernel), ⟨(by decide +kernel), (by decide +kernel)⟩, (by decide +kernel), by decide⟩
theorem mv_X5_plain : zMv yX5_plain := ⟨zt4 22 (by decide +kernel) (by decide +kernel), zp2 (q := (yX5_plain, 5)) 6 rfl rfl⟩
theorem md_X5_present : zMd yX5_present cX5_present 1 (some .int) 0 := ⟨zt3 210 rfl rfl, zt1 10 (by decide +kernel) (by decide +kernel), ⟨(by decide +kernel), (by decide +kernel)⟩, (by decide +kernel), by decide⟩
theorem mv_X5_present : zMv yX5_present := ⟨zt3 209 (by decide +kernel) (by decide +kernel), zp1 (q := (yX5_present, 5)) 12 rfl rfl⟩
theorem md_X5_reads : zMd yX5_reads cX5_reads 4 (some .boolean) 2 := ⟨zt3 88 rfl rfl, zt1 10 (by decide +kernel) (by decide +kernel), ⟨(by decide +kernel), (by decide +kernel)⟩, (by decide +kernel), by decide⟩
theorem mv_X5_reads : zMv yX5_reads := ⟨zt3 86 (by decide +kernel) (by decide +kernel), zt3 87 (by decide +kernel) (by decide +kernel)⟩
theorem md_X5_sum : zMd yX5_sum cX5_sum 6 (some .boolean) 1 := ⟨zt3 231 rfl rfl, zt1 10 (by decide +kernel) (by decide +kernel), ⟨(by decide +kernel), (by decide +kernel)⟩, (by decide +kernel), by decide⟩
theorem mv_X5_sum : zMv yX5_sum := ⟨zt3 230 (by decide +kernel) (by decide +kernel), zp1 (q := (yX5_sum, 5)) 15 rfl rfl⟩
theorem md_X5_takes : zMd yX5_takes cX5_takes 3 (some .boolean) 1 := ⟨zt3 239 rfl rfl, zt1 10 (by decide +kernel) (by decide +kernel), ⟨(by decide +kernel), (by decide +kernel)⟩, (by decide +kernel), by decide⟩
theorem mv_X5_takes : zMv yX5_takes := ⟨zt3 238 (by decide +kernel) (by decide +kernel), zp2 (q := (yX5_takes, 5)) 1 rfl rfl⟩
theorem md_X5_test : zMd yX5_test cX5_test 6 (some .boolean) 1 := ⟨zt4 19 rfl rfl, zt1 10 (by decide +kernel) (by decide +kernel), ⟨(by decide +kernel), (by decide +kernel)⟩, (by decide +kernel), by decide⟩
theorem mv_X5_test : zMv yX5_test := ⟨zt4 18 (by decide +kernel) (by decide +kernel), zp2 (q := (yX5_test, 5)) 5 rfl rfl⟩
theorem md_X5_wholeSum : zMd yX5_wholeSum cX5_wholeSum 2 (some .boolean) 1 := ⟨zt3 226 rfl rfl, zt1 10 (by decide +kernel) (by decide +kernel), ⟨(by decide +kernel), (by decide +kernel)⟩, (by decide +kernel), by decide⟩
theorem mv_X5_wholeSum : zMv yX5_wholeSum := ⟨zt3 225 (by decide +kernel) (by decide +kernel), zp1 (q := (yX5_wholeSum, 5)) 14 rfl rfl⟩
theorem md_X6_init : zMd yX6_init cX6_init 2 none 1 := ⟨zt1 155 rfl rfl, zt1 5 (by decide +kernel) (by decide +kernel), ⟨(by decide +kernel), (by decide +kernel)⟩, (by decide +kernel), by decide⟩
theorem mi_X6_init : Cond.instanceMethod yX6_init ∈ zT := zt1 154 (by decide +kernel) (by decide +kernel)
theorem md_X6_addLaw : zMd yX6_addLaw cX6_addLaw 2 (some .int) 1 := ⟨zt4 40 rfl rfl, zt1 5 (by decide +kernel) (by decide +kernel), ⟨(by decide +kernel), (by decide +kernel)⟩, (by decide +kernel), by decide⟩
theorem mv_X6_addLaw : zMv yX6_addLaw := ⟨zt4 38 (by decide +kernel) (by decide +kernel), zt4 39 (by decide +kernel) (by decide +kernel)⟩
theorem md_X6_bars : zMd yX6_bars cX6_bars 5 (some .boolean) 2 := ⟨zt3 34 rfl rfl, zt1 5 (by decide +kernel) (by decide +kernel), ⟨(by decide +kernel), (by decide +kernel)⟩, (by decide +kernel), by decide⟩
theorem mv_X6_bars : zMv yX6_bars := ⟨zt3 32 (by decide +kernel) (by decide +kernel), zt3 33 (by decide +kernel) (by decide +kernel)⟩
theorem md_X6_copyFrom : zMd yX6_copyFrom cX6_copyFrom 3 none 1 := ⟨zt5 128 rfl rfl, zt1 5 (by decide +kernel) (by decide +kernel), ⟨(by decide +kernel), (by decide +kernel)⟩, (by decide +kernel), by decide⟩
theorem mv_X6_copyFrom : zMv yX6_copyFrom := ⟨zt5 126 (by decide +kernel) (by decide +kernel), zt5 127 (by decide +kernel) (by decide +kernel)⟩
theorem md_X6_costOf : zMd yX6_costOf cX6_costOf 9 (some .int) 4 := ⟨zt4 142 rfl rfl, zt1 5 (by decide +kernel) (by decide +kernel), ⟨(by decide +kernel), (by decide +kernel)⟩, (by decide +kernel), by decide⟩
theorem mv_X6_costOf : zMv yX6_costOf := ⟨zt4 140 (by decide +kernel) (by decide +kernel), zt4 141 (by decide +kernel) (by decide +kernel)⟩
theorem md_X6_hasLaw : zMd yX6_hasLaw cX6_hasLaw 2 (some .boolean) 1 := ⟨zt4 191 rfl rfl, zt1 5 (by decide +kernel) (by decide +kernel), ⟨(by decide +kernel), (by decide +kernel)⟩, (by decide +kernel), by decide⟩
theorem mv_X6_hasLaw : zMv yX6_hasLaw := ⟨zt4 189 (by decide +kernel) (by decide +kernel), zt4 190 (by decide +kernel) (by decide +kernel)⟩
theorem md_X6_lawAt : zMd yX6_lawAt cX6_lawAt 2 (some (.object "GraceTree$Text")) 1 := ⟨zt3 38 rfl rfl, zt1 5 (by decide +kernel) (by decide +kernel), ⟨(by decide +kernel), (by decide +kernel)⟩, (by decide +kernel), by decide⟩
theorem mv_X6_lawAt : zMv yX6_lawAt := ⟨zt3 36 (by decide +kernel) (by decide +kernel), zt3 37 (by decide +kernel) (by decide +kernel)⟩
theorem md_X6_tellWhat : zMd yX6_tellWhat cX6_tellWhat 3 none 2 := ⟨zt3 46 rfl rfl, zt1 5 (by decide +kernel) (by decide +kernel), ⟨(by decide +kernel), (by decide +kernel)⟩, (by decide +kernel), by decide⟩
theorem mv_X6_tellWhat : zMv yX6_tellWhat := ⟨zt3 45 (by decide +kernel) (by decide +kernel), zp1 (q := (yX6_tellWhat, 6)) 5 rfl rfl⟩
theorem md_X6_tellWhere : zMd yX6_tellWhere cX6_tellWhere 5 none 4 := ⟨zt3 42 rfl rfl, zt1 5 (by decide +kernel) (by decide +kernel), ⟨(by decide +kernel), (by decide +kernel)⟩, (by decide +kernel), by decide⟩
theorem mv_X6_tellWhere : zMv yX6_tellWhere := ⟨zt3 41 (by decide +kernel) (by decide +kernel), zp1 (q := (yX6_tellWhere, 6)) 4 rfl rfl⟩
theorem md_X7_init : zMd yX7_init cX7_init 1 none 0 := ⟨zt2 13 rfl rfl, zt1 9 (by decide +kernel) (by decide +kernel), ⟨(by decide +kernel), (by decide +kernel)⟩, (by decide +kernel), by decide⟩
theorem mi_X7_init : Cond.instanceMethod yX7_init ∈ zT := zt2 12 (by decide +kernel) (by decide +kernel)
theorem md_X7_addFour : zMd yX7_addFour cX7_addFour 3 none 1 := ⟨zt3 18 rfl rfl, zt1 9 (by decide +kernel) (by decide +kernel), ⟨(by decide +kernel), (by decide +kernel)⟩, (by decide +kernel), by decide⟩
theorem mv_X7_addFour : zMv yX7_addFour := ⟨zt3 16 (by decide +kernel) (by decide +kernel), zt3 17 (by decide +kernel) (by decide +kernel)⟩
theorem md_X8_init : zMd yX8_init cX8_init 3 none 2 := ⟨zt2 36 rfl rfl, zt1 11 (by decide +kernel) (by decide +kernel), ⟨(by decide +kernel), (by decide +kernel)⟩, (by decide +kernel), by decide⟩
theorem mi_X8_init : Cond.instanceMethod yX8_init ∈ zT := zt2 35 (by decide +kernel) (by decide +kernel)
theorem md_X8_addClause : zMd yX8_addClause cX8_addClause 2 none 1 := ⟨zt3 218 rfl rfl, zt1 11 (by decide +kernel) (by decide +kernel), ⟨(by decide +kernel), (by decide +kernel)⟩, (by decide +kernel), by decide⟩
theorem mv_X8_addClause : zMv yX8_addClause := ⟨zt3 216 (by decide +kernel) (by decide +kernel), zt3 217 (by decide +kernel) (by decide +kernel)⟩
theorem md_X8_addStep : zMd yX8_addStep cX8_addStep 3 (some .int) 2 := ⟨zt4 3 rfl rfl, zt1 11 (by decide +kernel) (by decide +kernel), ⟨(by decide +kernel), (by decide +kernel)⟩, (by decide +kernel), by decide⟩
theorem mv_X8_addStep : zMv yX8_addStep := ⟨zt4 1 (by decide +kernel) (by decide +kernel), zt4 2 (by decide +kernel) (by decide +kernel)⟩
theorem md_X8_clear : zMd yX8_clear cX8_clear 1 none 0 := ⟨zt3 202 rfl rfl, zt1 11 (by decide +kernel) (by decide +kernel), ⟨(by decide +kernel), (by decide +kernel)⟩, (by decide +kernel), by decide⟩
theorem mv_X8_clear : zMv yX8_clear := ⟨zt3 200 (by decide +kernel) (by decide +kernel), zt3 201 (by decide +kernel) (by decide +kernel)⟩
theorem md_X8_cutToSize : zMd yX8_cutToSize cX8_cutToSize 2 (some (.object "GraceTree$Text")) 0 := ⟨zt4 31 rfl rfl, zt1 11 (by decide +kernel) (by decide +kernel), ⟨(by decide +kernel), (by decide +kernel)⟩, (by decide +kernel), by decide⟩
theorem mv_X8_cutToSize : zMv yX8_cutToSize := ⟨zt4 29 (by decide +kernel) (by decide +kernel), zt4 30 (by decide +kernel) (by decide +kernel)⟩
theorem md_X8_entry : zMd yX8_entry cX8_entry 4 (some .int) 2 := ⟨zt3 50 rfl rfl, zt1 11 (by decide +kernel) (by decide +kernel), ⟨(by decide +kernel), (by decide +kernel)⟩, (by decide +kernel), by decide⟩
theorem mv_X8_entry : zMv yX8_entry := ⟨zt3 48 (by decide +kernel) (by decide +kernel), zt3 49 (by decide +kernel) (by decide +kernel)⟩
theorem md_X8_landHere : zMd yX8_landHere cX8_landHere 2 none 1 := ⟨zt4 27 rfl rfl, zt1 11 (by decide +kernel) (by decide +kernel), ⟨(by decide +kernel), (by decide +kernel)⟩, (by decide +kernel), by decide⟩
theorem mv_X8_landHere : zMv yX8_landHere := ⟨zt4 25 (by decide +kernel) (by decide +kernel), zt4 26 (by decide +kernel) (by decide +kernel)⟩
theorem md_X8_setEntry : zMd yX8_setEntry cX8_setEntry 4 none 2 := ⟨zt3 222 rfl rfl, zt1 11 (by decide +kernel) (by decide +kernel), ⟨(by decide +kernel), (by decide +kernel)⟩, (by decide +kernel), by decide⟩
theorem mv_X8_setEntry : zMv yX8_setEntry := ⟨zt3 220 (by decide +kernel) (by decide +kernel), zt3 221 (by decide +kernel) (by decide +kernel)⟩
theorem md_X9_init : zMd yX9_init cX9_init 1 none 0 := ⟨zt2 67 rfl rfl, zt1 13 (by decide +kernel) (by decide +kernel), ⟨(by decide +kernel), (by decide +kernel)⟩, (by decide +kernel), by decide⟩
theorem mi_X9_init : Cond.instanceMethod yX9_init ∈ zT := zt2 66 (by decide +kernel) (by decide +kernel)
theorem md_X9_actWord : zMd yX9_actWord cX9_actWord 3 (some .int) 3 := ⟨zt3 171 rfl rfl, zt1 13 (by decide +kernel) (by decide +kernel), ⟨(by decide +kernel), (by decide +kernel)⟩, (by decide +kernel), by decide⟩
theorem ms_X9_actWord : Cond.static yX9_actWord ∈ zT := zt3 170 (by decide +kernel) (by decide +kernel)
theorem md_X9_add : zMd yX9_add cX9_add 4 none 3 := ⟨zt3 194 rfl rfl, zt1 13 (by decide +kernel) (by decide +kernel), ⟨(by decide +kernel), (by decide +kernel)⟩, (by decide +kernel), by decide⟩
theorem mv_X9_add : zMv yX9_add := ⟨zt3 193 (by decide +kernel) (by decide +kernel), zp1 (q := (yX9_add, 4)) 10 rfl rfl⟩
theorem md_X9_byteAt : zMd yX9_byteAt cX9_byteAt 2 (some .int) 2 := ⟨zt3 95 rfl rfl, zt1 13 (by decide +kernel) (by decide +kernel), ⟨(by decide +kernel), (by decide +kernel)⟩, (by decide +kernel), by decide⟩
theorem ms_X9_byteAt : Cond.static yX9_byteAt ∈ zT := zt3 94 (by decide +kernel) (by decide +kernel)
theorem md_X9_isDigit : zMd yX9_isDigit cX9_isDigit 1 (some .boolean) 1 := ⟨zt3 197 rfl rfl, zt1 13 (by decide +kernel) (by decide +kernel), ⟨(by decide +kernel), (by decide +kernel)⟩, (by decide +kernel), by decide⟩
theorem ms_X9_isDigit : Cond.static yX9_isDigit ∈ zT := zt3 196 (by decide +kernel) (by decide +kernel)
theorem md_X9_isLetter : zMd yX9_isLetter cX9_isLetter 1 (some .boolean) 1 := ⟨zt3 98 rfl rfl, zt1 13 (by decide +kernel) (by decide +kernel), ⟨(by decide +kernel), (by decide +kernel)⟩, (by decide +kernel), by decide⟩
theorem ms_X9_isLetter : Cond.static yX9_isLetter ∈ zT := zt3 97 (by decide +kernel) (by decide +kernel)
theorem md_X9_lawWord : zMd yX9_lawWord cX9_lawWord 3 (some .int) 3 := ⟨zt3 159 rfl rfl, zt1 13 (by decide +kernel) (by decide +kernel), ⟨(by decide +kernel), (by decide +kernel)⟩, (by decide +kernel), by decide⟩
theorem ms_X9_lawWord : Cond.static yX9_lawWord ∈ zT := zt3 158 (by decide +kernel) (by decide +kernel)
theorem md_X9_orderWord : zMd yX9_orderWord cX9_orderWord 3 (some .int) 3 := ⟨zt3 182 rfl rfl, zt1 13 (by decide +kernel) (by decide +kernel), ⟨(by decide +kernel), (by decide +kernel)⟩, (by decide +kernel), by decide⟩
theorem ms_X9_orderWord : Cond.static yX9_orderWord ∈ zT := zt3 181 (by decide +kernel) (by decide +kernel)
theorem md_X9_same : zMd yX9_same cX9_same 5 (some .boolean) 4 := ⟨zt3 105 rfl rfl, zt1 13 (by decide +kernel) (by decide +kernel), ⟨(by decide +kernel), (by decide +kernel)⟩, (by decide +kernel), by decide⟩
theorem ms_X9_same : Cond.static yX9_same ∈ zT := zt3 104 (by decide +kernel) (by decide +kernel)
theorem md_X9_split : zMd yX9_split cX9_split 8 none 2 := ⟨zt3 92 rfl rfl, zt1 13 (by decide +kernel) (by decide +kernel), ⟨(by decide +kernel), (by decide +kernel)⟩, (by decide +kernel), by decide⟩
theorem mv_X9_split : zMv yX9_split := ⟨zt3 90 (by decide +kernel) (by decide +kernel), zt3 91 (by decide +kernel) (by decide +kernel)⟩
theorem md_X9_wordFrom : zMd yX9_wordFrom cX9_wordFrom 5 (some .int) 4 := ⟨zt3 101 rfl rfl, zt1 13 (by decide +kernel) (by decide +kernel), ⟨(by decide +kernel), (by decide +kernel)⟩, (by decide +kernel), by decide⟩
theorem ms_X9_wordFrom : Cond.static yX9_wordFrom ∈ zT := zt3 100 (by decide +kernel) (by decide +kernel)
theorem md_X10_init : zMd yX10_init cX10_init 1 none 0 := ⟨zt1 34 rfl rfl, zt1 2 (by decide +kernel) (by decide +kernel), ⟨(by decide +kernel), (by decide +kernel)⟩, (by decide +kernel), by decide⟩
theorem mi_X10_init : Cond.instanceMethod yX10_init ∈ zT := zt1 33 (by decide +kernel) (by decide +kernel)
theorem md_X10_act : zMd yX10_act cX10_act 5 (some .int) 4 := ⟨zt4 89 rfl rfl, zt1 2 (by decide +kernel) (by decide +kernel), ⟨(by decide +kernel), (by decide +kernel)⟩, (by decide +kernel), by decide⟩
theorem mv_X10_act : zMv yX10_act := ⟨zt4 87 (by decide +kernel) (by decide +kernel), zt4 88 (by decide +kernel) (by decide +kernel)⟩
theorem md_X10_beQuiet : zMd yX10_beQuiet cX10_beQuiet 4 (some .int) 2 := ⟨zt4 171 rfl rfl, zt1 2 (by decide +kernel) (by decide +kernel), ⟨(by decide +kernel), (by decide +kernel)⟩, (by decide +kernel), by decide⟩
theorem mv_X10_beQuiet : zMv yX10_beQuiet := ⟨zt4 169 (by decide +kernel) (by decide +kernel), zt4 170 (by decide +kernel) (by decide +kernel)⟩
theorem md_X10_cellOf : zMd yX10_cellOf cX10_cellOf 3 (some .int) 1 := ⟨zt2 180 rfl rfl, zt1 2 (by decide +kernel) (by decide +kernel), ⟨(by decide +kernel), (by decide +kernel)⟩, (by decide +kernel), by decide⟩
theorem mv_X10_cellOf : zMv yX10_cellOf := ⟨zt2 178 (by decide +kernel) (by decide +kernel), zt2 179 (by decide +kernel) (by decide +kernel)⟩
theorem md_X10_copyFrom : zMd yX10_copyFrom cX10_copyFrom 2 none 1 := ⟨zt4 49 rfl rfl, zt1 2 (by decide +kernel) (by decide +kernel), ⟨(by decide +kernel), (by decide +kernel)⟩, (by decide +kernel), by decide⟩
theorem mv_X10_copyFrom : zMv yX10_copyFrom := ⟨zt4 47 (by decide +kernel) (by decide +kernel), zt4 48 (by decide +kernel) (by decide +kernel)⟩
theorem md_X10_dropKey : zMd yX10_dropKey cX10_dropKey 2 (some .int) 1 := ⟨zt4 94 rfl rfl, zt1 2 (by decide +kernel) (by decide +kernel), ⟨(by decide +kernel), (by decide +kernel)⟩, (by decide +kernel), by decide⟩
theorem mv_X10_dropKey : zMv yX10_dropKey := ⟨zt4 92 (by decide +kernel) (by decide +kernel), zt4 93 (by decide +kernel) (by decide +kernel)⟩
theorem md_X10_endGrace : zMd yX10_endGrace cX10_endGrace 2 (some .int) 0 := ⟨zt4 153 rfl rfl, zt1 2 (by decide +kernel) (by decide +kernel), ⟨(by decide +kernel), (by decide +kernel)⟩, (by decide +kernel), by decide⟩
theorem mv_X10_endGrace : zMv yX10_endGrace := ⟨zt4 152 (by decide +kernel) (by decide +kernel), zp2 (q := (yX10_endGrace, 10)) 12 rfl rfl⟩
theorem md_X10_goIn : zMd yX10_goIn cX10_goIn 3 (some .int) 1 := ⟨zt4 102 rfl rfl, zt1 2 (by decide +kernel) (by decide +kernel), ⟨(by decide +kernel), (by decide +kernel)⟩, (by decide +kernel), by decide⟩
theorem mv_X10_goIn : zMv yX10_goIn := ⟨zt4 100 (by decide +kernel) (by decide +kernel), zt4 101 (by decide +kernel) (by decide +kernel)⟩
theorem md_X10_goOn : zMd yX10_goOn cX10_goOn 3 (some .int) 1 := ⟨zt4 106 rfl rfl, zt1 2 (by decide +kernel) (by decide +kernel), ⟨(by decide +kernel), (by decide +kernel)⟩, (by decide +kernel), by decide⟩
theorem mv_X10_goOn : zMv yX10_goOn := ⟨zt4 104 (by decide +kernel) (by decide +kernel), zt4 105 (by decide +kernel) (by decide +kernel)⟩
theorem md_X10_goOut : zMd yX10_goOut cX10_goOut 6 (some .int) 2 := ⟨zt4 129 rfl rfl, zt1 2 (by decide +kernel) (by decide +kernel), ⟨(by decide +kernel), (by decide +kernel)⟩, (by decide +kernel), by decide⟩
theorem mv_X10_goOut : zMv yX10_goOut := ⟨zt4 127 (by decide +kernel) (by decide +kernel), zt4 128 (by decide +kernel) (by decide +kernel)⟩
theorem md_X10_gracesEnded : zMd yX10_gracesEnded cX10_gracesEnded 1 (some .int) 0 := ⟨zt5 100 rfl rfl, zt1 2 (by decide +kernel) (by decide +kernel), ⟨(by decide +kernel), (by decide +kernel)⟩, (by decide +kernel), by decide⟩
theorem mv_X10_gracesEnded : zMv yX10_gracesEnded := ⟨zt5 98 (by decide +kernel) (by decide +kernel), zt5 99 (by decide +kernel) (by decide +kernel)⟩
theorem md_X10_hurryGrace : zMd yX10_hurryGrace cX10_hurryGrace 5 (some .int) 1 := ⟨zt5 2 rfl rfl, zt1 2 (by decide +kernel) (by decide +kernel), ⟨(by decide +kernel), (by decide +kernel)⟩, (by decide +kernel), by decide⟩
theorem mv_X10_hurryGrace : zMv yX10_hurryGrace := ⟨zt5 0 (by decide +kernel) (by decide +kernel), zt5 1 (by decide +kernel) (by decide +kernel)⟩
theorem md_X10_isQuiet : zMd yX10_isQuiet cX10_isQuiet 3 (some .boolean) 1 := ⟨zt4 133 rfl rfl, zt1 2 (by decide +kernel) (by decide +kernel), ⟨(by decide +kernel), (by decide +kernel)⟩, (by decide +kernel), by decide⟩
theorem mv_X10_isQuiet : zMv yX10_isQuiet := ⟨zt4 132 (by decide +kernel) (by decide +kernel), zp2 (q := (yX10_isQuiet, 10)) 10 rfl rfl⟩
theorem md_X10_leafOf : zMd yX10_leafOf cX10_leafOf 1 (some .int) 1 := ⟨zt4 116 rfl rfl, zt1 2 (by decide +kernel) (by decide +kernel), ⟨(by decide +kernel), (by decide +kernel)⟩, (by decide +kernel), by decide⟩
theorem ms_X10_leafOf : Cond.static yX10_leafOf ∈ zT := zt4 115 (by decide +kernel) (by decide +kernel)
theorem md_X10_processorsOf : zMd yX10_processorsOf cX10_processorsOf 1 (some .int) 1 := ⟨zt4 119 rfl rfl, zt1 2 (by decide +kernel) (by decide +kernel), ⟨(by decide +kernel), (by decide +kernel)⟩, (by decide +kernel), by decide⟩
theorem ms_X10_processorsOf : Cond.static yX10_processorsOf ∈ zT := zt4 118 (by decide +kernel) (by decide +kernel)
theorem md_X10_putKey : zMd yX10_putKey cX10_putKey 4 (some .int) 3 := ⟨zt3 30 rfl rfl, zt1 2 (by decide +kernel) (by decide +kernel), ⟨(by decide +kernel), (by decide +kernel)⟩, (by decide +kernel), by decide⟩
theorem mv_X10_putKey : zMv yX10_putKey := ⟨zt3 28 (by decide +kernel) (by decide +kernel), zt3 29 (by decide +kernel) (by decide +kernel)⟩
theorem md_X10_report : zMd yX10_report cX10_report 6 (some .int) 3 := ⟨zt4 137 rfl rfl, zt1 2 (by decide +kernel) (by decide +kernel), ⟨(by decide +kernel), (by decide +kernel)⟩, (by decide +kernel), by decide⟩
theorem mv_X10_report : zMv yX10_report := ⟨zt4 136 (by decide +kernel) (by decide +kernel), zp2 (q := (yX10_report, 10)) 11 rfl rfl⟩
theorem md_X10_standStill : zMd yX10_standStill cX10_standStill 3 (some .int) 1 := ⟨zt4 112 rfl rfl, zt1 2 (by decide +kernel) (by decide +kernel), ⟨(by decide +kernel), (by decide +kernel)⟩, (by decide +kernel), by decide⟩
theorem mv_X10_standStill : zMv yX10_standStill := ⟨zt4 110 (by decide +kernel) (by decide +kernel), zt4 111 (by decide +kernel) (by decide +kernel)⟩
theorem md_X10_startGrace : zMd yX10_startGrace cX10_startGrace 1 (some .int) 0 := ⟨zt4 162 rfl rfl, zt1 2 (by decide +kernel) (by decide +kernel), ⟨(by decide +kernel), (by decide +kernel)⟩, (by decide +kernel), by decide⟩
theorem mv_X10_startGrace : zMv yX10_startGrace := ⟨zt4 160 (by decide +kernel) (by decide +kernel), zt4 161 (by decide +kernel) (by decide +kernel)⟩
theorem md_X10_unreported : zMd yX10_unreported cX10_unreported 1 (some .int) 0 := ⟨zt2 185 rfl rfl, zt1 2 (by decide +kernel) (by decide +kernel), ⟨(by decide +kernel), (by decide +kernel)⟩, (by decide +kernel), by decide⟩
theorem mv_X10_unreported : zMv yX10_unreported := ⟨zt2 183 (by decide +kernel) (by decide +kernel), zt2 184 (by decide +kernel) (by decide +kernel)⟩
theorem md_X10_whyLeaf : zMd yX10_whyLeaf cX10_whyLeaf 4 (some .int) 1 := ⟨zt5 35 rfl rfl, zt1 2 (by decide +kernel) (by decide +kernel), ⟨(by decide +kernel), (by decide +kernel)⟩, (by decide +kernel), by decide⟩
theorem mv_X10_whyLeaf : zMv yX10_whyLeaf := ⟨zt5 33 (by decide +kernel) (by decide +kernel), zt5 34 (by decide +kernel) (by decide +kernel)⟩
theorem md_X12_init : zMd yX12_init cX12_init 1 none 0 := ⟨zt5 158 rfl rfl, zt1 15 (by decide +kernel) (by decide +kernel), ⟨(by decide +kernel), (by decide +kernel)⟩, (by decide +kernel), by decide⟩
theorem mi_X12_init : Cond.instanceMethod yX12_init ∈ zT := zt5 157 (by decide +kernel) (by decide +kernel)
theorem md_X12_acts : zMd yX12_acts cX12_acts 4 (some .int) 3 := ⟨zt7 127 rfl rfl, zt1 15 (by decide +kernel) (by decide +kernel), ⟨(by decide +kernel), (by decide +kernel)⟩, (by decide +kernel), by decide⟩
theorem mv_X12_acts : zMv yX12_acts := ⟨zt7 126 (by decide +kernel) (by decide +kernel), zp6 (q := (yX12_acts, 43)) 2 rfl rfl⟩
theorem md_X12_actsKept : zMd yX12_actsKept cX12_actsKept 4 (some .int) 3 := ⟨zt7 119 rfl rfl, zt1 15 (by decide +kernel) (by decide +kernel), ⟨(by decide +kernel), (by decide +kernel)⟩, (by decide +kernel), by decide⟩
theorem mv_X12_actsKept : zMv yX12_actsKept := ⟨zt7 118 (by decide +kernel) (by decide +kernel), zp6 (q := (yX12_actsKept, 43)) 0 rfl rfl⟩
theorem md_X12_ages : zMd yX12_ages cX12_ages 2 none 1 := ⟨zt6 228 rfl rfl, zt1 15 (by decide +kernel) (by decide +kernel), ⟨(by decide +kernel), (by decide +kernel)⟩, (by decide +kernel), by decide⟩
theorem mv_X12_ages : zMv yX12_ages := ⟨zt6 227 (by decide +kernel) (by decide +kernel), zp4 (q := (yX12_ages, 43)) 9 rfl rfl⟩
theorem md_X12_ask : zMd yX12_ask cX12_ask 7 (some .int) 1 := ⟨zt8 49 rfl rfl, zt1 15 (by decide +kernel) (by decide +kernel), ⟨(by decide +kernel), (by decide +kernel)⟩, (by decide +kernel), by decide⟩
theorem mv_X12_ask : zMv yX12_ask := ⟨zt8 47 (by decide +kernel) (by decide +kernel), zt8 48 (by decide +kernel) (by decide +kernel)⟩
theorem md_X12_back : zMd yX12_back cX12_back 3 (some .int) 1 := ⟨zt6 69 rfl rfl, zt1 15 (by decide +kernel) (by decide +kernel), ⟨(by decide +kernel), (by decide +kernel)⟩, (by decide +kernel), by decide⟩
theorem mv_X12_back : zMv yX12_back := ⟨zt6 67 (by decide +kernel) (by decide +kernel), zt6 68 (by decide +kernel) (by decide +kernel)⟩
theorem md_X12_begin : zMd yX12_begin cX12_begin 1 (some .int) 0 := ⟨zt7 233 rfl rfl, zt1 15 (by decide +kernel) (by decide +kernel), ⟨(by decide +kernel), (by decide +kernel)⟩, (by decide +kernel), by decide⟩
theorem mv_X12_begin : zMv yX12_begin := ⟨zt7 231 (by decide +kernel) (by decide +kernel), zt7 232 (by decide +kernel) (by decide +kernel)⟩
theorem md_X12_begins : zMd yX12_begins cX12_begins 2 none 0 := ⟨zt7 181 rfl rfl, zt1 15 (by decide +kernel) (by decide +kernel), ⟨(by decide +kernel), (by decide +kernel)⟩, (by decide +kernel), by decide⟩
theorem mv_X12_begins : zMv yX12_begins := ⟨zt7 180 (by decide +kernel) (by decide +kernel), zp6 (q := (yX12_begins, 43)) 14 rfl rfl⟩
theorem md_X12_beginsOr : zMd yX12_beginsOr cX12_beginsOr 1 (some .int) 0 := ⟨zt7 193 rfl rfl, zt1 15 (by decide +kernel) (by decide +kernel), ⟨(by decide +kernel), (by decide +kernel)⟩, (by decide +kernel), by decide⟩
theorem mv_X12_beginsOr : zMv yX12_beginsOr := ⟨zt7 192 (by decide +kernel) (by decide +kernel), zp7 (q := (yX12_beginsOr, 43)) 1 rfl rfl⟩
theorem md_X12_behindNode : zMd yX12_behindNode cX12_behindNode 4 (some .int) 1 := ⟨zt8 21 rfl rfl, zt1 15 (by decide +kernel) (by decide +kernel), ⟨(by decide +kernel), (by decide +kernel)⟩, (by decide +kernel), by decide⟩
theorem mv_X12_behindNode : zMv yX12_behindNode := ⟨zt8 20 (by decide +kernel) (by decide +kernel), zp7 (q := (yX12_behindNode, 43)) 6 rfl rfl⟩
theorem md_X12_bothOf : zMd yX12_bothOf cX12_bothOf 4 (some .boolean) 1 := ⟨zt6 207 rfl rfl, zt1 15 (by decide +kernel) (by decide +kernel), ⟨(by decide +kernel), (by decide +kernel)⟩, (by decide +kernel), by decide⟩
theorem mv_X12_bothOf : zMv yX12_bothOf := ⟨zt6 206 (by decide +kernel) (by decide +kernel), zp4 (q := (yX12_bothOf, 43)) 4 rfl rfl⟩
theorem md_X12_bounded : zMd yX12_bounded cX12_bounded 4 (some .long) 2 := ⟨zt6 197 rfl rfl, zt1 15 (by decide +kernel) (by decide +kernel), ⟨(by decide +kernel), (by decide +kernel)⟩, (by decide +kernel), by decide⟩
theorem mv_X12_bounded : zMv yX12_bounded := ⟨zt6 196 (by decide +kernel) (by decide +kernel), zp4 (q := (yX12_bounded, 43)) 2 rfl rfl⟩
theorem md_X12_canBe : zMd yX12_canBe cX12_canBe 1 (some .int) 0 := ⟨zt8 37 rfl rfl, zt1 15 (by decide +kernel) (by decide +kernel), ⟨(by decide +kernel), (by decide +kernel)⟩, (by decide +kernel), by decide⟩
theorem mv_X12_canBe : zMv yX12_canBe := ⟨zt8 35 (by decide +kernel) (by decide +kernel), zt8 36 (by decide +kernel) (by decide +kernel)⟩
theorem md_X12_canBeNow : zMd yX12_canBeNow cX12_canBeNow 5 (some .int) 0 := ⟨zt8 41 rfl rfl, zt1 15 (by decide +kernel) (by decide +kernel), ⟨(by decide +kernel), (by decide +kernel)⟩, (by decide +kernel), by decide⟩
theorem mv_X12_canBeNow : zMv yX12_canBeNow := ⟨zt8 40 (by decide +kernel) (by decide +kernel), zp7 (q := (yX12_canBeNow, 43)) 7 rfl rfl⟩
theorem md_X12_canTick : zMd yX12_canTick cX12_canTick 2 (some .boolean) 1 := ⟨zt7 189 rfl rfl, zt1 15 (by decide +kernel) (by decide +kernel), ⟨(by decide +kernel), (by decide +kernel)⟩, (by decide +kernel), by decide⟩
theorem mv_X12_canTick : zMv yX12_canTick := ⟨zt7 188 (by decide +kernel) (by decide +kernel), zp7 (q := (yX12_canTick, 43)) 0 rfl rfl⟩
theorem md_X12_cell : zMd yX12_cell cX12_cell 3 (some .int) 2 := ⟨zt6 106 rfl rfl, zt1 15 (by decide +kernel) (by decide +kernel), ⟨(by decide +kernel), (by decide +kernel)⟩, (by decide +kernel), by decide⟩
