theorem mv_X12_cell : zMv yX12_cell := ⟨zt6 104 (by decide +kernel) (by decide +kernel), zt6 105 (by decide +kernel) (by decide +kernel)⟩
theorem md_X12_cellOf : zMd yX12_cellOf cX12_cellOf 2 (some .int) 1 := ⟨zt6 84 rfl rfl, zt1 15 (by decide +kernel) (by decide +kernel), ⟨(by decide +kernel), (by decide +kernel)⟩, (by decide +kernel), by decide⟩
theorem mv_X12_cellOf : zMv yX12_cellOf := ⟨zt6 83 (by decide +kernel) (by decide +kernel), zp3 (q := (yX12_cellOf, 43)) 2 rfl rfl⟩
theorem md_X12_cellWith : zMd yX12_cellWith cX12_cellWith 3 (some .int) 1 := ⟨zt6 128 rfl rfl, zt1 15 (by decide +kernel) (by decide +kernel), ⟨(by decide +kernel), (by decide +kernel)⟩, (by decide +kernel), by decide⟩
theorem mv_X12_cellWith : zMv yX12_cellWith := ⟨zt6 127 (by decide +kernel) (by decide +kernel), zp3 (q := (yX12_cellWith, 43)) 7 rfl rfl⟩
theorem md_X12_codeAt : zMd yX12_codeAt cX12_codeAt 2 (some .int) 1 := ⟨zt6 170 rfl rfl, zt1 15 (by decide +kernel) (by decide +kernel), ⟨(by decide +kernel), (by decide +kernel)⟩, (by decide +kernel), by decide⟩
theorem mv_X12_codeAt : zMv yX12_codeAt := ⟨zt6 169 (by decide +kernel) (by decide +kernel), zp3 (q := (yX12_codeAt, 43)) 12 rfl rfl⟩
theorem md_X12_compare : zMd yX12_compare cX12_compare 6 (some .int) 3 := ⟨zt8 67 rfl rfl, zt1 15 (by decide +kernel) (by decide +kernel), ⟨(by decide +kernel), (by decide +kernel)⟩, (by decide +kernel), by decide⟩
theorem mv_X12_compare : zMv yX12_compare := ⟨zt8 65 (by decide +kernel) (by decide +kernel), zt8 66 (by decide +kernel) (by decide +kernel)⟩
theorem md_X12_costsAt : zMd yX12_costsAt cX12_costsAt 3 (some .int) 2 := ⟨zt7 167 rfl rfl, zt1 15 (by decide +kernel) (by decide +kernel), ⟨(by decide +kernel), (by decide +kernel)⟩, (by decide +kernel), by decide⟩
theorem mv_X12_costsAt : zMv yX12_costsAt := ⟨zt7 166 (by decide +kernel) (by decide +kernel), zp6 (q := (yX12_costsAt, 43)) 12 rfl rfl⟩
theorem md_X12_count : zMd yX12_count cX12_count 2 (some .int) 1 := ⟨zt8 122 rfl rfl, zt1 15 (by decide +kernel) (by decide +kernel), ⟨(by decide +kernel), (by decide +kernel)⟩, (by decide +kernel), by decide⟩
theorem mv_X12_count : zMv yX12_count := ⟨zt8 120 (by decide +kernel) (by decide +kernel), zt8 121 (by decide +kernel) (by decide +kernel)⟩
theorem md_X12_days : zMd yX12_days cX12_days 6 (some .int) 2 := ⟨zt8 99 rfl rfl, zt1 15 (by decide +kernel) (by decide +kernel), ⟨(by decide +kernel), (by decide +kernel)⟩, (by decide +kernel), by decide⟩
theorem mv_X12_days : zMv yX12_days := ⟨zt8 97 (by decide +kernel) (by decide +kernel), zt8 98 (by decide +kernel) (by decide +kernel)⟩
theorem md_X12_drawn : zMd yX12_drawn cX12_drawn 2 (some .int) 1 := ⟨zt8 118 rfl rfl, zt1 15 (by decide +kernel) (by decide +kernel), ⟨(by decide +kernel), (by decide +kernel)⟩, (by decide +kernel), by decide⟩
theorem mv_X12_drawn : zMv yX12_drawn := ⟨zt8 116 (by decide +kernel) (by decide +kernel), zt8 117 (by decide +kernel) (by decide +kernel)⟩
theorem md_X12_drawnAct : zMd yX12_drawnAct cX12_drawnAct 4 none 0 := ⟨zt8 107 rfl rfl, zt1 15 (by decide +kernel) (by decide +kernel), ⟨(by decide +kernel), (by decide +kernel)⟩, (by decide +kernel), by decide⟩
theorem mv_X12_drawnAct : zMv yX12_drawnAct := ⟨zt8 106 (by decide +kernel) (by decide +kernel), zp7 (q := (yX12_drawnAct, 43)) 15 rfl rfl⟩
theorem md_X12_draws : zMd yX12_draws cX12_draws 2 (some .int) 1 := ⟨zt8 111 rfl rfl, zt1 15 (by decide +kernel) (by decide +kernel), ⟨(by decide +kernel), (by decide +kernel)⟩, (by decide +kernel), by decide⟩
theorem mv_X12_draws : zMv yX12_draws := ⟨zt8 110 (by decide +kernel) (by decide +kernel), zp8 (q := (yX12_draws, 43)) 0 rfl rfl⟩
theorem md_X12_drop : zMd yX12_drop cX12_drop 2 (some .int) 1 := ⟨zt7 209 rfl rfl, zt1 15 (by decide +kernel) (by decide +kernel), ⟨(by decide +kernel), (by decide +kernel)⟩, (by decide +kernel), by decide⟩
theorem mv_X12_drop : zMv yX12_drop := ⟨zt7 207 (by decide +kernel) (by decide +kernel), zt7 208 (by decide +kernel) (by decide +kernel)⟩
theorem md_X12_drops : zMd yX12_drops cX12_drops 4 (some .int) 1 := ⟨zt7 131 rfl rfl, zt1 15 (by decide +kernel) (by decide +kernel), ⟨(by decide +kernel), (by decide +kernel)⟩, (by decide +kernel), by decide⟩
theorem mv_X12_drops : zMv yX12_drops := ⟨zt7 130 (by decide +kernel) (by decide +kernel), zp6 (q := (yX12_drops, 43)) 3 rfl rfl⟩
theorem md_X12_end : zMd yX12_end cX12_end 2 (some .int) 1 := ⟨zt7 0 rfl rfl, zt1 15 (by decide +kernel) (by decide +kernel), ⟨(by decide +kernel), (by decide +kernel)⟩, (by decide +kernel), by decide⟩
theorem mv_X12_end : zMv yX12_end := ⟨zt6 238 (by decide +kernel) (by decide +kernel), zt6 239 (by decide +kernel) (by decide +kernel)⟩
theorem md_X12_endedMany : zMd yX12_endedMany cX12_endedMany 1 (some .int) 0 := ⟨zt8 103 rfl rfl, zt1 15 (by decide +kernel) (by decide +kernel), ⟨(by decide +kernel), (by decide +kernel)⟩, (by decide +kernel), by decide⟩
theorem mv_X12_endedMany : zMv yX12_endedMany := ⟨zt8 102 (by decide +kernel) (by decide +kernel), zp7 (q := (yX12_endedMany, 43)) 14 rfl rfl⟩
theorem md_X12_endsNow : zMd yX12_endsNow cX12_endsNow 3 (some .int) 0 := ⟨zt7 174 rfl rfl, zt1 15 (by decide +kernel) (by decide +kernel), ⟨(by decide +kernel), (by decide +kernel)⟩, (by decide +kernel), by decide⟩
theorem mv_X12_endsNow : zMv yX12_endsNow := ⟨zt7 173 (by decide +kernel) (by decide +kernel), zp6 (q := (yX12_endsNow, 43)) 13 rfl rfl⟩
theorem md_X12_enter : zMd yX12_enter cX12_enter 2 (some .int) 1 := ⟨zt7 213 rfl rfl, zt1 15 (by decide +kernel) (by decide +kernel), ⟨(by decide +kernel), (by decide +kernel)⟩, (by decide +kernel), by decide⟩
theorem mv_X12_enter : zMv yX12_enter := ⟨zt7 211 (by decide +kernel) (by decide +kernel), zt7 212 (by decide +kernel) (by decide +kernel)⟩
theorem md_X12_enters : zMd yX12_enters cX12_enters 2 (some .int) 1 := ⟨zt7 135 rfl rfl, zt1 15 (by decide +kernel) (by decide +kernel), ⟨(by decide +kernel), (by decide +kernel)⟩, (by decide +kernel), by decide⟩
theorem mv_X12_enters : zMv yX12_enters := ⟨zt7 134 (by decide +kernel) (by decide +kernel), zp6 (q := (yX12_enters, 43)) 4 rfl rfl⟩
theorem md_X12_factOf : zMd yX12_factOf cX12_factOf 3 (some .int) 2 := ⟨zt8 45 rfl rfl, zt1 15 (by decide +kernel) (by decide +kernel), ⟨(by decide +kernel), (by decide +kernel)⟩, (by decide +kernel), by decide⟩
theorem mv_X12_factOf : zMv yX12_factOf := ⟨zt8 44 (by decide +kernel) (by decide +kernel), zp7 (q := (yX12_factOf, 43)) 8 rfl rfl⟩
theorem md_X12_fault : zMd yX12_fault cX12_fault 1 (some .int) 0 := ⟨zt7 99 rfl rfl, zt1 15 (by decide +kernel) (by decide +kernel), ⟨(by decide +kernel), (by decide +kernel)⟩, (by decide +kernel), by decide⟩
theorem mv_X12_fault : zMv yX12_fault := ⟨zt7 97 (by decide +kernel) (by decide +kernel), zt7 98 (by decide +kernel) (by decide +kernel)⟩
theorem md_X12_faults : zMd yX12_faults cX12_faults 1 none 0 := ⟨zt7 59 rfl rfl, zt1 15 (by decide +kernel) (by decide +kernel), ⟨(by decide +kernel), (by decide +kernel)⟩, (by decide +kernel), by decide⟩
theorem mv_X12_faults : zMv yX12_faults := ⟨zt7 58 (by decide +kernel) (by decide +kernel), zp5 (q := (yX12_faults, 43)) 5 rfl rfl⟩
theorem md_X12_feed : zMd yX12_feed cX12_feed 7 (some .int) 5 := ⟨zt6 236 rfl rfl, zt1 15 (by decide +kernel) (by decide +kernel), ⟨(by decide +kernel), (by decide +kernel)⟩, (by decide +kernel), by decide⟩
theorem mv_X12_feed : zMv yX12_feed := ⟨zt6 234 (by decide +kernel) (by decide +kernel), zt6 235 (by decide +kernel) (by decide +kernel)⟩
theorem md_X12_few : zMd yX12_few cX12_few 6 (some .long) 2 := ⟨zt8 60 rfl rfl, zt1 15 (by decide +kernel) (by decide +kernel), ⟨(by decide +kernel), (by decide +kernel)⟩, (by decide +kernel), by decide⟩
theorem mv_X12_few : zMv yX12_few := ⟨zt8 58 (by decide +kernel) (by decide +kernel), zt8 59 (by decide +kernel) (by decide +kernel)⟩
theorem md_X12_find : zMd yX12_find cX12_find 2 (some .int) 1 := ⟨zt6 117 rfl rfl, zt1 15 (by decide +kernel) (by decide +kernel), ⟨(by decide +kernel), (by decide +kernel)⟩, (by decide +kernel), by decide⟩
theorem mv_X12_find : zMv yX12_find := ⟨zt6 115 (by decide +kernel) (by decide +kernel), zt6 116 (by decide +kernel) (by decide +kernel)⟩
theorem md_X12_fine : zMd yX12_fine cX12_fine 1 (some .boolean) 0 := ⟨zt7 43 rfl rfl, zt1 15 (by decide +kernel) (by decide +kernel), ⟨(by decide +kernel), (by decide +kernel)⟩, (by decide +kernel), by decide⟩
theorem mv_X12_fine : zMv yX12_fine := ⟨zt7 42 (by decide +kernel) (by decide +kernel), zp5 (q := (yX12_fine, 43)) 1 rfl rfl⟩
theorem md_X12_force : zMd yX12_force cX12_force 3 (some .int) 1 := ⟨zt7 103 rfl rfl, zt1 15 (by decide +kernel) (by decide +kernel), ⟨(by decide +kernel), (by decide +kernel)⟩, (by decide +kernel), by decide⟩
theorem mv_X12_force : zMv yX12_force := ⟨zt7 101 (by decide +kernel) (by decide +kernel), zt7 102 (by decide +kernel) (by decide +kernel)⟩
theorem md_X12_forget : zMd yX12_forget cX12_forget 2 (some .int) 0 := ⟨zt8 33 rfl rfl, zt1 15 (by decide +kernel) (by decide +kernel), ⟨(by decide +kernel), (by decide +kernel)⟩, (by decide +kernel), by decide⟩
theorem mv_X12_forget : zMv yX12_forget := ⟨zt8 31 (by decide +kernel) (by decide +kernel), zt8 32 (by decide +kernel) (by decide +kernel)⟩
theorem md_X12_goesAlong : zMd yX12_goesAlong cX12_goesAlong 5 none 2 := ⟨zt8 83 rfl rfl, zt1 15 (by decide +kernel) (by decide +kernel), ⟨(by decide +kernel), (by decide +kernel)⟩, (by decide +kernel), by decide⟩
theorem mv_X12_goesAlong : zMv yX12_goesAlong := ⟨zt8 82 (by decide +kernel) (by decide +kernel), zp7 (q := (yX12_goesAlong, 43)) 11 rfl rfl⟩
theorem md_X12_good : zMd yX12_good cX12_good 2 (some .int) 1 := ⟨zt6 65 rfl rfl, zt1 15 (by decide +kernel) (by decide +kernel), ⟨(by decide +kernel), (by decide +kernel)⟩, (by decide +kernel), by decide⟩
theorem mv_X12_good : zMv yX12_good := ⟨zt6 64 (by decide +kernel) (by decide +kernel), zp3 (q := (yX12_good, 43)) 0 rfl rfl⟩
theorem md_X12_goodOr : zMd yX12_goodOr cX12_goodOr 2 (some .int) 1 := ⟨zt7 205 rfl rfl, zt1 15 (by decide +kernel) (by decide +kernel), ⟨(by decide +kernel), (by decide +kernel)⟩, (by decide +kernel), by decide⟩
theorem mv_X12_goodOr : zMv yX12_goodOr := ⟨zt7 204 (by decide +kernel) (by decide +kernel), zp7 (q := (yX12_goodOr, 43)) 4 rfl rfl⟩
theorem md_X12_greater : zMd yX12_greater cX12_greater 2 (some .int) 2 := ⟨zt8 56 rfl rfl, zt1 15 (by decide +kernel) (by decide +kernel), ⟨(by decide +kernel), (by decide +kernel)⟩, (by decide +kernel), by decide⟩
theorem ms_X12_greater : Cond.static yX12_greater ∈ zT := zt8 55 (by decide +kernel) (by decide +kernel)
theorem md_X12_hasReported : zMd yX12_hasReported cX12_hasReported 2 (some .boolean) 1 := ⟨zt6 92 rfl rfl, zt1 15 (by decide +kernel) (by decide +kernel), ⟨(by decide +kernel), (by decide +kernel)⟩, (by decide +kernel), by decide⟩
theorem mv_X12_hasReported : zMv yX12_hasReported := ⟨zt6 91 (by decide +kernel) (by decide +kernel), zp3 (q := (yX12_hasReported, 43)) 4 rfl rfl⟩
theorem md_X12_holders : zMd yX12_holders cX12_holders 3 (some .int) 0 := ⟨zt8 13 rfl rfl, zt1 15 (by decide +kernel) (by decide +kernel), ⟨(by decide +kernel), (by decide +kernel)⟩, (by decide +kernel), by decide⟩
theorem mv_X12_holders : zMv yX12_holders := ⟨zt8 11 (by decide +kernel) (by decide +kernel), zt8 12 (by decide +kernel) (by decide +kernel)⟩
theorem md_X12_hurries : zMd yX12_hurries cX12_hurries 4 (some .int) 0 := ⟨zt7 197 rfl rfl, zt1 15 (by decide +kernel) (by decide +kernel), ⟨(by decide +kernel), (by decide +kernel)⟩, (by decide +kernel), by decide⟩
theorem mv_X12_hurries : zMv yX12_hurries := ⟨zt7 196 (by decide +kernel) (by decide +kernel), zp7 (q := (yX12_hurries, 43)) 2 rfl rfl⟩
theorem md_X12_hurry : zMd yX12_hurry cX12_hurry 1 (some .int) 0 := ⟨zt7 237 rfl rfl, zt1 15 (by decide +kernel) (by decide +kernel), ⟨(by decide +kernel), (by decide +kernel)⟩, (by decide +kernel), by decide⟩
theorem mv_X12_hurry : zMv yX12_hurry := ⟨zt7 235 (by decide +kernel) (by decide +kernel), zt7 236 (by decide +kernel) (by decide +kernel)⟩
theorem md_X12_image : zMd yX12_image cX12_image 3 (some .int) 1 := ⟨zt6 54 rfl rfl, zt1 15 (by decide +kernel) (by decide +kernel), ⟨(by decide +kernel), (by decide +kernel)⟩, (by decide +kernel), by decide⟩
theorem mv_X12_image : zMv yX12_image := ⟨zt6 52 (by decide +kernel) (by decide +kernel), zt6 53 (by decide +kernel) (by decide +kernel)⟩
theorem md_X12_isBarred : zMd yX12_isBarred cX12_isBarred 2 (some .boolean) 1 := ⟨zt6 158 rfl rfl, zt1 15 (by decide +kernel) (by decide +kernel), ⟨(by decide +kernel), (by decide +kernel)⟩, (by decide +kernel), by decide⟩
theorem mv_X12_isBarred : zMv yX12_isBarred := ⟨zt6 157 (by decide +kernel) (by decide +kernel), zp3 (q := (yX12_isBarred, 43)) 9 rfl rfl⟩
theorem md_X12_isCell : zMd yX12_isCell cX12_isCell 1 (some .boolean) 1 := ⟨zt6 109 rfl rfl, zt1 15 (by decide +kernel) (by decide +kernel), ⟨(by decide +kernel), (by decide +kernel)⟩, (by decide +kernel), by decide⟩
theorem ms_X12_isCell : Cond.static yX12_isCell ∈ zT := zt6 108 (by decide +kernel) (by decide +kernel)
theorem md_X12_isDigit : zMd yX12_isDigit cX12_isDigit 1 (some .boolean) 1 := ⟨zt7 22 rfl rfl, zt1 15 (by decide +kernel) (by decide +kernel), ⟨(by decide +kernel), (by decide +kernel)⟩, (by decide +kernel), by decide⟩
theorem ms_X12_isDigit : Cond.static yX12_isDigit ∈ zT := zt7 21 (by decide +kernel) (by decide +kernel)
theorem md_X12_isHeld : zMd yX12_isHeld cX12_isHeld 2 (some .boolean) 1 := ⟨zt7 155 rfl rfl, zt1 15 (by decide +kernel) (by decide +kernel), ⟨(by decide +kernel), (by decide +kernel)⟩, (by decide +kernel), by decide⟩
theorem mv_X12_isHeld : zMv yX12_isHeld := ⟨zt7 154 (by decide +kernel) (by decide +kernel), zp6 (q := (yX12_isHeld, 43)) 9 rfl rfl⟩
theorem md_X12_isIn : zMd yX12_isIn cX12_isIn 2 (some .boolean) 2 := ⟨zt6 102 rfl rfl, zt1 15 (by decide +kernel) (by decide +kernel), ⟨(by decide +kernel), (by decide +kernel)⟩, (by decide +kernel), by decide⟩
theorem ms_X12_isIn : Cond.static yX12_isIn ∈ zT := zt6 101 (by decide +kernel) (by decide +kernel)
theorem md_X12_isKey : zMd yX12_isKey cX12_isKey 1 (some .boolean) 1 := ⟨zt6 120 rfl rfl, zt1 15 (by decide +kernel) (by decide +kernel), ⟨(by decide +kernel), (by decide +kernel)⟩, (by decide +kernel), by decide⟩
theorem ms_X12_isKey : Cond.static yX12_isKey ∈ zT := zt6 119 (by decide +kernel) (by decide +kernel)
theorem md_X12_isLaw : zMd yX12_isLaw cX12_isLaw 2 (some .boolean) 1 := ⟨zt7 107 rfl rfl, zt1 15 (by decide +kernel) (by decide +kernel), ⟨(by decide +kernel), (by decide +kernel)⟩, (by decide +kernel), by decide⟩
theorem mv_X12_isLaw : zMv yX12_isLaw := ⟨zt7 106 (by decide +kernel) (by decide +kernel), zp5 (q := (yX12_isLaw, 43)) 15 rfl rfl⟩
theorem md_X12_isOn : zMd yX12_isOn cX12_isOn 2 (some .boolean) 1 := ⟨zt6 88 rfl rfl, zt1 15 (by decide +kernel) (by decide +kernel), ⟨(by decide +kernel), (by decide +kernel)⟩, (by decide +kernel), by decide⟩
theorem mv_X12_isOn : zMv yX12_isOn := ⟨zt6 87 (by decide +kernel) (by decide +kernel), zp3 (q := (yX12_isOn, 43)) 3 rfl rfl⟩
theorem md_X12_isParked : zMd yX12_isParked cX12_isParked 2 (some .boolean) 1 := ⟨zt7 143 rfl rfl, zt1 15 (by decide +kernel) (by decide +kernel), ⟨(by decide +kernel), (by decide +kernel)⟩, (by decide +kernel), by decide⟩
theorem mv_X12_isParked : zMv yX12_isParked := ⟨zt7 142 (by decide +kernel) (by decide +kernel), zp6 (q := (yX12_isParked, 43)) 6 rfl rfl⟩
theorem md_X12_isProcessor : zMd yX12_isProcessor cX12_isProcessor 1 (some .boolean) 1 := ⟨zt6 80 rfl rfl, zt1 15 (by decide +kernel) (by decide +kernel), ⟨(by decide +kernel), (by decide +kernel)⟩, (by decide +kernel), by decide⟩
theorem ms_X12_isProcessor : Cond.static yX12_isProcessor ∈ zT := zt6 79 (by decide +kernel) (by decide +kernel)
theorem md_X12_isSmall : zMd yX12_isSmall cX12_isSmall 1 (some .boolean) 1 := ⟨zt7 19 rfl rfl, zt1 15 (by decide +kernel) (by decide +kernel), ⟨(by decide +kernel), (by decide +kernel)⟩, (by decide +kernel), by decide⟩
theorem ms_X12_isSmall : Cond.static yX12_isSmall ∈ zT := zt7 18 (by decide +kernel) (by decide +kernel)
theorem md_X12_isTerm : zMd yX12_isTerm cX12_isTerm 2 (some .boolean) 2 := ⟨zt6 143 rfl rfl, zt1 15 (by decide +kernel) (by decide +kernel), ⟨(by decide +kernel), (by decide +kernel)⟩, (by decide +kernel), by decide⟩
theorem ms_X12_isTerm : Cond.static yX12_isTerm ∈ zT := zt6 142 (by decide +kernel) (by decide +kernel)
theorem md_X12_keptOr : zMd yX12_keptOr cX12_keptOr 5 (some .int) 2 := ⟨zt7 201 rfl rfl, zt1 15 (by decide +kernel) (by decide +kernel), ⟨(by decide +kernel), (by decide +kernel)⟩, (by decide +kernel), by decide⟩
theorem mv_X12_keptOr : zMv yX12_keptOr := ⟨zt7 200 (by decide +kernel) (by decide +kernel), zp7 (q := (yX12_keptOr, 43)) 3 rfl rfl⟩
theorem md_X12_law : zMd yX12_law cX12_law 1 (some .int) 0 := ⟨zt7 4 rfl rfl, zt1 15 (by decide +kernel) (by decide +kernel), ⟨(by decide +kernel), (by decide +kernel)⟩, (by decide +kernel), by decide⟩
theorem mv_X12_law : zMv yX12_law := ⟨zt7 2 (by decide +kernel) (by decide +kernel), zt7 3 (by decide +kernel) (by decide +kernel)⟩
theorem md_X12_lays : zMd yX12_lays cX12_lays 3 none 1 := ⟨zt7 95 rfl rfl, zt1 15 (by decide +kernel) (by decide +kernel), ⟨(by decide +kernel), (by decide +kernel)⟩, (by decide +kernel), by decide⟩
theorem mv_X12_lays : zMv yX12_lays := ⟨zt7 94 (by decide +kernel) (by decide +kernel), zp5 (q := (yX12_lays, 43)) 14 rfl rfl⟩
theorem md_X12_laysAside : zMd yX12_laysAside cX12_laysAside 3 none 1 := ⟨zt7 123 rfl rfl, zt1 15 (by decide +kernel) (by decide +kernel), ⟨(by decide +kernel), (by decide +kernel)⟩, (by decide +kernel), by decide⟩
theorem mv_X12_laysAside : zMv yX12_laysAside := ⟨zt7 122 (by decide +kernel) (by decide +kernel), zp6 (q := (yX12_laysAside, 43)) 1 rfl rfl⟩
theorem md_X12_leaf : zMd yX12_leaf cX12_leaf 1 none 0 := ⟨zt7 67 rfl rfl, zt1 15 (by decide +kernel) (by decide +kernel), ⟨(by decide +kernel), (by decide +kernel)⟩, (by decide +kernel), by decide⟩
theorem mv_X12_leaf : zMv yX12_leaf := ⟨zt7 66 (by decide +kernel) (by decide +kernel), zp5 (q := (yX12_leaf, 43)) 7 rfl rfl⟩
theorem md_X12_leafOf : zMd yX12_leafOf cX12_leafOf 1 (some .int) 1 := ⟨zt6 99 rfl rfl, zt1 15 (by decide +kernel) (by decide +kernel), ⟨(by decide +kernel), (by decide +kernel)⟩, (by decide +kernel), by decide⟩
theorem ms_X12_leafOf : Cond.static yX12_leafOf ∈ zT := zt6 98 (by decide +kernel) (by decide +kernel)
theorem md_X12_least : zMd yX12_least cX12_least 3 (some .int) 0 := ⟨zt8 25 rfl rfl, zt1 15 (by decide +kernel) (by decide +kernel), ⟨(by decide +kernel), (by decide +kernel)⟩, (by decide +kernel), by decide⟩
theorem mv_X12_least : zMv yX12_least := ⟨zt8 23 (by decide +kernel) (by decide +kernel), zt8 24 (by decide +kernel) (by decide +kernel)⟩
theorem md_X12_leave : zMd yX12_leave cX12_leave 2 (some .int) 1 := ⟨zt7 225 rfl rfl, zt1 15 (by decide +kernel) (by decide +kernel), ⟨(by decide +kernel), (by decide +kernel)⟩, (by decide +kernel), by decide⟩
theorem mv_X12_leave : zMv yX12_leave := ⟨zt7 223 (by decide +kernel) (by decide +kernel), zt7 224 (by decide +kernel) (by decide +kernel)⟩
theorem md_X12_leaves0 : zMd yX12_leaves0 cX12_leaves0 3 (some .int) 1 := ⟨zt7 151 rfl rfl, zt1 15 (by decide +kernel) (by decide +kernel), ⟨(by decide +kernel), (by decide +kernel)⟩, (by decide +kernel), by decide⟩
theorem mv_X12_leaves0 : zMv yX12_leaves0 := ⟨zt7 150 (by decide +kernel) (by decide +kernel), zp6 (q := (yX12_leaves0, 43)) 8 rfl rfl⟩
theorem md_X12_lesser : zMd yX12_lesser cX12_lesser 2 (some .int) 2 := ⟨zt7 177 rfl rfl, zt1 15 (by decide +kernel) (by decide +kernel), ⟨(by decide +kernel), (by decide +kernel)⟩, (by decide +kernel), by decide⟩
theorem ms_X12_lesser : Cond.static yX12_lesser ∈ zT := zt7 176 (by decide +kernel) (by decide +kernel)
theorem md_X12_levelOf : zMd yX12_levelOf cX12_levelOf 1 (some .int) 1 := ⟨zt7 170 rfl rfl, zt1 15 (by decide +kernel) (by decide +kernel), ⟨(by decide +kernel), (by decide +kernel)⟩, (by decide +kernel), by decide⟩
theorem ms_X12_levelOf : Cond.static yX12_levelOf ∈ zT := zt7 169 (by decide +kernel) (by decide +kernel)
theorem md_X12_lies : zMd yX12_lies cX12_lies 3 (some .boolean) 3 := ⟨zt6 57 rfl rfl, zt1 15 (by decide +kernel) (by decide +kernel), ⟨(by decide +kernel), (by decide +kernel)⟩, (by decide +kernel), by decide⟩
theorem ms_X12_lies : Cond.static yX12_lies ∈ zT := zt6 56 (by decide +kernel) (by decide +kernel)
theorem md_X12_linkTo : zMd yX12_linkTo cX12_linkTo 3 (some .int) 1 := ⟨zt6 224 rfl rfl, zt1 15 (by decide +kernel) (by decide +kernel), ⟨(by decide +kernel), (by decide +kernel)⟩, (by decide +kernel), by decide⟩
theorem mv_X12_linkTo : zMv yX12_linkTo := ⟨zt6 223 (by decide +kernel) (by decide +kernel), zp4 (q := (yX12_linkTo, 43)) 8 rfl rfl⟩
theorem md_X12_list : zMd yX12_list cX12_list 4 (some .int) 1 := ⟨zt6 113 rfl rfl, zt1 15 (by decide +kernel) (by decide +kernel), ⟨(by decide +kernel), (by decide +kernel)⟩, (by decide +kernel), by decide⟩
theorem mv_X12_list : zMv yX12_list := ⟨zt6 111 (by decide +kernel) (by decide +kernel), zt6 112 (by decide +kernel) (by decide +kernel)⟩
theorem md_X12_listMany : zMd yX12_listMany cX12_listMany 3 (some .int) 0 := ⟨zt8 126 rfl rfl, zt1 15 (by decide +kernel) (by decide +kernel), ⟨(by decide +kernel), (by decide +kernel)⟩, (by decide +kernel), by decide⟩
theorem mv_X12_listMany : zMv yX12_listMany := ⟨zt8 125 (by decide +kernel) (by decide +kernel), zp8 (q := (yX12_listMany, 43)) 1 rfl rfl⟩
theorem md_X12_looksAt : zMd yX12_looksAt cX12_looksAt 4 (some .int) 1 := ⟨zt7 159 rfl rfl, zt1 15 (by decide +kernel) (by decide +kernel), ⟨(by decide +kernel), (by decide +kernel)⟩, (by decide +kernel), by decide⟩
theorem mv_X12_looksAt : zMv yX12_looksAt := ⟨zt7 158 (by decide +kernel) (by decide +kernel), zp6 (q := (yX12_looksAt, 43)) 10 rfl rfl⟩
theorem md_X12_lowestFree : zMd yX12_lowestFree cX12_lowestFree 2 (some .int) 0 := ⟨zt6 220 rfl rfl, zt1 15 (by decide +kernel) (by decide +kernel), ⟨(by decide +kernel), (by decide +kernel)⟩, (by decide +kernel), by decide⟩
theorem mv_X12_lowestFree : zMv yX12_lowestFree := ⟨zt6 219 (by decide +kernel) (by decide +kernel), zp4 (q := (yX12_lowestFree, 43)) 7 rfl rfl⟩
theorem md_X12_mostAlike : zMd yX12_mostAlike cX12_mostAlike 7 (some .int) 2 := ⟨zt8 53 rfl rfl, zt1 15 (by decide +kernel) (by decide +kernel), ⟨(by decide +kernel), (by decide +kernel)⟩, (by decide +kernel), by decide⟩
theorem mv_X12_mostAlike : zMv yX12_mostAlike := ⟨zt8 52 (by decide +kernel) (by decide +kernel), zp7 (q := (yX12_mostAlike, 43)) 9 rfl rfl⟩
theorem md_X12_must : zMd yX12_must cX12_must 2 none 1 := ⟨zt7 63 rfl rfl, zt1 15 (by decide +kernel) (by decide +kernel), ⟨(by decide +kernel), (by decide +kernel)⟩, (by decide +kernel), by decide⟩
theorem mv_X12_must : zMv yX12_must := ⟨zt7 62 (by decide +kernel) (by decide +kernel), zp5 (q := (yX12_must, 43)) 6 rfl rfl⟩
theorem md_X12_mustNumber : zMd yX12_mustNumber cX12_mustNumber 3 none 2 := ⟨zt7 71 rfl rfl, zt1 15 (by decide +kernel) (by decide +kernel), ⟨(by decide +kernel), (by decide +kernel)⟩, (by decide +kernel), by decide⟩
theorem mv_X12_mustNumber : zMv yX12_mustNumber := ⟨zt7 70 (by decide +kernel) (by decide +kernel), zp5 (q := (yX12_mustNumber, 43)) 8 rfl rfl⟩
theorem md_X12_node : zMd yX12_node cX12_node 2 (some .int) 1 := ⟨zt6 132 rfl rfl, zt1 15 (by decide +kernel) (by decide +kernel), ⟨(by decide +kernel), (by decide +kernel)⟩, (by decide +kernel), by decide⟩
theorem mv_X12_node : zMv yX12_node := ⟨zt6 130 (by decide +kernel) (by decide +kernel), zt6 131 (by decide +kernel) (by decide +kernel)⟩
theorem md_X12_obeys : zMd yX12_obeys cX12_obeys 3 (some .int) 0 := ⟨zt8 87 rfl rfl, zt1 15 (by decide +kernel) (by decide +kernel), ⟨(by decide +kernel), (by decide +kernel)⟩, (by decide +kernel), by decide⟩
theorem mv_X12_obeys : zMv yX12_obeys := ⟨zt8 86 (by decide +kernel) (by decide +kernel), zp7 (q := (yX12_obeys, 43)) 12 rfl rfl⟩
theorem md_X12_of : zMd yX12_of cX12_of 3 (some .int) 2 := ⟨zt6 77 rfl rfl, zt1 15 (by decide +kernel) (by decide +kernel), ⟨(by decide +kernel), (by decide +kernel)⟩, (by decide +kernel), by decide⟩
theorem mv_X12_of : zMv yX12_of := ⟨zt6 75 (by decide +kernel) (by decide +kernel), zt6 76 (by decide +kernel) (by decide +kernel)⟩
theorem md_X12_old : zMd yX12_old cX12_old 4 (some .int) 2 := ⟨zt6 136 rfl rfl, zt1 15 (by decide +kernel) (by decide +kernel), ⟨(by decide +kernel), (by decide +kernel)⟩, (by decide +kernel), by decide⟩
theorem mv_X12_old : zMv yX12_old := ⟨zt6 134 (by decide +kernel) (by decide +kernel), zt6 135 (by decide +kernel) (by decide +kernel)⟩
theorem md_X12_orderValue : zMd yX12_orderValue cX12_orderValue 3 (some .int) 2 := ⟨zt6 193 rfl rfl, zt1 15 (by decide +kernel) (by decide +kernel), ⟨(by decide +kernel), (by decide +kernel)⟩, (by decide +kernel), by decide⟩
theorem mv_X12_orderValue : zMv yX12_orderValue := ⟨zt6 192 (by decide +kernel) (by decide +kernel), zp4 (q := (yX12_orderValue, 43)) 1 rfl rfl⟩
theorem md_X12_orders : zMd yX12_orders cX12_orders 5 (some .int) 0 := ⟨zt8 75 rfl rfl, zt1 15 (by decide +kernel) (by decide +kernel), ⟨(by decide +kernel), (by decide +kernel)⟩, (by decide +kernel), by decide⟩
theorem mv_X12_orders : zMv yX12_orders := ⟨zt8 73 (by decide +kernel) (by decide +kernel), zt8 74 (by decide +kernel) (by decide +kernel)⟩
theorem md_X12_park : zMd yX12_park cX12_park 2 (some .int) 1 := ⟨zt7 221 rfl rfl, zt1 15 (by decide +kernel) (by decide +kernel), ⟨(by decide +kernel), (by decide +kernel)⟩, (by decide +kernel), by decide⟩
theorem mv_X12_park : zMv yX12_park := ⟨zt7 219 (by decide +kernel) (by decide +kernel), zt7 220 (by decide +kernel) (by decide +kernel)⟩
theorem md_X12_parks : zMd yX12_parks cX12_parks 3 (some .int) 1 := ⟨zt7 147 rfl rfl, zt1 15 (by decide +kernel) (by decide +kernel), ⟨(by decide +kernel), (by decide +kernel)⟩, (by decide +kernel), by decide⟩
theorem mv_X12_parks : zMv yX12_parks := ⟨zt7 146 (by decide +kernel) (by decide +kernel), zp6 (q := (yX12_parks, 43)) 7 rfl rfl⟩
theorem md_X12_partOf : zMd yX12_partOf cX12_partOf 4 (some .long) 1 := ⟨zt6 182 rfl rfl, zt1 15 (by decide +kernel) (by decide +kernel), ⟨(by decide +kernel), (by decide +kernel)⟩, (by decide +kernel), by decide⟩
theorem mv_X12_partOf : zMv yX12_partOf := ⟨zt6 181 (by decide +kernel) (by decide +kernel), zp3 (q := (yX12_partOf, 43)) 15 rfl rfl⟩
theorem md_X12_passes0 : zMd yX12_passes0 cX12_passes0 3 (some .boolean) 1 := ⟨zt6 189 rfl rfl, zt1 15 (by decide +kernel) (by decide +kernel), ⟨(by decide +kernel), (by decide +kernel)⟩, (by decide +kernel), by decide⟩
theorem mv_X12_passes0 : zMv yX12_passes0 := ⟨zt6 188 (by decide +kernel) (by decide +kernel), zp4 (q := (yX12_passes0, 43)) 0 rfl rfl⟩
theorem md_X12_plainOf : zMd yX12_plainOf cX12_plainOf 3 (some .boolean) 1 := ⟨zt6 211 rfl rfl, zt1 15 (by decide +kernel) (by decide +kernel), ⟨(by decide +kernel), (by decide +kernel)⟩, (by decide +kernel), by decide⟩
theorem mv_X12_plainOf : zMv yX12_plainOf := ⟨zt6 210 (by decide +kernel) (by decide +kernel), zp4 (q := (yX12_plainOf, 43)) 5 rfl rfl⟩
theorem md_X12_positiveOf : zMd yX12_positiveOf cX12_positiveOf 7 (some .boolean) 1 := ⟨zt6 215 rfl rfl, zt1 15 (by decide +kernel) (by decide +kernel), ⟨(by decide +kernel), (by decide +kernel)⟩, (by decide +kernel), by decide⟩
theorem mv_X12_positiveOf : zMv yX12_positiveOf := ⟨zt6 214 (by decide +kernel) (by decide +kernel), zp4 (q := (yX12_positiveOf, 43)) 6 rfl rfl⟩
theorem md_X12_put : zMd yX12_put cX12_put 3 (some .int) 2 := ⟨zt7 115 rfl rfl, zt1 15 (by decide +kernel) (by decide +kernel), ⟨(by decide +kernel), (by decide +kernel)⟩, (by decide +kernel), by decide⟩
theorem mv_X12_put : zMv yX12_put := ⟨zt7 113 (by decide +kernel) (by decide +kernel), zt7 114 (by decide +kernel) (by decide +kernel)⟩
theorem md_X12_puts : zMd yX12_puts cX12_puts 7 (some .int) 2 := ⟨zt6 154 rfl rfl, zt1 15 (by decide +kernel) (by decide +kernel), ⟨(by decide +kernel), (by decide +kernel)⟩, (by decide +kernel), by decide⟩
theorem mv_X12_puts : zMv yX12_puts := ⟨zt6 153 (by decide +kernel) (by decide +kernel), zp3 (q := (yX12_puts, 43)) 8 rfl rfl⟩
theorem md_X12_reach : zMd yX12_reach cX12_reach 4 (some .int) 1 := ⟨zt8 5 rfl rfl, zt1 15 (by decide +kernel) (by decide +kernel), ⟨(by decide +kernel), (by decide +kernel)⟩, (by decide +kernel), by decide⟩
theorem mv_X12_reach : zMv yX12_reach := ⟨zt8 3 (by decide +kernel) (by decide +kernel), zt8 4 (by decide +kernel) (by decide +kernel)⟩
theorem md_X12_readBoth : zMd yX12_readBoth cX12_readBoth 2 none 1 := ⟨zt7 83 rfl rfl, zt1 15 (by decide +kernel) (by decide +kernel), ⟨(by decide +kernel), (by decide +kernel)⟩, (by decide +kernel), by decide⟩
theorem mv_X12_readBoth : zMv yX12_readBoth := ⟨zt7 82 (by decide +kernel) (by decide +kernel), zp5 (q := (yX12_readBoth, 43)) 11 rfl rfl⟩
theorem md_X12_readClause : zMd yX12_readClause cX12_readClause 1 none 0 := ⟨zt7 91 rfl rfl, zt1 15 (by decide +kernel) (by decide +kernel), ⟨(by decide +kernel), (by decide +kernel)⟩, (by decide +kernel), by decide⟩
theorem mv_X12_readClause : zMv yX12_readClause := ⟨zt7 90 (by decide +kernel) (by decide +kernel), zp5 (q := (yX12_readClause, 43)) 13 rfl rfl⟩
theorem md_X12_readOne : zMd yX12_readOne cX12_readOne 1 none 0 := ⟨zt7 31 rfl rfl, zt1 15 (by decide +kernel) (by decide +kernel), ⟨(by decide +kernel), (by decide +kernel)⟩, (by decide +kernel), by decide⟩
theorem mv_X12_readOne : zMv yX12_readOne := ⟨zt7 30 (by decide +kernel) (by decide +kernel), zp4 (q := (yX12_readOne, 43)) 14 rfl rfl⟩
theorem md_X12_readOrder : zMd yX12_readOrder cX12_readOrder 1 none 0 := ⟨zt7 35 rfl rfl, zt1 15 (by decide +kernel) (by decide +kernel), ⟨(by decide +kernel), (by decide +kernel)⟩, (by decide +kernel), by decide⟩
theorem mv_X12_readOrder : zMv yX12_readOrder := ⟨zt7 34 (by decide +kernel) (by decide +kernel), zp4 (q := (yX12_readOrder, 43)) 15 rfl rfl⟩
theorem md_X12_readPart : zMd yX12_readPart cX12_readPart 3 none 1 := ⟨zt7 55 rfl rfl, zt1 15 (by decide +kernel) (by decide +kernel), ⟨(by decide +kernel), (by decide +kernel)⟩, (by decide +kernel), by decide⟩
theorem mv_X12_readPart : zMv yX12_readPart := ⟨zt7 54 (by decide +kernel) (by decide +kernel), zp5 (q := (yX12_readPart, 43)) 4 rfl rfl⟩
theorem md_X12_readPlain : zMd yX12_readPlain cX12_readPlain 4 none 1 := ⟨zt7 87 rfl rfl, zt1 15 (by decide +kernel) (by decide +kernel), ⟨(by decide +kernel), (by decide +kernel)⟩, (by decide +kernel), by decide⟩
theorem mv_X12_readPlain : zMv yX12_readPlain := ⟨zt7 86 (by decide +kernel) (by decide +kernel), zp5 (q := (yX12_readPlain, 43)) 12 rfl rfl⟩
theorem md_X12_readSum : zMd yX12_readSum cX12_readSum 2 none 1 := ⟨zt7 47 rfl rfl, zt1 15 (by decide +kernel) (by decide +kernel), ⟨(by decide +kernel), (by decide +kernel)⟩, (by decide +kernel), by decide⟩
theorem mv_X12_readSum : zMv yX12_readSum := ⟨zt7 46 (by decide +kernel) (by decide +kernel), zp5 (q := (yX12_readSum, 43)) 2 rfl rfl⟩
theorem md_X12_readTerm : zMd yX12_readTerm cX12_readTerm 2 none 1 := ⟨zt7 51 rfl rfl, zt1 15 (by decide +kernel) (by decide +kernel), ⟨(by decide +kernel), (by decide +kernel)⟩, (by decide +kernel), by decide⟩
theorem mv_X12_readTerm : zMv yX12_readTerm := ⟨zt7 50 (by decide +kernel) (by decide +kernel), zp5 (q := (yX12_readTerm, 43)) 3 rfl rfl⟩
theorem md_X12_readTest : zMd yX12_readTest cX12_readTest 2 none 1 := ⟨zt7 79 rfl rfl, zt1 15 (by decide +kernel) (by decide +kernel), ⟨(by decide +kernel), (by decide +kernel)⟩, (by decide +kernel), by decide⟩
theorem mv_X12_readTest : zMv yX12_readTest := ⟨zt7 78 (by decide +kernel) (by decide +kernel), zp5 (q := (yX12_readTest, 43)) 10 rfl rfl⟩
theorem md_X12_reads : zMd yX12_reads cX12_reads 2 (some .boolean) 0 := ⟨zt7 12 rfl rfl, zt1 15 (by decide +kernel) (by decide +kernel), ⟨(by decide +kernel), (by decide +kernel)⟩, (by decide +kernel), by decide⟩
theorem mv_X12_reads : zMv yX12_reads := ⟨zt7 11 (by decide +kernel) (by decide +kernel), zp4 (q := (yX12_reads, 43)) 11 rfl rfl⟩
theorem md_X12_readsAs : zMd yX12_readsAs cX12_readsAs 2 (some .boolean) 1 := ⟨zt7 8 rfl rfl, zt1 15 (by decide +kernel) (by decide +kernel), ⟨(by decide +kernel), (by decide +kernel)⟩, (by decide +kernel), by decide⟩
theorem mv_X12_readsAs : zMv yX12_readsAs := ⟨zt7 7 (by decide +kernel) (by decide +kernel), zp4 (q := (yX12_readsAs, 43)) 10 rfl rfl⟩
theorem md_X12_refuses : zMd yX12_refuses cX12_refuses 2 (some .int) 1 := ⟨zt6 61 rfl rfl, zt1 15 (by decide +kernel) (by decide +kernel), ⟨(by decide +kernel), (by decide +kernel)⟩, (by decide +kernel), by decide⟩
theorem mv_X12_refuses : zMv yX12_refuses := ⟨zt6 60 (by decide +kernel) (by decide +kernel), zp2 (q := (yX12_refuses, 43)) 15 rfl rfl⟩
theorem md_X12_reports : zMd yX12_reports cX12_reports 4 none 2 := ⟨zt7 163 rfl rfl, zt1 15 (by decide +kernel) (by decide +kernel), ⟨(by decide +kernel), (by decide +kernel)⟩, (by decide +kernel), by decide⟩
theorem mv_X12_reports : zMv yX12_reports := ⟨zt7 162 (by decide +kernel) (by decide +kernel), zp6 (q := (yX12_reports, 43)) 11 rfl rfl⟩
theorem md_X12_row : zMd yX12_row cX12_row 5 (some .int) 0 := ⟨zt6 150 rfl rfl, zt1 15 (by decide +kernel) (by decide +kernel), ⟨(by decide +kernel), (by decide +kernel)⟩, (by decide +kernel), by decide⟩
theorem mv_X12_row : zMv yX12_row := ⟨zt6 148 (by decide +kernel) (by decide +kernel), zt6 149 (by decide +kernel) (by decide +kernel)⟩
theorem md_X12_runs : zMd yX12_runs cX12_runs 5 (some .boolean) 1 := ⟨zt8 79 rfl rfl, zt1 15 (by decide +kernel) (by decide +kernel), ⟨(by decide +kernel), (by decide +kernel)⟩, (by decide +kernel), by decide⟩
theorem mv_X12_runs : zMv yX12_runs := ⟨zt8 78 (by decide +kernel) (by decide +kernel), zp7 (q := (yX12_runs, 43)) 10 rfl rfl⟩
theorem md_X12_runs0 : zMd yX12_runs0 cX12_runs0 1 (some .boolean) 0 := ⟨zt6 96 rfl rfl, zt1 15 (by decide +kernel) (by decide +kernel), ⟨(by decide +kernel), (by decide +kernel)⟩, (by decide +kernel), by decide⟩
theorem mv_X12_runs0 : zMv yX12_runs0 := ⟨zt6 95 (by decide +kernel) (by decide +kernel), zp3 (q := (yX12_runs0, 43)) 5 rfl rfl⟩
theorem md_X12_seen : zMd yX12_seen cX12_seen 4 (some .int) 2 := ⟨zt8 29 rfl rfl, zt1 15 (by decide +kernel) (by decide +kernel), ⟨(by decide +kernel), (by decide +kernel)⟩, (by decide +kernel), by decide⟩
theorem mv_X12_seen : zMv yX12_seen := ⟨zt8 27 (by decide +kernel) (by decide +kernel), zt8 28 (by decide +kernel) (by decide +kernel)⟩
theorem md_X12_sees : zMd yX12_sees cX12_sees 5 (some .int) 2 := ⟨zt8 1 rfl rfl, zt1 15 (by decide +kernel) (by decide +kernel), ⟨(by decide +kernel), (by decide +kernel)⟩, (by decide +kernel), by decide⟩
theorem mv_X12_sees : zMv yX12_sees := ⟨zt7 239 (by decide +kernel) (by decide +kernel), zt8 0 (by decide +kernel) (by decide +kernel)⟩
theorem md_X12_seesCell : zMd yX12_seesCell cX12_seesCell 4 (some .boolean) 2 := ⟨zt8 9 rfl rfl, zt1 15 (by decide +kernel) (by decide +kernel), ⟨(by decide +kernel), (by decide +kernel)⟩, (by decide +kernel), by decide⟩
theorem mv_X12_seesCell : zMv yX12_seesCell := ⟨zt8 8 (by decide +kernel) (by decide +kernel), zp7 (q := (yX12_seesCell, 43)) 5 rfl rfl⟩
theorem md_X12_setsAsked : zMd yX12_setsAsked cX12_setsAsked 6 none 5 := ⟨zt6 162 rfl rfl, zt1 15 (by decide +kernel) (by decide +kernel), ⟨(by decide +kernel), (by decide +kernel)⟩, (by decide +kernel), by decide⟩
theorem mv_X12_setsAsked : zMv yX12_setsAsked := ⟨zt6 161 (by decide +kernel) (by decide +kernel), zp3 (q := (yX12_setsAsked, 43)) 10 rfl rfl⟩
theorem md_X12_settled : zMd yX12_settled cX12_settled 2 (some .int) 1 := ⟨zt6 73 rfl rfl, zt1 15 (by decide +kernel) (by decide +kernel), ⟨(by decide +kernel), (by decide +kernel)⟩, (by decide +kernel), by decide⟩
theorem mv_X12_settled : zMv yX12_settled := ⟨zt6 72 (by decide +kernel) (by decide +kernel), zp3 (q := (yX12_settled, 43)) 1 rfl rfl⟩
theorem md_X12_sign : zMd yX12_sign cX12_sign 1 (some .int) 1 := ⟨zt6 185 rfl rfl, zt1 15 (by decide +kernel) (by decide +kernel), ⟨(by decide +kernel), (by decide +kernel)⟩, (by decide +kernel), by decide⟩
theorem ms_X12_sign : Cond.static yX12_sign ∈ zT := zt6 184 (by decide +kernel) (by decide +kernel)
theorem md_X12_small : zMd yX12_small cX12_small 2 (some .int) 1 := ⟨zt8 90 rfl rfl, zt1 15 (by decide +kernel) (by decide +kernel), ⟨(by decide +kernel), (by decide +kernel)⟩, (by decide +kernel), by decide⟩
theorem ms_X12_small : Cond.static yX12_small ∈ zT := zt8 89 (by decide +kernel) (by decide +kernel)
theorem md_X12_splits : zMd yX12_splits cX12_splits 6 none 1 := ⟨zt7 16 rfl rfl, zt1 15 (by decide +kernel) (by decide +kernel), ⟨(by decide +kernel), (by decide +kernel)⟩, (by decide +kernel), by decide⟩
theorem mv_X12_splits : zMv yX12_splits := ⟨zt7 15 (by decide +kernel) (by decide +kernel), zp4 (q := (yX12_splits, 43)) 12 rfl rfl⟩
theorem md_X12_status : zMd yX12_status cX12_status 1 (some .int) 0 := ⟨zt8 130 rfl rfl, zt1 15 (by decide +kernel) (by decide +kernel), ⟨(by decide +kernel), (by decide +kernel)⟩, (by decide +kernel), by decide⟩
theorem mv_X12_status : zMv yX12_status := ⟨zt8 128 (by decide +kernel) (by decide +kernel), zt8 129 (by decide +kernel) (by decide +kernel)⟩
theorem md_X12_step : zMd yX12_step cX12_step 2 (some .int) 1 := ⟨zt7 217 rfl rfl, zt1 15 (by decide +kernel) (by decide +kernel), ⟨(by decide +kernel), (by decide +kernel)⟩, (by decide +kernel), by decide⟩
theorem mv_X12_step : zMv yX12_step := ⟨zt7 215 (by decide +kernel) (by decide +kernel), zt7 216 (by decide +kernel) (by decide +kernel)⟩
theorem md_X12_steps : zMd yX12_steps cX12_steps 2 (some .int) 1 := ⟨zt7 139 rfl rfl, zt1 15 (by decide +kernel) (by decide +kernel), ⟨(by decide +kernel), (by decide +kernel)⟩, (by decide +kernel), by decide⟩
theorem mv_X12_steps : zMv yX12_steps := ⟨zt7 138 (by decide +kernel) (by decide +kernel), zp6 (q := (yX12_steps, 43)) 5 rfl rfl⟩
theorem md_X12_stopped : zMd yX12_stopped cX12_stopped 1 (some .int) 0 := ⟨zt8 71 rfl rfl, zt1 15 (by decide +kernel) (by decide +kernel), ⟨(by decide +kernel), (by decide +kernel)⟩, (by decide +kernel), by decide⟩
theorem mv_X12_stopped : zMv yX12_stopped := ⟨zt8 69 (by decide +kernel) (by decide +kernel), zt8 70 (by decide +kernel) (by decide +kernel)⟩
theorem md_X12_sumOf : zMd yX12_sumOf cX12_sumOf 7 (some .long) 1 := ⟨zt6 174 rfl rfl, zt1 15 (by decide +kernel) (by decide +kernel), ⟨(by decide +kernel), (by decide +kernel)⟩, (by decide +kernel), by decide⟩
theorem mv_X12_sumOf : zMv yX12_sumOf := ⟨zt6 173 (by decide +kernel) (by decide +kernel), zp3 (q := (yX12_sumOf, 43)) 13 rfl rfl⟩
theorem md_X12_takes0 : zMd yX12_takes0 cX12_takes0 3 (some .boolean) 1 := ⟨zt7 39 rfl rfl, zt1 15 (by decide +kernel) (by decide +kernel), ⟨(by decide +kernel), (by decide +kernel)⟩, (by decide +kernel), by decide⟩
theorem mv_X12_takes0 : zMv yX12_takes0 := ⟨zt7 38 (by decide +kernel) (by decide +kernel), zp5 (q := (yX12_takes0, 43)) 0 rfl rfl⟩
theorem md_X12_takesBack : zMd yX12_takesBack cX12_takesBack 3 none 1 := ⟨zt8 95 rfl rfl, zt1 15 (by decide +kernel) (by decide +kernel), ⟨(by decide +kernel), (by decide +kernel)⟩, (by decide +kernel), by decide⟩
theorem mv_X12_takesBack : zMv yX12_takesBack := ⟨zt8 94 (by decide +kernel) (by decide +kernel), zp7 (q := (yX12_takesBack, 43)) 13 rfl rfl⟩
theorem md_X12_takesOneOf : zMd yX12_takesOneOf cX12_takesOneOf 4 (some .boolean) 2 := ⟨zt7 75 rfl rfl, zt1 15 (by decide +kernel) (by decide +kernel), ⟨(by decide +kernel), (by decide +kernel)⟩, (by decide +kernel), by decide⟩
theorem mv_X12_takesOneOf : zMv yX12_takesOneOf := ⟨zt7 74 (by decide +kernel) (by decide +kernel), zp5 (q := (yX12_takesOneOf, 43)) 9 rfl rfl⟩
theorem md_X12_tears : zMd yX12_tears cX12_tears 1 (some .int) 0 := ⟨zt6 232 rfl rfl, zt1 15 (by decide +kernel) (by decide +kernel), ⟨(by decide +kernel), (by decide +kernel)⟩, (by decide +kernel), by decide⟩
theorem mv_X12_tears : zMv yX12_tears := ⟨zt6 230 (by decide +kernel) (by decide +kernel), zt6 231 (by decide +kernel) (by decide +kernel)⟩
theorem md_X12_tells : zMd yX12_tells cX12_tells 10 (some .int) 2 := ⟨zt6 166 rfl rfl, zt1 15 (by decide +kernel) (by decide +kernel), ⟨(by decide +kernel), (by decide +kernel)⟩, (by decide +kernel), by decide⟩
theorem mv_X12_tells : zMv yX12_tells := ⟨zt6 165 (by decide +kernel) (by decide +kernel), zp3 (q := (yX12_tells, 43)) 11 rfl rfl⟩
theorem md_X12_termAt : zMd yX12_termAt cX12_termAt 1 (some .int) 1 := ⟨zt6 146 rfl rfl, zt1 15 (by decide +kernel) (by decide +kernel), ⟨(by decide +kernel), (by decide +kernel)⟩, (by decide +kernel), by decide⟩
theorem ms_X12_termAt : Cond.static yX12_termAt ∈ zT := zt6 145 (by decide +kernel) (by decide +kernel)
theorem md_X12_termOf : zMd yX12_termOf cX12_termOf 7 (some .long) 1 := ⟨zt6 178 rfl rfl, zt1 15 (by decide +kernel) (by decide +kernel), ⟨(by decide +kernel), (by decide +kernel)⟩, (by decide +kernel), by decide⟩
theorem mv_X12_termOf : zMv yX12_termOf := ⟨zt6 177 (by decide +kernel) (by decide +kernel), zp3 (q := (yX12_termOf, 43)) 14 rfl rfl⟩
theorem md_X12_terms : zMd yX12_terms cX12_terms 4 (some .int) 2 := ⟨zt6 140 rfl rfl, zt1 15 (by decide +kernel) (by decide +kernel), ⟨(by decide +kernel), (by decide +kernel)⟩, (by decide +kernel), by decide⟩
theorem mv_X12_terms : zMv yX12_terms := ⟨zt6 138 (by decide +kernel) (by decide +kernel), zt6 139 (by decide +kernel) (by decide +kernel)⟩
theorem md_X12_testOf : zMd yX12_testOf cX12_testOf 4 (some .boolean) 1 := ⟨zt6 203 rfl rfl, zt1 15 (by decide +kernel) (by decide +kernel), ⟨(by decide +kernel), (by decide +kernel)⟩, (by decide +kernel), by decide⟩
theorem mv_X12_testOf : zMv yX12_testOf := ⟨zt6 202 (by decide +kernel) (by decide +kernel), zp4 (q := (yX12_testOf, 43)) 3 rfl rfl⟩
theorem md_X12_tick : zMd yX12_tick cX12_tick 2 (some .int) 1 := ⟨zt7 229 rfl rfl, zt1 15 (by decide +kernel) (by decide +kernel), ⟨(by decide +kernel), (by decide +kernel)⟩, (by decide +kernel), by decide⟩
theorem mv_X12_tick : zMv yX12_tick := ⟨zt7 227 (by decide +kernel) (by decide +kernel), zt7 228 (by decide +kernel) (by decide +kernel)⟩
theorem md_X12_ticks : zMd yX12_ticks cX12_ticks 2 (some .int) 1 := ⟨zt7 185 rfl rfl, zt1 15 (by decide +kernel) (by decide +kernel), ⟨(by decide +kernel), (by decide +kernel)⟩, (by decide +kernel), by decide⟩
theorem mv_X12_ticks : zMv yX12_ticks := ⟨zt7 184 (by decide +kernel) (by decide +kernel), zp6 (q := (yX12_ticks, 43)) 15 rfl rfl⟩
theorem md_X12_undo : zMd yX12_undo cX12_undo 3 (some .int) 0 := ⟨zt7 111 rfl rfl, zt1 15 (by decide +kernel) (by decide +kernel), ⟨(by decide +kernel), (by decide +kernel)⟩, (by decide +kernel), by decide⟩
theorem mv_X12_undo : zMv yX12_undo := ⟨zt7 109 (by decide +kernel) (by decide +kernel), zt7 110 (by decide +kernel) (by decide +kernel)⟩
theorem md_X12_valueOf0 : zMd yX12_valueOf0 cX12_valueOf0 3 (some .int) 1 := ⟨zt6 124 rfl rfl, zt1 15 (by decide +kernel) (by decide +kernel), ⟨(by decide +kernel), (by decide +kernel)⟩, (by decide +kernel), by decide⟩
theorem mv_X12_valueOf0 : zMv yX12_valueOf0 := ⟨zt6 123 (by decide +kernel) (by decide +kernel), zp3 (q := (yX12_valueOf0, 43)) 6 rfl rfl⟩
theorem md_X12_why : zMd yX12_why cX12_why 4 (some .int) 1 := ⟨zt8 17 rfl rfl, zt1 15 (by decide +kernel) (by decide +kernel), ⟨(by decide +kernel), (by decide +kernel)⟩, (by decide +kernel), by decide⟩
theorem mv_X12_why : zMv yX12_why := ⟨zt8 15 (by decide +kernel) (by decide +kernel), zt8 16 (by decide +kernel) (by decide +kernel)⟩
theorem md_X12_wordOf : zMd yX12_wordOf cX12_wordOf 8 (some .int) 2 := ⟨zt7 26 rfl rfl, zt1 15 (by decide +kernel) (by decide +kernel), ⟨(by decide +kernel), (by decide +kernel)⟩, (by decide +kernel), by decide⟩
theorem mv_X12_wordOf : zMv yX12_wordOf := ⟨zt7 25 (by decide +kernel) (by decide +kernel), zp4 (q := (yX12_wordOf, 43)) 13 rfl rfl⟩
theorem md_J6_bitCount_0f7a4 : zMd yJ6_bitCount_0f7a4 cJ6_bitCount_0f7a4 1 (some .int) 1 := ⟨zt4 122 rfl rfl, zt1 21 (by decide +kernel) (by decide +kernel), ⟨(by decide +kernel), (by decide +kernel)⟩, (by decide +kernel), by decide⟩
theorem ms_J6_bitCount_0f7a4 : Cond.static yJ6_bitCount_0f7a4 ∈ zT := zt4 121 (by decide +kernel) (by decide +kernel)
theorem md_J9_floorMod_7cf53 : zMd yJ9_floorMod_7cf53 cJ9_floorMod_7cf53 3 (some .int) 2 := ⟨zt4 66 rfl rfl, zt1 12 (by decide +kernel) (by decide +kernel), ⟨(by decide +kernel), (by decide +kernel)⟩, (by decide +kernel), by decide⟩
theorem ms_J9_floorMod_7cf53 : Cond.static yJ9_floorMod_7cf53 ∈ zT := zt4 65 (by decide +kernel) (by decide +kernel)
theorem md_J9_max_7cf53 : zMd yJ9_max_7cf53 cJ9_max_7cf53 2 (some .int) 2 := ⟨zt2 40 rfl rfl, zt1 12 (by decide +kernel) (by decide +kernel), ⟨(by decide +kernel), (by decide +kernel)⟩, (by decide +kernel), by decide⟩
theorem ms_J9_max_7cf53 : Cond.static yJ9_max_7cf53 ∈ zT := zt2 39 (by decide +kernel) (by decide +kernel)
theorem md_J9_max_f86c9 : zMd yJ9_max_f86c9 cJ9_max_f86c9 4 (some .long) 2 := ⟨zt4 149 rfl rfl, zt1 12 (by decide +kernel) (by decide +kernel), ⟨(by decide +kernel), (by decide +kernel)⟩, (by decide +kernel), by decide⟩
theorem ms_J9_max_f86c9 : Cond.static yJ9_max_f86c9 ∈ zT := zt4 148 (by decide +kernel) (by decide +kernel)
theorem md_J9_min_7cf53 : zMd yJ9_min_7cf53 cJ9_min_7cf53 2 (some .int) 2 := ⟨zt3 2 rfl rfl, zt1 12 (by decide +kernel) (by decide +kernel), ⟨(by decide +kernel), (by decide +kernel)⟩, (by decide +kernel), by decide⟩
