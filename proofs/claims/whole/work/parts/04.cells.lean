/-! ===== printed by wip/gen20.py: the cells that the two constructors make; classes, fields, methods, links ===== -/
abbrev c_obj : Nat := 0
abbrev c_told : Nat := 1
abbrev c_land : Nat := 2
abbrev c_land_ways : Nat := 3
abbrev c_land_grassCells : Nat := 4
abbrev c_land_grassWeeks : Nat := 5
abbrev c_land_grassNumbers : Nat := 6
abbrev c_land_grassTold : Nat := 7
abbrev c_land_dry : Nat := 8
abbrev c_herds : Nat := 9
abbrev c_herds_tongues : Nat := 10
abbrev c_herds_firstCells : Nat := 11
abbrev c_herds_firstWeeks : Nat := 12
abbrev c_herds_wishes : Nat := 13
abbrev c_herds_newsCamps : Nat := 14
abbrev c_herds_newsCells : Nat := 15
abbrev c_herds_newsWeeks : Nat := 16
abbrev c_herds_newsSeen : Nat := 17
abbrev c_herds_newsTold : Nat := 18
abbrev c_shelf : Nat := 19
abbrev c_shelf_kinds : Nat := 20
abbrev c_shelf_tongues : Nat := 21
abbrev c_shelf_levels : Nat := 22
abbrev c_shelf_pages : Nat := 23
abbrev c_shelf_grams : Nat := 24
abbrev c_shelf_actBooks : Nat := 25
abbrev c_shelf_actKinds : Nat := 26
abbrev c_shelf_actCamps : Nat := 27
abbrev c_shelf_actWeeks : Nat := 28
abbrev c_shelf_actTold : Nat := 29
abbrev c_shelf_actAmounts : Nat := 30
abbrev c_shelf_actCosts : Nat := 31
abbrev c_rules : Nat := 32
abbrev c_rules_deeds : Nat := 33
abbrev c_rules_numbers : Nat := 34
abbrev c_rules_tests : Nat := 35
abbrev c_rules_nots : Nat := 36
abbrev c_rules_subjects : Nat := 37
abbrev c_rules_signs : Nat := 38
abbrev c_rules_bounds : Nat := 39
abbrev c_readers : Nat := 40
abbrev c_readers_camps : Nat := 41
abbrev c_readers_books : Nat := 42
abbrev c_told_tape : Nat := 43
abbrev c_images : Nat := 44
abbrev c_now : Nat := 45
abbrev c_now_parts : Nat := 46
abbrev c_now_knownTo : Nat := 47
abbrev c_now_quarrels : Nat := 48
abbrev c_now_grass : Nat := 49
abbrev c_now_weights : Nat := 50
abbrev c_now_rests : Nat := 51
abbrev c_then : Nat := 52
abbrev c_then_parts : Nat := 53
abbrev c_then_knownTo : Nat := 54
abbrev c_then_quarrels : Nat := 55
abbrev c_then_grass : Nat := 56
abbrev c_then_weights : Nat := 57
abbrev c_then_rests : Nat := 58
abbrev c_walks : Nat := 59
abbrev c_walks_days : Nat := 60
abbrev c_walks_home : Nat := 61
abbrev c_walks_meets : Nat := 62
abbrev c_parser : Nat := 63
abbrev c_draft : Nat := 64
abbrev c_draft_deeds : Nat := 65
abbrev c_draft_numbers : Nat := 66
abbrev c_draft_tests : Nat := 67
abbrev c_draft_nots : Nat := 68
abbrev c_draft_subjects : Nat := 69
abbrev c_draft_signs : Nat := 70
abbrev c_draft_bounds : Nat := 71
abbrev c_parser_bytes : Nat := 72
abbrev c_box : Nat := 73
abbrev c_box_lightest : Nat := 74
abbrev c_facts : Nat := 75
abbrev c_sums : Nat := 76
abbrev r_obj : Nat := 77
abbrev r_tape : Nat := 78
abbrev r_size : Nat := 79
abbrev r_fault : Nat := 80
abbrev r_faultPlace : Nat := 81
abbrev r_now : Nat := 82
abbrev r_viewed : Nat := 83
abbrev r_cells : Nat := 84
abbrev r_wells : Nat := 85
abbrev r_ways : Nat := 86
abbrev r_camps : Nat := 87
abbrev r_campTongue : Nat := 88
abbrev r_campCell : Nat := 89
abbrev r_campWeek : Nat := 90
abbrev r_grasses : Nat := 91
abbrev r_grassCell : Nat := 92
abbrev r_grassWeek : Nat := 93
abbrev r_grassIs : Nat := 94
abbrev r_grassTold : Nat := 95
abbrev r_dryWeek : Nat := 96
abbrev r_newsMany : Nat := 97
abbrev r_newsCamp : Nat := 98
abbrev r_newsCell : Nat := 99
abbrev r_newsWeek : Nat := 100
abbrev r_newsSeen : Nat := 101
abbrev r_newsTold : Nat := 102
abbrev r_books : Nat := 103
abbrev r_bookKind : Nat := 104
abbrev r_bookTongue : Nat := 105
abbrev r_bookLevel : Nat := 106
abbrev r_bookPages : Nat := 107
abbrev r_bookGrams : Nat := 108
abbrev r_acts : Nat := 109
abbrev r_actBook : Nat := 110
abbrev r_actKind : Nat := 111
abbrev r_actCamp : Nat := 112
abbrev r_actWeek : Nat := 113
abbrev r_actTold : Nat := 114
abbrev r_actMany : Nat := 115
abbrev r_actCost : Nat := 116
abbrev r_lines : Nat := 117
abbrev r_lineAct : Nat := 118
abbrev r_lineNumber : Nat := 119
abbrev r_lineTests : Nat := 120
abbrev r_testWhat : Nat := 121
abbrev r_testSign : Nat := 122
abbrev r_testThan : Nat := 123
abbrev r_testNot : Nat := 124
abbrev r_wishes : Nat := 125
abbrev r_readers : Nat := 126
abbrev r_readerCamp : Nat := 127
abbrev r_readerBooks : Nat := 128
abbrev r_parts : Nat := 129
abbrev r_next : Nat := 130
abbrev r_weight : Nat := 131
abbrev r_rest : Nat := 132
abbrev r_quarrel : Nat := 133
abbrev r_seen : Nat := 134
abbrev r_newAct : Nat := 135
abbrev r_newNumber : Nat := 136
abbrev r_newTests : Nat := 137
abbrev r_newWhat : Nat := 138
abbrev r_newSign : Nat := 139
abbrev r_newThan : Nat := 140
abbrev r_newNot : Nat := 141
abbrev r_far : Nat := 142
abbrev r_least : Nat := 143
abbrev r_meets : Nat := 144
abbrev r_lightest : Nat := 145
abbrev r_kept : Nat := 146
abbrev fBox_bestWorth : Nat := 0
abbrev fBox_bestGrams : Nat := 1
abbrev fBox_bestSet : Nat := 2
abbrev fHerds_camps : Nat := 0
abbrev fHerds_news : Nat := 5
abbrev fLand_cells : Nat := 0
abbrev fLand_wells : Nat := 1
abbrev fLand_grasses : Nat := 3
abbrev fParser_fault : Nat := 1
abbrev fParser_place : Nat := 2
abbrev fParser_length : Nat := 4
abbrev fParser_next : Nat := 5
abbrev fParser_token : Nat := 6
abbrev fParser_start : Nat := 7
abbrev fParser_value : Nat := 8
abbrev fReaders_readers : Nat := 0
abbrev fRules_lines : Nat := 0
abbrev fShelf_books : Nat := 0
abbrev fShelf_acts : Nat := 6
abbrev fTold_tapeBytes : Nat := 6
abbrev fTold_fault : Nat := 7
abbrev fTold_faultPlace : Nat := 8
abbrev fTold_week : Nat := 9
abbrev fTold_view : Nat := 10
abbrev fWalks_bestSet : Nat := 0
abbrev fWalks_bestDays : Nat := 1
abbrev fWalks_bestMeets : Nat := 2
abbrev fWalks_known : Nat := 6
abbrev fWhere_limit : Nat := 6
abbrev fR_code : Nat := 0
abbrev fR_quarrels : Nat := 56
abbrev fR_ahead : Nat := 59
abbrev fR_length : Nat := 60
abbrev fR_begins : Nat := 61
abbrev fR_sort : Nat := 62
abbrev fR_value : Nat := 63
abbrev fR_word : Nat := 64
abbrev fR_wrongAt : Nat := 65
abbrev fR_laterFault : Nat := 66
abbrev fR_laterPlace : Nat := 67
abbrev fR_newLines : Nat := 68
abbrev fR_bestSet : Nat := 79
abbrev fR_bestMeets : Nat := 80
abbrev fR_bestDays : Nat := 81
def xTLl : List (Nat × Nat) := [(10, 0), (7, 0), (2, 0), (13, 100), (13, 60), (13, 60), (13, 60), (13, 60), (13, 100), (1, 0), (13, 6), (13, 6), (13, 6), (13, 48), (13, 60), (13, 60), (13, 60), (13, 60), (13, 60), (6, 0), (13, 24), (13, 24), (13, 24), (13, 24), (13, 24), (13, 150), (13, 150), (13, 150), (13, 150), (13, 150), (13, 150), (13, 150), (5, 0), (13, 16), (13, 16), (13, 16), (13, 64), (13, 64), (13, 64), (13, 64), (4, 0), (13, 12), (13, 12), (13, 500), (16, 3), (9, 0), (13, 6000), (13, 6), (13, 60), (13, 10), (13, 10), (13, 10), (9, 0), (13, 6000), (13, 6), (13, 60), (13, 10), (13, 10), (13, 10), (8, 0), (13, 100), (13, 5120), (13, 512), (3, 0), (5, 0), (13, 16), (13, 16), (13, 16), (13, 64), (13, 64), (13, 64), (13, 64), (13, 500), (0, 0), (13, 8), (13, 10), (13, 10), (11, 0), (12, 2000), (13, 4), (13, 4), (13, 4), (13, 4), (13, 4), (13, 4), (15, 40), (13, 400), (13, 4), (13, 24), (13, 24), (13, 24), (13, 4), (13, 240), (13, 240), (13, 240), (13, 240), (15, 400), (13, 4), (13, 240), (13, 240), (13, 240), (15, 240), (13, 240), (13, 4), (13, 96), (13, 96), (13, 96), (13, 96), (13, 96), (13, 4), (13, 600), (13, 600), (13, 600), (13, 600), (13, 600), (13, 600), (13, 600), (13, 4), (13, 64), (13, 64), (13, 64), (13, 256), (13, 256), (13, 256), (15, 256), (13, 192), (13, 4), (13, 48), (13, 48), (13, 10), (13, 10), (13, 10), (14, 10), (13, 60), (13, 10), (13, 17), (13, 17), (13, 17), (13, 69), (13, 69), (13, 69), (15, 69), (13, 100), (13, 5120), (13, 10), (13, 8), (15, 3)]
def xTL (i : Nat) : Nat × Nat := xTLl.getD i (0, 0)
def xRFl : List (List Nat) := [[2, 45, 46, 53, 60, 64, 74, 76, 77], [3, 10, 20, 33, 41, 44, 0, 0, 0, 0, 0], [0, 0, 4, 0, 5, 6, 7, 8, 9], [], [], [], [], [], [], [0, 11, 12, 13, 14, 0, 15, 16, 17, 18, 19], [], [], [], [], [], [], [], [], [], [0, 21, 22, 23, 24, 25, 0, 26, 27, 28, 29, 30, 31, 32], [], [], [], [], [], [], [], [], [], [], [], [], [0, 34, 35, 36, 37, 38, 39, 40], [], [], [], [], [], [], [], [0, 42, 43], [], [], [], [], [47, 48, 49, 50, 51, 52, 0], [], [], [], [], [], [], [54, 55, 56, 57, 58, 59, 0], [], [], [], [], [], [], [0, 0, 0, 61, 62, 63, 0], [], [], [], [65, 0, 0, 73, 0, 0, 0, 0, 0], [0, 66, 67, 68, 69, 70, 71, 72], [], [], [], [], [], [], [], [], [0, 0, 0, 75], [], [], [], [0, 79, 80, 81, 82, 83, 84, 85, 86, 87, 88, 89, 90, 91, 92, 93, 94, 95, 96, 97, 98, 99, 100, 101, 102, 103, 104, 105, 106, 107, 108, 109, 110, 111, 112, 113, 114, 115, 116, 117, 118, 119, 120, 121, 122, 123, 124, 125, 126, 127, 128, 129, 130, 131, 132, 133, 0, 134, 135, 0, 0, 0, 0, 0, 0, 0, 0, 0, 0, 136, 137, 138, 139, 140, 141, 142, 143, 144, 145, 0, 0, 0, 146, 147], [], [], [], [], [], [], [], [], [], [], [], [], [], [], [], [], [], [], [], [], [], [], [], [], [], [], [], [], [], [], [], [], [], [], [], [], [], [], [], [], [], [], [], [], [], [], [], [], [], [], [], [], [], [], [], [], [], [], [], [], [], [], [], [], [], [], [], [], []]
def xRF (i j : Nat) : Nat := (xRFl.getD i []).getD j 0
/-- the cells as the two constructors left them; behind them images may lie -/
def xSh (S : XS) : Prop := 147 ≤ S.1 ∧ (∀ i, i < 147 → S.2.1 i = xTL i) ∧ ∀ i, i < 147 → i ≠ c_images → ∀ j, S.2.2 i j = xRF i j
theorem sN {S : XS} (h : xSh S) {i : Nat} (hi : i < 147) : i < S.1 := Nat.lt_of_lt_of_le hi h.1
theorem sN_c_obj {S : XS} (h : xSh S) : c_obj < S.1 := sN h (by decide)
theorem sT_c_obj {S : XS} (h : xSh S) : xtag S c_obj = 10 := by show (S.2.1 _).1 = _; rw [h.2.1 _ (by decide)]; rfl
theorem sR_c_obj_0 {S : XS} (h : xSh S) : xref S c_obj 0 = c_told + 1 := by show S.2.2 _ _ = _; rw [h.2.2 _ (by decide) (by decide)]; rfl
theorem sR_c_obj_1 {S : XS} (h : xSh S) : xref S c_obj 1 = c_images + 1 := by show S.2.2 _ _ = _; rw [h.2.2 _ (by decide) (by decide)]; rfl
theorem sR_c_obj_2 {S : XS} (h : xSh S) : xref S c_obj 2 = c_now + 1 := by show S.2.2 _ _ = _; rw [h.2.2 _ (by decide) (by decide)]; rfl
theorem sR_c_obj_3 {S : XS} (h : xSh S) : xref S c_obj 3 = c_then + 1 := by show S.2.2 _ _ = _; rw [h.2.2 _ (by decide) (by decide)]; rfl
theorem sR_c_obj_4 {S : XS} (h : xSh S) : xref S c_obj 4 = c_walks + 1 := by show S.2.2 _ _ = _; rw [h.2.2 _ (by decide) (by decide)]; rfl
theorem sR_c_obj_5 {S : XS} (h : xSh S) : xref S c_obj 5 = c_parser + 1 := by show S.2.2 _ _ = _; rw [h.2.2 _ (by decide) (by decide)]; rfl
theorem sR_c_obj_6 {S : XS} (h : xSh S) : xref S c_obj 6 = c_box + 1 := by show S.2.2 _ _ = _; rw [h.2.2 _ (by decide) (by decide)]; rfl
theorem sR_c_obj_7 {S : XS} (h : xSh S) : xref S c_obj 7 = c_facts + 1 := by show S.2.2 _ _ = _; rw [h.2.2 _ (by decide) (by decide)]; rfl
theorem sR_c_obj_8 {S : XS} (h : xSh S) : xref S c_obj 8 = c_sums + 1 := by show S.2.2 _ _ = _; rw [h.2.2 _ (by decide) (by decide)]; rfl
theorem sN_c_told {S : XS} (h : xSh S) : c_told < S.1 := sN h (by decide)
theorem sT_c_told {S : XS} (h : xSh S) : xtag S c_told = 7 := by show (S.2.1 _).1 = _; rw [h.2.1 _ (by decide)]; rfl
theorem sR_c_told_0 {S : XS} (h : xSh S) : xref S c_told 0 = c_land + 1 := by show S.2.2 _ _ = _; rw [h.2.2 _ (by decide) (by decide)]; rfl
theorem sR_c_told_1 {S : XS} (h : xSh S) : xref S c_told 1 = c_herds + 1 := by show S.2.2 _ _ = _; rw [h.2.2 _ (by decide) (by decide)]; rfl
theorem sR_c_told_2 {S : XS} (h : xSh S) : xref S c_told 2 = c_shelf + 1 := by show S.2.2 _ _ = _; rw [h.2.2 _ (by decide) (by decide)]; rfl
theorem sR_c_told_3 {S : XS} (h : xSh S) : xref S c_told 3 = c_rules + 1 := by show S.2.2 _ _ = _; rw [h.2.2 _ (by decide) (by decide)]; rfl
theorem sR_c_told_4 {S : XS} (h : xSh S) : xref S c_told 4 = c_readers + 1 := by show S.2.2 _ _ = _; rw [h.2.2 _ (by decide) (by decide)]; rfl
theorem sR_c_told_5 {S : XS} (h : xSh S) : xref S c_told 5 = c_told_tape + 1 := by show S.2.2 _ _ = _; rw [h.2.2 _ (by decide) (by decide)]; rfl
theorem sN_c_land {S : XS} (h : xSh S) : c_land < S.1 := sN h (by decide)
theorem sT_c_land {S : XS} (h : xSh S) : xtag S c_land = 2 := by show (S.2.1 _).1 = _; rw [h.2.1 _ (by decide)]; rfl
theorem sR_c_land_2 {S : XS} (h : xSh S) : xref S c_land 2 = c_land_ways + 1 := by show S.2.2 _ _ = _; rw [h.2.2 _ (by decide) (by decide)]; rfl
theorem sR_c_land_4 {S : XS} (h : xSh S) : xref S c_land 4 = c_land_grassCells + 1 := by show S.2.2 _ _ = _; rw [h.2.2 _ (by decide) (by decide)]; rfl
theorem sR_c_land_5 {S : XS} (h : xSh S) : xref S c_land 5 = c_land_grassWeeks + 1 := by show S.2.2 _ _ = _; rw [h.2.2 _ (by decide) (by decide)]; rfl
theorem sR_c_land_6 {S : XS} (h : xSh S) : xref S c_land 6 = c_land_grassNumbers + 1 := by show S.2.2 _ _ = _; rw [h.2.2 _ (by decide) (by decide)]; rfl
theorem sR_c_land_7 {S : XS} (h : xSh S) : xref S c_land 7 = c_land_grassTold + 1 := by show S.2.2 _ _ = _; rw [h.2.2 _ (by decide) (by decide)]; rfl
theorem sR_c_land_8 {S : XS} (h : xSh S) : xref S c_land 8 = c_land_dry + 1 := by show S.2.2 _ _ = _; rw [h.2.2 _ (by decide) (by decide)]; rfl
theorem sN_c_land_ways {S : XS} (h : xSh S) : c_land_ways < S.1 := sN h (by decide)
theorem sT_c_land_ways {S : XS} (h : xSh S) : xtag S c_land_ways = 13 := by show (S.2.1 _).1 = _; rw [h.2.1 _ (by decide)]; rfl
theorem sL_c_land_ways {S : XS} (h : xSh S) : xlen S c_land_ways = 100 := by show (S.2.1 _).2 = _; rw [h.2.1 _ (by decide)]; rfl
theorem sN_c_land_grassCells {S : XS} (h : xSh S) : c_land_grassCells < S.1 := sN h (by decide)
theorem sT_c_land_grassCells {S : XS} (h : xSh S) : xtag S c_land_grassCells = 13 := by show (S.2.1 _).1 = _; rw [h.2.1 _ (by decide)]; rfl
theorem sL_c_land_grassCells {S : XS} (h : xSh S) : xlen S c_land_grassCells = 60 := by show (S.2.1 _).2 = _; rw [h.2.1 _ (by decide)]; rfl
theorem sN_c_land_grassWeeks {S : XS} (h : xSh S) : c_land_grassWeeks < S.1 := sN h (by decide)
theorem sT_c_land_grassWeeks {S : XS} (h : xSh S) : xtag S c_land_grassWeeks = 13 := by show (S.2.1 _).1 = _; rw [h.2.1 _ (by decide)]; rfl
theorem sL_c_land_grassWeeks {S : XS} (h : xSh S) : xlen S c_land_grassWeeks = 60 := by show (S.2.1 _).2 = _; rw [h.2.1 _ (by decide)]; rfl
theorem sN_c_land_grassNumbers {S : XS} (h : xSh S) : c_land_grassNumbers < S.1 := sN h (by decide)
theorem sT_c_land_grassNumbers {S : XS} (h : xSh S) : xtag S c_land_grassNumbers = 13 := by show (S.2.1 _).1 = _; rw [h.2.1 _ (by decide)]; rfl
theorem sL_c_land_grassNumbers {S : XS} (h : xSh S) : xlen S c_land_grassNumbers = 60 := by show (S.2.1 _).2 = _; rw [h.2.1 _ (by decide)]; rfl
theorem sN_c_land_grassTold {S : XS} (h : xSh S) : c_land_grassTold < S.1 := sN h (by decide)
theorem sT_c_land_grassTold {S : XS} (h : xSh S) : xtag S c_land_grassTold = 13 := by show (S.2.1 _).1 = _; rw [h.2.1 _ (by decide)]; rfl
theorem sL_c_land_grassTold {S : XS} (h : xSh S) : xlen S c_land_grassTold = 60 := by show (S.2.1 _).2 = _; rw [h.2.1 _ (by decide)]; rfl
theorem sN_c_land_dry {S : XS} (h : xSh S) : c_land_dry < S.1 := sN h (by decide)
theorem sT_c_land_dry {S : XS} (h : xSh S) : xtag S c_land_dry = 13 := by show (S.2.1 _).1 = _; rw [h.2.1 _ (by decide)]; rfl
theorem sL_c_land_dry {S : XS} (h : xSh S) : xlen S c_land_dry = 100 := by show (S.2.1 _).2 = _; rw [h.2.1 _ (by decide)]; rfl
theorem sN_c_herds {S : XS} (h : xSh S) : c_herds < S.1 := sN h (by decide)
theorem sT_c_herds {S : XS} (h : xSh S) : xtag S c_herds = 1 := by show (S.2.1 _).1 = _; rw [h.2.1 _ (by decide)]; rfl
theorem sR_c_herds_1 {S : XS} (h : xSh S) : xref S c_herds 1 = c_herds_tongues + 1 := by show S.2.2 _ _ = _; rw [h.2.2 _ (by decide) (by decide)]; rfl
theorem sR_c_herds_2 {S : XS} (h : xSh S) : xref S c_herds 2 = c_herds_firstCells + 1 := by show S.2.2 _ _ = _; rw [h.2.2 _ (by decide) (by decide)]; rfl
theorem sR_c_herds_3 {S : XS} (h : xSh S) : xref S c_herds 3 = c_herds_firstWeeks + 1 := by show S.2.2 _ _ = _; rw [h.2.2 _ (by decide) (by decide)]; rfl
theorem sR_c_herds_4 {S : XS} (h : xSh S) : xref S c_herds 4 = c_herds_wishes + 1 := by show S.2.2 _ _ = _; rw [h.2.2 _ (by decide) (by decide)]; rfl
theorem sR_c_herds_6 {S : XS} (h : xSh S) : xref S c_herds 6 = c_herds_newsCamps + 1 := by show S.2.2 _ _ = _; rw [h.2.2 _ (by decide) (by decide)]; rfl
theorem sR_c_herds_7 {S : XS} (h : xSh S) : xref S c_herds 7 = c_herds_newsCells + 1 := by show S.2.2 _ _ = _; rw [h.2.2 _ (by decide) (by decide)]; rfl
theorem sR_c_herds_8 {S : XS} (h : xSh S) : xref S c_herds 8 = c_herds_newsWeeks + 1 := by show S.2.2 _ _ = _; rw [h.2.2 _ (by decide) (by decide)]; rfl
theorem sR_c_herds_9 {S : XS} (h : xSh S) : xref S c_herds 9 = c_herds_newsSeen + 1 := by show S.2.2 _ _ = _; rw [h.2.2 _ (by decide) (by decide)]; rfl
theorem sR_c_herds_10 {S : XS} (h : xSh S) : xref S c_herds 10 = c_herds_newsTold + 1 := by show S.2.2 _ _ = _; rw [h.2.2 _ (by decide) (by decide)]; rfl
theorem sN_c_herds_tongues {S : XS} (h : xSh S) : c_herds_tongues < S.1 := sN h (by decide)
theorem sT_c_herds_tongues {S : XS} (h : xSh S) : xtag S c_herds_tongues = 13 := by show (S.2.1 _).1 = _; rw [h.2.1 _ (by decide)]; rfl
theorem sL_c_herds_tongues {S : XS} (h : xSh S) : xlen S c_herds_tongues = 6 := by show (S.2.1 _).2 = _; rw [h.2.1 _ (by decide)]; rfl
theorem sN_c_herds_firstCells {S : XS} (h : xSh S) : c_herds_firstCells < S.1 := sN h (by decide)
theorem sT_c_herds_firstCells {S : XS} (h : xSh S) : xtag S c_herds_firstCells = 13 := by show (S.2.1 _).1 = _; rw [h.2.1 _ (by decide)]; rfl
theorem sL_c_herds_firstCells {S : XS} (h : xSh S) : xlen S c_herds_firstCells = 6 := by show (S.2.1 _).2 = _; rw [h.2.1 _ (by decide)]; rfl
theorem sN_c_herds_firstWeeks {S : XS} (h : xSh S) : c_herds_firstWeeks < S.1 := sN h (by decide)
theorem sT_c_herds_firstWeeks {S : XS} (h : xSh S) : xtag S c_herds_firstWeeks = 13 := by show (S.2.1 _).1 = _; rw [h.2.1 _ (by decide)]; rfl
theorem sL_c_herds_firstWeeks {S : XS} (h : xSh S) : xlen S c_herds_firstWeeks = 6 := by show (S.2.1 _).2 = _; rw [h.2.1 _ (by decide)]; rfl
theorem sN_c_herds_wishes {S : XS} (h : xSh S) : c_herds_wishes < S.1 := sN h (by decide)
theorem sT_c_herds_wishes {S : XS} (h : xSh S) : xtag S c_herds_wishes = 13 := by show (S.2.1 _).1 = _; rw [h.2.1 _ (by decide)]; rfl
theorem sL_c_herds_wishes {S : XS} (h : xSh S) : xlen S c_herds_wishes = 48 := by show (S.2.1 _).2 = _; rw [h.2.1 _ (by decide)]; rfl
theorem sN_c_herds_newsCamps {S : XS} (h : xSh S) : c_herds_newsCamps < S.1 := sN h (by decide)
theorem sT_c_herds_newsCamps {S : XS} (h : xSh S) : xtag S c_herds_newsCamps = 13 := by show (S.2.1 _).1 = _; rw [h.2.1 _ (by decide)]; rfl
theorem sL_c_herds_newsCamps {S : XS} (h : xSh S) : xlen S c_herds_newsCamps = 60 := by show (S.2.1 _).2 = _; rw [h.2.1 _ (by decide)]; rfl
theorem sN_c_herds_newsCells {S : XS} (h : xSh S) : c_herds_newsCells < S.1 := sN h (by decide)
theorem sT_c_herds_newsCells {S : XS} (h : xSh S) : xtag S c_herds_newsCells = 13 := by show (S.2.1 _).1 = _; rw [h.2.1 _ (by decide)]; rfl
theorem sL_c_herds_newsCells {S : XS} (h : xSh S) : xlen S c_herds_newsCells = 60 := by show (S.2.1 _).2 = _; rw [h.2.1 _ (by decide)]; rfl
theorem sN_c_herds_newsWeeks {S : XS} (h : xSh S) : c_herds_newsWeeks < S.1 := sN h (by decide)
theorem sT_c_herds_newsWeeks {S : XS} (h : xSh S) : xtag S c_herds_newsWeeks = 13 := by show (S.2.1 _).1 = _; rw [h.2.1 _ (by decide)]; rfl
theorem sL_c_herds_newsWeeks {S : XS} (h : xSh S) : xlen S c_herds_newsWeeks = 60 := by show (S.2.1 _).2 = _; rw [h.2.1 _ (by decide)]; rfl
theorem sN_c_herds_newsSeen {S : XS} (h : xSh S) : c_herds_newsSeen < S.1 := sN h (by decide)
theorem sT_c_herds_newsSeen {S : XS} (h : xSh S) : xtag S c_herds_newsSeen = 13 := by show (S.2.1 _).1 = _; rw [h.2.1 _ (by decide)]; rfl
theorem sL_c_herds_newsSeen {S : XS} (h : xSh S) : xlen S c_herds_newsSeen = 60 := by show (S.2.1 _).2 = _; rw [h.2.1 _ (by decide)]; rfl
theorem sN_c_herds_newsTold {S : XS} (h : xSh S) : c_herds_newsTold < S.1 := sN h (by decide)
theorem sT_c_herds_newsTold {S : XS} (h : xSh S) : xtag S c_herds_newsTold = 13 := by show (S.2.1 _).1 = _; rw [h.2.1 _ (by decide)]; rfl
theorem sL_c_herds_newsTold {S : XS} (h : xSh S) : xlen S c_herds_newsTold = 60 := by show (S.2.1 _).2 = _; rw [h.2.1 _ (by decide)]; rfl
theorem sN_c_shelf {S : XS} (h : xSh S) : c_shelf < S.1 := sN h (by decide)
theorem sT_c_shelf {S : XS} (h : xSh S) : xtag S c_shelf = 6 := by show (S.2.1 _).1 = _; rw [h.2.1 _ (by decide)]; rfl
theorem sR_c_shelf_1 {S : XS} (h : xSh S) : xref S c_shelf 1 = c_shelf_kinds + 1 := by show S.2.2 _ _ = _; rw [h.2.2 _ (by decide) (by decide)]; rfl
theorem sR_c_shelf_2 {S : XS} (h : xSh S) : xref S c_shelf 2 = c_shelf_tongues + 1 := by show S.2.2 _ _ = _; rw [h.2.2 _ (by decide) (by decide)]; rfl
theorem sR_c_shelf_3 {S : XS} (h : xSh S) : xref S c_shelf 3 = c_shelf_levels + 1 := by show S.2.2 _ _ = _; rw [h.2.2 _ (by decide) (by decide)]; rfl
theorem sR_c_shelf_4 {S : XS} (h : xSh S) : xref S c_shelf 4 = c_shelf_pages + 1 := by show S.2.2 _ _ = _; rw [h.2.2 _ (by decide) (by decide)]; rfl
theorem sR_c_shelf_5 {S : XS} (h : xSh S) : xref S c_shelf 5 = c_shelf_grams + 1 := by show S.2.2 _ _ = _; rw [h.2.2 _ (by decide) (by decide)]; rfl
theorem sR_c_shelf_7 {S : XS} (h : xSh S) : xref S c_shelf 7 = c_shelf_actBooks + 1 := by show S.2.2 _ _ = _; rw [h.2.2 _ (by decide) (by decide)]; rfl
theorem sR_c_shelf_8 {S : XS} (h : xSh S) : xref S c_shelf 8 = c_shelf_actKinds + 1 := by show S.2.2 _ _ = _; rw [h.2.2 _ (by decide) (by decide)]; rfl
theorem sR_c_shelf_9 {S : XS} (h : xSh S) : xref S c_shelf 9 = c_shelf_actCamps + 1 := by show S.2.2 _ _ = _; rw [h.2.2 _ (by decide) (by decide)]; rfl
theorem sR_c_shelf_10 {S : XS} (h : xSh S) : xref S c_shelf 10 = c_shelf_actWeeks + 1 := by show S.2.2 _ _ = _; rw [h.2.2 _ (by decide) (by decide)]; rfl
theorem sR_c_shelf_11 {S : XS} (h : xSh S) : xref S c_shelf 11 = c_shelf_actTold + 1 := by show S.2.2 _ _ = _; rw [h.2.2 _ (by decide) (by decide)]; rfl
theorem sR_c_shelf_12 {S : XS} (h : xSh S) : xref S c_shelf 12 = c_shelf_actAmounts + 1 := by show S.2.2 _ _ = _; rw [h.2.2 _ (by decide) (by decide)]; rfl
theorem sR_c_shelf_13 {S : XS} (h : xSh S) : xref S c_shelf 13 = c_shelf_actCosts + 1 := by show S.2.2 _ _ = _; rw [h.2.2 _ (by decide) (by decide)]; rfl
theorem sN_c_shelf_kinds {S : XS} (h : xSh S) : c_shelf_kinds < S.1 := sN h (by decide)
theorem sT_c_shelf_kinds {S : XS} (h : xSh S) : xtag S c_shelf_kinds = 13 := by show (S.2.1 _).1 = _; rw [h.2.1 _ (by decide)]; rfl
theorem sL_c_shelf_kinds {S : XS} (h : xSh S) : xlen S c_shelf_kinds = 24 := by show (S.2.1 _).2 = _; rw [h.2.1 _ (by decide)]; rfl
theorem sN_c_shelf_tongues {S : XS} (h : xSh S) : c_shelf_tongues < S.1 := sN h (by decide)
theorem sT_c_shelf_tongues {S : XS} (h : xSh S) : xtag S c_shelf_tongues = 13 := by show (S.2.1 _).1 = _; rw [h.2.1 _ (by decide)]; rfl
theorem sL_c_shelf_tongues {S : XS} (h : xSh S) : xlen S c_shelf_tongues = 24 := by show (S.2.1 _).2 = _; rw [h.2.1 _ (by decide)]; rfl
theorem sN_c_shelf_levels {S : XS} (h : xSh S) : c_shelf_levels < S.1 := sN h (by decide)
theorem sT_c_shelf_levels {S : XS} (h : xSh S) : xtag S c_shelf_levels = 13 := by show (S.2.1 _).1 = _; rw [h.2.1 _ (by decide)]; rfl
theorem sL_c_shelf_levels {S : XS} (h : xSh S) : xlen S c_shelf_levels = 24 := by show (S.2.1 _).2 = _; rw [h.2.1 _ (by decide)]; rfl
theorem sN_c_shelf_pages {S : XS} (h : xSh S) : c_shelf_pages < S.1 := sN h (by decide)
theorem sT_c_shelf_pages {S : XS} (h : xSh S) : xtag S c_shelf_pages = 13 := by show (S.2.1 _).1 = _; rw [h.2.1 _ (by decide)]; rfl
theorem sL_c_shelf_pages {S : XS} (h : xSh S) : xlen S c_shelf_pages = 24 := by show (S.2.1 _).2 = _; rw [h.2.1 _ (by decide)]; rfl
theorem sN_c_shelf_grams {S : XS} (h : xSh S) : c_shelf_grams < S.1 := sN h (by decide)
theorem sT_c_shelf_grams {S : XS} (h : xSh S) : xtag S c_shelf_grams = 13 := by show (S.2.1 _).1 = _; rw [h.2.1 _ (by decide)]; rfl
theorem sL_c_shelf_grams {S : XS} (h : xSh S) : xlen S c_shelf_grams = 24 := by show (S.2.1 _).2 = _; rw [h.2.1 _ (by decide)]; rfl
theorem sN_c_shelf_actBooks {S : XS} (h : xSh S) : c_shelf_actBooks < S.1 := sN h (by decide)
theorem sT_c_shelf_actBooks {S : XS} (h : xSh S) : xtag S c_shelf_actBooks = 13 := by show (S.2.1 _).1 = _; rw [h.2.1 _ (by decide)]; rfl
theorem sL_c_shelf_actBooks {S : XS} (h : xSh S) : xlen S c_shelf_actBooks = 150 := by show (S.2.1 _).2 = _; rw [h.2.1 _ (by decide)]; rfl
theorem sN_c_shelf_actKinds {S : XS} (h : xSh S) : c_shelf_actKinds < S.1 := sN h (by decide)
theorem sT_c_shelf_actKinds {S : XS} (h : xSh S) : xtag S c_shelf_actKinds = 13 := by show (S.2.1 _).1 = _; rw [h.2.1 _ (by decide)]; rfl
theorem sL_c_shelf_actKinds {S : XS} (h : xSh S) : xlen S c_shelf_actKinds = 150 := by show (S.2.1 _).2 = _; rw [h.2.1 _ (by decide)]; rfl
theorem sN_c_shelf_actCamps {S : XS} (h : xSh S) : c_shelf_actCamps < S.1 := sN h (by decide)
theorem sT_c_shelf_actCamps {S : XS} (h : xSh S) : xtag S c_shelf_actCamps = 13 := by show (S.2.1 _).1 = _; rw [h.2.1 _ (by decide)]; rfl
theorem sL_c_shelf_actCamps {S : XS} (h : xSh S) : xlen S c_shelf_actCamps = 150 := by show (S.2.1 _).2 = _; rw [h.2.1 _ (by decide)]; rfl
theorem sN_c_shelf_actWeeks {S : XS} (h : xSh S) : c_shelf_actWeeks < S.1 := sN h (by decide)
theorem sT_c_shelf_actWeeks {S : XS} (h : xSh S) : xtag S c_shelf_actWeeks = 13 := by show (S.2.1 _).1 = _; rw [h.2.1 _ (by decide)]; rfl
theorem sL_c_shelf_actWeeks {S : XS} (h : xSh S) : xlen S c_shelf_actWeeks = 150 := by show (S.2.1 _).2 = _; rw [h.2.1 _ (by decide)]; rfl
theorem sN_c_shelf_actTold {S : XS} (h : xSh S) : c_shelf_actTold < S.1 := sN h (by decide)
theorem sT_c_shelf_actTold {S : XS} (h : xSh S) : xtag S c_shelf_actTold = 13 := by show (S.2.1 _).1 = _; rw [h.2.1 _ (by decide)]; rfl
theorem sL_c_shelf_actTold {S : XS} (h : xSh S) : xlen S c_shelf_actTold = 150 := by show (S.2.1 _).2 = _; rw [h.2.1 _ (by decide)]; rfl
theorem sN_c_shelf_actAmounts {S : XS} (h : xSh S) : c_shelf_actAmounts < S.1 := sN h (by decide)
theorem sT_c_shelf_actAmounts {S : XS} (h : xSh S) : xtag S c_shelf_actAmounts = 13 := by show (S.2.1 _).1 = _; rw [h.2.1 _ (by decide)]; rfl
theorem sL_c_shelf_actAmounts {S : XS} (h : xSh S) : xlen S c_shelf_actAmounts = 150 := by show (S.2.1 _).2 = _; rw [h.2.1 _ (by decide)]; rfl
theorem sN_c_shelf_actCosts {S : XS} (h : xSh S) : c_shelf_actCosts < S.1 := sN h (by decide)
theorem sT_c_shelf_actCosts {S : XS} (h : xSh S) : xtag S c_shelf_actCosts = 13 := by show (S.2.1 _).1 = _; rw [h.2.1 _ (by decide)]; rfl
theorem sL_c_shelf_actCosts {S : XS} (h : xSh S) : xlen S c_shelf_actCosts = 150 := by show (S.2.1 _).2 = _; rw [h.2.1 _ (by decide)]; rfl
theorem sN_c_rules {S : XS} (h : xSh S) : c_rules < S.1 := sN h (by decide)
theorem sT_c_rules {S : XS} (h : xSh S) : xtag S c_rules = 5 := by show (S.2.1 _).1 = _; rw [h.2.1 _ (by decide)]; rfl
theorem sR_c_rules_1 {S : XS} (h : xSh S) : xref S c_rules 1 = c_rules_deeds + 1 := by show S.2.2 _ _ = _; rw [h.2.2 _ (by decide) (by decide)]; rfl
theorem sR_c_rules_2 {S : XS} (h : xSh S) : xref S c_rules 2 = c_rules_numbers + 1 := by show S.2.2 _ _ = _; rw [h.2.2 _ (by decide) (by decide)]; rfl
theorem sR_c_rules_3 {S : XS} (h : xSh S) : xref S c_rules 3 = c_rules_tests + 1 := by show S.2.2 _ _ = _; rw [h.2.2 _ (by decide) (by decide)]; rfl
theorem sR_c_rules_4 {S : XS} (h : xSh S) : xref S c_rules 4 = c_rules_nots + 1 := by show S.2.2 _ _ = _; rw [h.2.2 _ (by decide) (by decide)]; rfl
theorem sR_c_rules_5 {S : XS} (h : xSh S) : xref S c_rules 5 = c_rules_subjects + 1 := by show S.2.2 _ _ = _; rw [h.2.2 _ (by decide) (by decide)]; rfl
theorem sR_c_rules_6 {S : XS} (h : xSh S) : xref S c_rules 6 = c_rules_signs + 1 := by show S.2.2 _ _ = _; rw [h.2.2 _ (by decide) (by decide)]; rfl
theorem sR_c_rules_7 {S : XS} (h : xSh S) : xref S c_rules 7 = c_rules_bounds + 1 := by show S.2.2 _ _ = _; rw [h.2.2 _ (by decide) (by decide)]; rfl
theorem sN_c_rules_deeds {S : XS} (h : xSh S) : c_rules_deeds < S.1 := sN h (by decide)
theorem sT_c_rules_deeds {S : XS} (h : xSh S) : xtag S c_rules_deeds = 13 := by show (S.2.1 _).1 = _; rw [h.2.1 _ (by decide)]; rfl
theorem sL_c_rules_deeds {S : XS} (h : xSh S) : xlen S c_rules_deeds = 16 := by show (S.2.1 _).2 = _; rw [h.2.1 _ (by decide)]; rfl
theorem sN_c_rules_numbers {S : XS} (h : xSh S) : c_rules_numbers < S.1 := sN h (by decide)
theorem sT_c_rules_numbers {S : XS} (h : xSh S) : xtag S c_rules_numbers = 13 := by show (S.2.1 _).1 = _; rw [h.2.1 _ (by decide)]; rfl
theorem sL_c_rules_numbers {S : XS} (h : xSh S) : xlen S c_rules_numbers = 16 := by show (S.2.1 _).2 = _; rw [h.2.1 _ (by decide)]; rfl
theorem sN_c_rules_tests {S : XS} (h : xSh S) : c_rules_tests < S.1 := sN h (by decide)
theorem sT_c_rules_tests {S : XS} (h : xSh S) : xtag S c_rules_tests = 13 := by show (S.2.1 _).1 = _; rw [h.2.1 _ (by decide)]; rfl
theorem sL_c_rules_tests {S : XS} (h : xSh S) : xlen S c_rules_tests = 16 := by show (S.2.1 _).2 = _; rw [h.2.1 _ (by decide)]; rfl
theorem sN_c_rules_nots {S : XS} (h : xSh S) : c_rules_nots < S.1 := sN h (by decide)
theorem sT_c_rules_nots {S : XS} (h : xSh S) : xtag S c_rules_nots = 13 := by show (S.2.1 _).1 = _; rw [h.2.1 _ (by decide)]; rfl
theorem sL_c_rules_nots {S : XS} (h : xSh S) : xlen S c_rules_nots = 64 := by show (S.2.1 _).2 = _; rw [h.2.1 _ (by decide)]; rfl
theorem sN_c_rules_subjects {S : XS} (h : xSh S) : c_rules_subjects < S.1 := sN h (by decide)
theorem sT_c_rules_subjects {S : XS} (h : xSh S) : xtag S c_rules_subjects = 13 := by show (S.2.1 _).1 = _; rw [h.2.1 _ (by decide)]; rfl
theorem sL_c_rules_subjects {S : XS} (h : xSh S) : xlen S c_rules_subjects = 64 := by show (S.2.1 _).2 = _; rw [h.2.1 _ (by decide)]; rfl
theorem sN_c_rules_signs {S : XS} (h : xSh S) : c_rules_signs < S.1 := sN h (by decide)
theorem sT_c_rules_signs {S : XS} (h : xSh S) : xtag S c_rules_signs = 13 := by show (S.2.1 _).1 = _; rw [h.2.1 _ (by decide)]; rfl
theorem sL_c_rules_signs {S : XS} (h : xSh S) : xlen S c_rules_signs = 64 := by show (S.2.1 _).2 = _; rw [h.2.1 _ (by decide)]; rfl
theorem sN_c_rules_bounds {S : XS} (h : xSh S) : c_rules_bounds < S.1 := sN h (by decide)
theorem sT_c_rules_bounds {S : XS} (h : xSh S) : xtag S c_rules_bounds = 13 := by show (S.2.1 _).1 = _; rw [h.2.1 _ (by decide)]; rfl
theorem sL_c_rules_bounds {S : XS} (h : xSh S) : xlen S c_rules_bounds = 64 := by show (S.2.1 _).2 = _; rw [h.2.1 _ (by decide)]; rfl
theorem sN_c_readers {S : XS} (h : xSh S) : c_readers < S.1 := sN h (by decide)
theorem sT_c_readers {S : XS} (h : xSh S) : xtag S c_readers = 4 := by show (S.2.1 _).1 = _; rw [h.2.1 _ (by decide)]; rfl
theorem sR_c_readers_1 {S : XS} (h : xSh S) : xref S c_readers 1 = c_readers_camps + 1 := by show S.2.2 _ _ = _; rw [h.2.2 _ (by decide) (by decide)]; rfl
theorem sR_c_readers_2 {S : XS} (h : xSh S) : xref S c_readers 2 = c_readers_books + 1 := by show S.2.2 _ _ = _; rw [h.2.2 _ (by decide) (by decide)]; rfl
theorem sN_c_readers_camps {S : XS} (h : xSh S) : c_readers_camps < S.1 := sN h (by decide)
theorem sT_c_readers_camps {S : XS} (h : xSh S) : xtag S c_readers_camps = 13 := by show (S.2.1 _).1 = _; rw [h.2.1 _ (by decide)]; rfl
theorem sL_c_readers_camps {S : XS} (h : xSh S) : xlen S c_readers_camps = 12 := by show (S.2.1 _).2 = _; rw [h.2.1 _ (by decide)]; rfl
theorem sN_c_readers_books {S : XS} (h : xSh S) : c_readers_books < S.1 := sN h (by decide)
theorem sT_c_readers_books {S : XS} (h : xSh S) : xtag S c_readers_books = 13 := by show (S.2.1 _).1 = _; rw [h.2.1 _ (by decide)]; rfl
theorem sL_c_readers_books {S : XS} (h : xSh S) : xlen S c_readers_books = 12 := by show (S.2.1 _).2 = _; rw [h.2.1 _ (by decide)]; rfl
theorem sN_c_told_tape {S : XS} (h : xSh S) : c_told_tape < S.1 := sN h (by decide)
theorem sT_c_told_tape {S : XS} (h : xSh S) : xtag S c_told_tape = 13 := by show (S.2.1 _).1 = _; rw [h.2.1 _ (by decide)]; rfl
theorem sL_c_told_tape {S : XS} (h : xSh S) : xlen S c_told_tape = 500 := by show (S.2.1 _).2 = _; rw [h.2.1 _ (by decide)]; rfl
theorem sN_c_images {S : XS} (h : xSh S) : c_images < S.1 := sN h (by decide)
theorem sT_c_images {S : XS} (h : xSh S) : xtag S c_images = 16 := by show (S.2.1 _).1 = _; rw [h.2.1 _ (by decide)]; rfl
theorem sL_c_images {S : XS} (h : xSh S) : xlen S c_images = 3 := by show (S.2.1 _).2 = _; rw [h.2.1 _ (by decide)]; rfl
theorem sN_c_now {S : XS} (h : xSh S) : c_now < S.1 := sN h (by decide)
theorem sT_c_now {S : XS} (h : xSh S) : xtag S c_now = 9 := by show (S.2.1 _).1 = _; rw [h.2.1 _ (by decide)]; rfl
theorem sR_c_now_0 {S : XS} (h : xSh S) : xref S c_now 0 = c_now_parts + 1 := by show S.2.2 _ _ = _; rw [h.2.2 _ (by decide) (by decide)]; rfl
theorem sR_c_now_1 {S : XS} (h : xSh S) : xref S c_now 1 = c_now_knownTo + 1 := by show S.2.2 _ _ = _; rw [h.2.2 _ (by decide) (by decide)]; rfl
theorem sR_c_now_2 {S : XS} (h : xSh S) : xref S c_now 2 = c_now_quarrels + 1 := by show S.2.2 _ _ = _; rw [h.2.2 _ (by decide) (by decide)]; rfl
theorem sR_c_now_3 {S : XS} (h : xSh S) : xref S c_now 3 = c_now_grass + 1 := by show S.2.2 _ _ = _; rw [h.2.2 _ (by decide) (by decide)]; rfl
theorem sR_c_now_4 {S : XS} (h : xSh S) : xref S c_now 4 = c_now_weights + 1 := by show S.2.2 _ _ = _; rw [h.2.2 _ (by decide) (by decide)]; rfl
theorem sR_c_now_5 {S : XS} (h : xSh S) : xref S c_now 5 = c_now_rests + 1 := by show S.2.2 _ _ = _; rw [h.2.2 _ (by decide) (by decide)]; rfl
theorem sN_c_now_parts {S : XS} (h : xSh S) : c_now_parts < S.1 := sN h (by decide)
theorem sT_c_now_parts {S : XS} (h : xSh S) : xtag S c_now_parts = 13 := by show (S.2.1 _).1 = _; rw [h.2.1 _ (by decide)]; rfl
theorem sL_c_now_parts {S : XS} (h : xSh S) : xlen S c_now_parts = 6000 := by show (S.2.1 _).2 = _; rw [h.2.1 _ (by decide)]; rfl
theorem sN_c_now_knownTo {S : XS} (h : xSh S) : c_now_knownTo < S.1 := sN h (by decide)
theorem sT_c_now_knownTo {S : XS} (h : xSh S) : xtag S c_now_knownTo = 13 := by show (S.2.1 _).1 = _; rw [h.2.1 _ (by decide)]; rfl
theorem sL_c_now_knownTo {S : XS} (h : xSh S) : xlen S c_now_knownTo = 6 := by show (S.2.1 _).2 = _; rw [h.2.1 _ (by decide)]; rfl
theorem sN_c_now_quarrels {S : XS} (h : xSh S) : c_now_quarrels < S.1 := sN h (by decide)
theorem sT_c_now_quarrels {S : XS} (h : xSh S) : xtag S c_now_quarrels = 13 := by show (S.2.1 _).1 = _; rw [h.2.1 _ (by decide)]; rfl
theorem sL_c_now_quarrels {S : XS} (h : xSh S) : xlen S c_now_quarrels = 60 := by show (S.2.1 _).2 = _; rw [h.2.1 _ (by decide)]; rfl
theorem sN_c_now_grass {S : XS} (h : xSh S) : c_now_grass < S.1 := sN h (by decide)
theorem sT_c_now_grass {S : XS} (h : xSh S) : xtag S c_now_grass = 13 := by show (S.2.1 _).1 = _; rw [h.2.1 _ (by decide)]; rfl
theorem sL_c_now_grass {S : XS} (h : xSh S) : xlen S c_now_grass = 10 := by show (S.2.1 _).2 = _; rw [h.2.1 _ (by decide)]; rfl
theorem sN_c_now_weights {S : XS} (h : xSh S) : c_now_weights < S.1 := sN h (by decide)
theorem sT_c_now_weights {S : XS} (h : xSh S) : xtag S c_now_weights = 13 := by show (S.2.1 _).1 = _; rw [h.2.1 _ (by decide)]; rfl
theorem sL_c_now_weights {S : XS} (h : xSh S) : xlen S c_now_weights = 10 := by show (S.2.1 _).2 = _; rw [h.2.1 _ (by decide)]; rfl
theorem sN_c_now_rests {S : XS} (h : xSh S) : c_now_rests < S.1 := sN h (by decide)
theorem sT_c_now_rests {S : XS} (h : xSh S) : xtag S c_now_rests = 13 := by show (S.2.1 _).1 = _; rw [h.2.1 _ (by decide)]; rfl
theorem sL_c_now_rests {S : XS} (h : xSh S) : xlen S c_now_rests = 10 := by show (S.2.1 _).2 = _; rw [h.2.1 _ (by decide)]; rfl
theorem sN_c_then {S : XS} (h : xSh S) : c_then < S.1 := sN h (by decide)
theorem sT_c_then {S : XS} (h : xSh S) : xtag S c_then = 9 := by show (S.2.1 _).1 = _; rw [h.2.1 _ (by decide)]; rfl
theorem sR_c_then_0 {S : XS} (h : xSh S) : xref S c_then 0 = c_then_parts + 1 := by show S.2.2 _ _ = _; rw [h.2.2 _ (by decide) (by decide)]; rfl
theorem sR_c_then_1 {S : XS} (h : xSh S) : xref S c_then 1 = c_then_knownTo + 1 := by show S.2.2 _ _ = _; rw [h.2.2 _ (by decide) (by decide)]; rfl
theorem sR_c_then_2 {S : XS} (h : xSh S) : xref S c_then 2 = c_then_quarrels + 1 := by show S.2.2 _ _ = _; rw [h.2.2 _ (by decide) (by decide)]; rfl
theorem sR_c_then_3 {S : XS} (h : xSh S) : xref S c_then 3 = c_then_grass + 1 := by show S.2.2 _ _ = _; rw [h.2.2 _ (by decide) (by decide)]; rfl
theorem sR_c_then_4 {S : XS} (h : xSh S) : xref S c_then 4 = c_then_weights + 1 := by show S.2.2 _ _ = _; rw [h.2.2 _ (by decide) (by decide)]; rfl
theorem sR_c_then_5 {S : XS} (h : xSh S) : xref S c_then 5 = c_then_rests + 1 := by show S.2.2 _ _ = _; rw [h.2.2 _ (by decide) (by decide)]; rfl
theorem sN_c_then_parts {S : XS} (h : xSh S) : c_then_parts < S.1 := sN h (by decide)
theorem sT_c_then_parts {S : XS} (h : xSh S) : xtag S c_then_parts = 13 := by show (S.2.1 _).1 = _; rw [h.2.1 _ (by decide)]; rfl
theorem sL_c_then_parts {S : XS} (h : xSh S) : xlen S c_then_parts = 6000 := by show (S.2.1 _).2 = _; rw [h.2.1 _ (by decide)]; rfl
theorem sN_c_then_knownTo {S : XS} (h : xSh S) : c_then_knownTo < S.1 := sN h (by decide)
theorem sT_c_then_knownTo {S : XS} (h : xSh S) : xtag S c_then_knownTo = 13 := by show (S.2.1 _).1 = _; rw [h.2.1 _ (by decide)]; rfl
theorem sL_c_then_knownTo {S : XS} (h : xSh S) : xlen S c_then_knownTo = 6 := by show (S.2.1 _).2 = _; rw [h.2.1 _ (by decide)]; rfl
theorem sN_c_then_quarrels {S : XS} (h : xSh S) : c_then_quarrels < S.1 := sN h (by decide)
theorem sT_c_then_quarrels {S : XS} (h : xSh S) : xtag S c_then_quarrels = 13 := by show (S.2.1 _).1 = _; rw [h.2.1 _ (by decide)]; rfl
theorem sL_c_then_quarrels {S : XS} (h : xSh S) : xlen S c_then_quarrels = 60 := by show (S.2.1 _).2 = _; rw [h.2.1 _ (by decide)]; rfl
theorem sN_c_then_grass {S : XS} (h : xSh S) : c_then_grass < S.1 := sN h (by decide)
theorem sT_c_then_grass {S : XS} (h : xSh S) : xtag S c_then_grass = 13 := by show (S.2.1 _).1 = _; rw [h.2.1 _ (by decide)]; rfl
theorem sL_c_then_grass {S : XS} (h : xSh S) : xlen S c_then_grass = 10 := by show (S.2.1 _).2 = _; rw [h.2.1 _ (by decide)]; rfl
theorem sN_c_then_weights {S : XS} (h : xSh S) : c_then_weights < S.1 := sN h (by decide)
theorem sT_c_then_weights {S : XS} (h : xSh S) : xtag S c_then_weights = 13 := by show (S.2.1 _).1 = _; rw [h.2.1 _ (by decide)]; rfl
theorem sL_c_then_weights {S : XS} (h : xSh S) : xlen S c_then_weights = 10 := by show (S.2.1 _).2 = _; rw [h.2.1 _ (by decide)]; rfl
theorem sN_c_then_rests {S : XS} (h : xSh S) : c_then_rests < S.1 := sN h (by decide)
theorem sT_c_then_rests {S : XS} (h : xSh S) : xtag S c_then_rests = 13 := by show (S.2.1 _).1 = _; rw [h.2.1 _ (by decide)]; rfl
theorem sL_c_then_rests {S : XS} (h : xSh S) : xlen S c_then_rests = 10 := by show (S.2.1 _).2 = _; rw [h.2.1 _ (by decide)]; rfl
theorem sN_c_walks {S : XS} (h : xSh S) : c_walks < S.1 := sN h (by decide)
theorem sT_c_walks {S : XS} (h : xSh S) : xtag S c_walks = 8 := by show (S.2.1 _).1 = _; rw [h.2.1 _ (by decide)]; rfl
theorem sR_c_walks_3 {S : XS} (h : xSh S) : xref S c_walks 3 = c_walks_days + 1 := by show S.2.2 _ _ = _; rw [h.2.2 _ (by decide) (by decide)]; rfl
theorem sR_c_walks_4 {S : XS} (h : xSh S) : xref S c_walks 4 = c_walks_home + 1 := by show S.2.2 _ _ = _; rw [h.2.2 _ (by decide) (by decide)]; rfl
theorem sR_c_walks_5 {S : XS} (h : xSh S) : xref S c_walks 5 = c_walks_meets + 1 := by show S.2.2 _ _ = _; rw [h.2.2 _ (by decide) (by decide)]; rfl
theorem sN_c_walks_days {S : XS} (h : xSh S) : c_walks_days < S.1 := sN h (by decide)
theorem sT_c_walks_days {S : XS} (h : xSh S) : xtag S c_walks_days = 13 := by show (S.2.1 _).1 = _; rw [h.2.1 _ (by decide)]; rfl
theorem sL_c_walks_days {S : XS} (h : xSh S) : xlen S c_walks_days = 100 := by show (S.2.1 _).2 = _; rw [h.2.1 _ (by decide)]; rfl
theorem sN_c_walks_home {S : XS} (h : xSh S) : c_walks_home < S.1 := sN h (by decide)
theorem sT_c_walks_home {S : XS} (h : xSh S) : xtag S c_walks_home = 13 := by show (S.2.1 _).1 = _; rw [h.2.1 _ (by decide)]; rfl
theorem sL_c_walks_home {S : XS} (h : xSh S) : xlen S c_walks_home = 5120 := by show (S.2.1 _).2 = _; rw [h.2.1 _ (by decide)]; rfl
theorem sN_c_walks_meets {S : XS} (h : xSh S) : c_walks_meets < S.1 := sN h (by decide)
theorem sT_c_walks_meets {S : XS} (h : xSh S) : xtag S c_walks_meets = 13 := by show (S.2.1 _).1 = _; rw [h.2.1 _ (by decide)]; rfl
theorem sL_c_walks_meets {S : XS} (h : xSh S) : xlen S c_walks_meets = 512 := by show (S.2.1 _).2 = _; rw [h.2.1 _ (by decide)]; rfl
theorem sN_c_parser {S : XS} (h : xSh S) : c_parser < S.1 := sN h (by decide)
theorem sT_c_parser {S : XS} (h : xSh S) : xtag S c_parser = 3 := by show (S.2.1 _).1 = _; rw [h.2.1 _ (by decide)]; rfl
theorem sR_c_parser_0 {S : XS} (h : xSh S) : xref S c_parser 0 = c_draft + 1 := by show S.2.2 _ _ = _; rw [h.2.2 _ (by decide) (by decide)]; rfl
theorem sR_c_parser_3 {S : XS} (h : xSh S) : xref S c_parser 3 = c_parser_bytes + 1 := by show S.2.2 _ _ = _; rw [h.2.2 _ (by decide) (by decide)]; rfl
theorem sN_c_draft {S : XS} (h : xSh S) : c_draft < S.1 := sN h (by decide)
theorem sT_c_draft {S : XS} (h : xSh S) : xtag S c_draft = 5 := by show (S.2.1 _).1 = _; rw [h.2.1 _ (by decide)]; rfl
theorem sR_c_draft_1 {S : XS} (h : xSh S) : xref S c_draft 1 = c_draft_deeds + 1 := by show S.2.2 _ _ = _; rw [h.2.2 _ (by decide) (by decide)]; rfl
theorem sR_c_draft_2 {S : XS} (h : xSh S) : xref S c_draft 2 = c_draft_numbers + 1 := by show S.2.2 _ _ = _; rw [h.2.2 _ (by decide) (by decide)]; rfl
theorem sR_c_draft_3 {S : XS} (h : xSh S) : xref S c_draft 3 = c_draft_tests + 1 := by show S.2.2 _ _ = _; rw [h.2.2 _ (by decide) (by decide)]; rfl
theorem sR_c_draft_4 {S : XS} (h : xSh S) : xref S c_draft 4 = c_draft_nots + 1 := by show S.2.2 _ _ = _; rw [h.2.2 _ (by decide) (by decide)]; rfl
theorem sR_c_draft_5 {S : XS} (h : xSh S) : xref S c_draft 5 = c_draft_subjects + 1 := by show S.2.2 _ _ = _; rw [h.2.2 _ (by decide) (by decide)]; rfl
theorem sR_c_draft_6 {S : XS} (h : xSh S) : xref S c_draft 6 = c_draft_signs + 1 := by show S.2.2 _ _ = _; rw [h.2.2 _ (by decide) (by decide)]; rfl
theorem sR_c_draft_7 {S : XS} (h : xSh S) : xref S c_draft 7 = c_draft_bounds + 1 := by show S.2.2 _ _ = _; rw [h.2.2 _ (by decide) (by decide)]; rfl
theorem sN_c_draft_deeds {S : XS} (h : xSh S) : c_draft_deeds < S.1 := sN h (by decide)
theorem sT_c_draft_deeds {S : XS} (h : xSh S) : xtag S c_draft_deeds = 13 := by show (S.2.1 _).1 = _; rw [h.2.1 _ (by decide)]; rfl
theorem sL_c_draft_deeds {S : XS} (h : xSh S) : xlen S c_draft_deeds = 16 := by show (S.2.1 _).2 = _; rw [h.2.1 _ (by decide)]; rfl
theorem sN_c_draft_numbers {S : XS} (h : xSh S) : c_draft_numbers < S.1 := sN h (by decide)
theorem sT_c_draft_numbers {S : XS} (h : xSh S) : xtag S c_draft_numbers = 13 := by show (S.2.1 _).1 = _; rw [h.2.1 _ (by decide)]; rfl
theorem sL_c_draft_numbers {S : XS} (h : xSh S) : xlen S c_draft_numbers = 16 := by show (S.2.1 _).2 = _; rw [h.2.1 _ (by decide)]; rfl
theorem sN_c_draft_tests {S : XS} (h : xSh S) : c_draft_tests < S.1 := sN h (by decide)
theorem sT_c_draft_tests {S : XS} (h : xSh S) : xtag S c_draft_tests = 13 := by show (S.2.1 _).1 = _; rw [h.2.1 _ (by decide)]; rfl
theorem sL_c_draft_tests {S : XS} (h : xSh S) : xlen S c_draft_tests = 16 := by show (S.2.1 _).2 = _; rw [h.2.1 _ (by decide)]; rfl
theorem sN_c_draft_nots {S : XS} (h : xSh S) : c_draft_nots < S.1 := sN h (by decide)
theorem sT_c_draft_nots {S : XS} (h : xSh S) : xtag S c_draft_nots = 13 := by show (S.2.1 _).1 = _; rw [h.2.1 _ (by decide)]; rfl
theorem sL_c_draft_nots {S : XS} (h : xSh S) : xlen S c_draft_nots = 64 := by show (S.2.1 _).2 = _; rw [h.2.1 _ (by decide)]; rfl
theorem sN_c_draft_subjects {S : XS} (h : xSh S) : c_draft_subjects < S.1 := sN h (by decide)
theorem sT_c_draft_subjects {S : XS} (h : xSh S) : xtag S c_draft_subjects = 13 := by show (S.2.1 _).1 = _; rw [h.2.1 _ (by decide)]; rfl
theorem sL_c_draft_subjects {S : XS} (h : xSh S) : xlen S c_draft_subjects = 64 := by show (S.2.1 _).2 = _; rw [h.2.1 _ (by decide)]; rfl
theorem sN_c_draft_signs {S : XS} (h : xSh S) : c_draft_signs < S.1 := sN h (by decide)
theorem sT_c_draft_signs {S : XS} (h : xSh S) : xtag S c_draft_signs = 13 := by show (S.2.1 _).1 = _; rw [h.2.1 _ (by decide)]; rfl
theorem sL_c_draft_signs {S : XS} (h : xSh S) : xlen S c_draft_signs = 64 := by show (S.2.1 _).2 = _; rw [h.2.1 _ (by decide)]; rfl
theorem sN_c_draft_bounds {S : XS} (h : xSh S) : c_draft_bounds < S.1 := sN h (by decide)
theorem sT_c_draft_bounds {S : XS} (h : xSh S) : xtag S c_draft_bounds = 13 := by show (S.2.1 _).1 = _; rw [h.2.1 _ (by decide)]; rfl
theorem sL_c_draft_bounds {S : XS} (h : xSh S) : xlen S c_draft_bounds = 64 := by show (S.2.1 _).2 = _; rw [h.2.1 _ (by decide)]; rfl
theorem sN_c_parser_bytes {S : XS} (h : xSh S) : c_parser_bytes < S.1 := sN h (by decide)
theorem sT_c_parser_bytes {S : XS} (h : xSh S) : xtag S c_parser_bytes = 13 := by show (S.2.1 _).1 = _; rw [h.2.1 _ (by decide)]; rfl
theorem sL_c_parser_bytes {S : XS} (h : xSh S) : xlen S c_parser_bytes = 500 := by show (S.2.1 _).2 = _; rw [h.2.1 _ (by decide)]; rfl
theorem sN_c_box {S : XS} (h : xSh S) : c_box < S.1 := sN h (by decide)
theorem sT_c_box {S : XS} (h : xSh S) : xtag S c_box = 0 := by show (S.2.1 _).1 = _; rw [h.2.1 _ (by decide)]; rfl
theorem sR_c_box_3 {S : XS} (h : xSh S) : xref S c_box 3 = c_box_lightest + 1 := by show S.2.2 _ _ = _; rw [h.2.2 _ (by decide) (by decide)]; rfl
theorem sN_c_box_lightest {S : XS} (h : xSh S) : c_box_lightest < S.1 := sN h (by decide)
theorem sT_c_box_lightest {S : XS} (h : xSh S) : xtag S c_box_lightest = 13 := by show (S.2.1 _).1 = _; rw [h.2.1 _ (by decide)]; rfl
theorem sL_c_box_lightest {S : XS} (h : xSh S) : xlen S c_box_lightest = 8 := by show (S.2.1 _).2 = _; rw [h.2.1 _ (by decide)]; rfl
theorem sN_c_facts {S : XS} (h : xSh S) : c_facts < S.1 := sN h (by decide)
theorem sT_c_facts {S : XS} (h : xSh S) : xtag S c_facts = 13 := by show (S.2.1 _).1 = _; rw [h.2.1 _ (by decide)]; rfl
theorem sL_c_facts {S : XS} (h : xSh S) : xlen S c_facts = 10 := by show (S.2.1 _).2 = _; rw [h.2.1 _ (by decide)]; rfl
theorem sN_c_sums {S : XS} (h : xSh S) : c_sums < S.1 := sN h (by decide)
theorem sT_c_sums {S : XS} (h : xSh S) : xtag S c_sums = 13 := by show (S.2.1 _).1 = _; rw [h.2.1 _ (by decide)]; rfl
theorem sL_c_sums {S : XS} (h : xSh S) : xlen S c_sums = 10 := by show (S.2.1 _).2 = _; rw [h.2.1 _ (by decide)]; rfl
theorem sN_r_obj {S : XS} (h : xSh S) : r_obj < S.1 := sN h (by decide)
theorem sT_r_obj {S : XS} (h : xSh S) : xtag S r_obj = 11 := by show (S.2.1 _).1 = _; rw [h.2.1 _ (by decide)]; rfl
theorem sR_r_obj_1 {S : XS} (h : xSh S) : xref S r_obj 1 = r_tape + 1 := by show S.2.2 _ _ = _; rw [h.2.2 _ (by decide) (by decide)]; rfl
theorem sR_r_obj_2 {S : XS} (h : xSh S) : xref S r_obj 2 = r_size + 1 := by show S.2.2 _ _ = _; rw [h.2.2 _ (by decide) (by decide)]; rfl
theorem sR_r_obj_3 {S : XS} (h : xSh S) : xref S r_obj 3 = r_fault + 1 := by show S.2.2 _ _ = _; rw [h.2.2 _ (by decide) (by decide)]; rfl
theorem sR_r_obj_4 {S : XS} (h : xSh S) : xref S r_obj 4 = r_faultPlace + 1 := by show S.2.2 _ _ = _; rw [h.2.2 _ (by decide) (by decide)]; rfl
theorem sR_r_obj_5 {S : XS} (h : xSh S) : xref S r_obj 5 = r_now + 1 := by show S.2.2 _ _ = _; rw [h.2.2 _ (by decide) (by decide)]; rfl
theorem sR_r_obj_6 {S : XS} (h : xSh S) : xref S r_obj 6 = r_viewed + 1 := by show S.2.2 _ _ = _; rw [h.2.2 _ (by decide) (by decide)]; rfl
theorem sR_r_obj_7 {S : XS} (h : xSh S) : xref S r_obj 7 = r_cells + 1 := by show S.2.2 _ _ = _; rw [h.2.2 _ (by decide) (by decide)]; rfl
theorem sR_r_obj_8 {S : XS} (h : xSh S) : xref S r_obj 8 = r_wells + 1 := by show S.2.2 _ _ = _; rw [h.2.2 _ (by decide) (by decide)]; rfl
theorem sR_r_obj_9 {S : XS} (h : xSh S) : xref S r_obj 9 = r_ways + 1 := by show S.2.2 _ _ = _; rw [h.2.2 _ (by decide) (by decide)]; rfl
theorem sR_r_obj_10 {S : XS} (h : xSh S) : xref S r_obj 10 = r_camps + 1 := by show S.2.2 _ _ = _; rw [h.2.2 _ (by decide) (by decide)]; rfl
theorem sR_r_obj_11 {S : XS} (h : xSh S) : xref S r_obj 11 = r_campTongue + 1 := by show S.2.2 _ _ = _; rw [h.2.2 _ (by decide) (by decide)]; rfl
theorem sR_r_obj_12 {S : XS} (h : xSh S) : xref S r_obj 12 = r_campCell + 1 := by show S.2.2 _ _ = _; rw [h.2.2 _ (by decide) (by decide)]; rfl
theorem sR_r_obj_13 {S : XS} (h : xSh S) : xref S r_obj 13 = r_campWeek + 1 := by show S.2.2 _ _ = _; rw [h.2.2 _ (by decide) (by decide)]; rfl
theorem sR_r_obj_14 {S : XS} (h : xSh S) : xref S r_obj 14 = r_grasses + 1 := by show S.2.2 _ _ = _; rw [h.2.2 _ (by decide) (by decide)]; rfl
theorem sR_r_obj_15 {S : XS} (h : xSh S) : xref S r_obj 15 = r_grassCell + 1 := by show S.2.2 _ _ = _; rw [h.2.2 _ (by decide) (by decide)]; rfl
theorem sR_r_obj_16 {S : XS} (h : xSh S) : xref S r_obj 16 = r_grassWeek + 1 := by show S.2.2 _ _ = _; rw [h.2.2 _ (by decide) (by decide)]; rfl
theorem sR_r_obj_17 {S : XS} (h : xSh S) : xref S r_obj 17 = r_grassIs + 1 := by show S.2.2 _ _ = _; rw [h.2.2 _ (by decide) (by decide)]; rfl
theorem sR_r_obj_18 {S : XS} (h : xSh S) : xref S r_obj 18 = r_grassTold + 1 := by show S.2.2 _ _ = _; rw [h.2.2 _ (by decide) (by decide)]; rfl
theorem sR_r_obj_19 {S : XS} (h : xSh S) : xref S r_obj 19 = r_dryWeek + 1 := by show S.2.2 _ _ = _; rw [h.2.2 _ (by decide) (by decide)]; rfl
theorem sR_r_obj_20 {S : XS} (h : xSh S) : xref S r_obj 20 = r_newsMany + 1 := by show S.2.2 _ _ = _; rw [h.2.2 _ (by decide) (by decide)]; rfl
theorem sR_r_obj_21 {S : XS} (h : xSh S) : xref S r_obj 21 = r_newsCamp + 1 := by show S.2.2 _ _ = _; rw [h.2.2 _ (by decide) (by decide)]; rfl
theorem sR_r_obj_22 {S : XS} (h : xSh S) : xref S r_obj 22 = r_newsCell + 1 := by show S.2.2 _ _ = _; rw [h.2.2 _ (by decide) (by decide)]; rfl
theorem sR_r_obj_23 {S : XS} (h : xSh S) : xref S r_obj 23 = r_newsWeek + 1 := by show S.2.2 _ _ = _; rw [h.2.2 _ (by decide) (by decide)]; rfl
theorem sR_r_obj_24 {S : XS} (h : xSh S) : xref S r_obj 24 = r_newsSeen + 1 := by show S.2.2 _ _ = _; rw [h.2.2 _ (by decide) (by decide)]; rfl
theorem sR_r_obj_25 {S : XS} (h : xSh S) : xref S r_obj 25 = r_newsTold + 1 := by show S.2.2 _ _ = _; rw [h.2.2 _ (by decide) (by decide)]; rfl
theorem sR_r_obj_26 {S : XS} (h : xSh S) : xref S r_obj 26 = r_books + 1 := by show S.2.2 _ _ = _; rw [h.2.2 _ (by decide) (by decide)]; rfl
theorem sR_r_obj_27 {S : XS} (h : xSh S) : xref S r_obj 27 = r_bookKind + 1 := by show S.2.2 _ _ = _; rw [h.2.2 _ (by decide) (by decide)]; rfl
theorem sR_r_obj_28 {S : XS} (h : xSh S) : xref S r_obj 28 = r_bookTongue + 1 := by show S.2.2 _ _ = _; rw [h.2.2 _ (by decide) (by decide)]; rfl
theorem sR_r_obj_29 {S : XS} (h : xSh S) : xref S r_obj 29 = r_bookLevel + 1 := by show S.2.2 _ _ = _; rw [h.2.2 _ (by decide) (by decide)]; rfl
theorem sR_r_obj_30 {S : XS} (h : xSh S) : xref S r_obj 30 = r_bookPages + 1 := by show S.2.2 _ _ = _; rw [h.2.2 _ (by decide) (by decide)]; rfl
theorem sR_r_obj_31 {S : XS} (h : xSh S) : xref S r_obj 31 = r_bookGrams + 1 := by show S.2.2 _ _ = _; rw [h.2.2 _ (by decide) (by decide)]; rfl
theorem sR_r_obj_32 {S : XS} (h : xSh S) : xref S r_obj 32 = r_acts + 1 := by show S.2.2 _ _ = _; rw [h.2.2 _ (by decide) (by decide)]; rfl
theorem sR_r_obj_33 {S : XS} (h : xSh S) : xref S r_obj 33 = r_actBook + 1 := by show S.2.2 _ _ = _; rw [h.2.2 _ (by decide) (by decide)]; rfl
theorem sR_r_obj_34 {S : XS} (h : xSh S) : xref S r_obj 34 = r_actKind + 1 := by show S.2.2 _ _ = _; rw [h.2.2 _ (by decide) (by decide)]; rfl
theorem sR_r_obj_35 {S : XS} (h : xSh S) : xref S r_obj 35 = r_actCamp + 1 := by show S.2.2 _ _ = _; rw [h.2.2 _ (by decide) (by decide)]; rfl
theorem sR_r_obj_36 {S : XS} (h : xSh S) : xref S r_obj 36 = r_actWeek + 1 := by show S.2.2 _ _ = _; rw [h.2.2 _ (by decide) (by decide)]; rfl
theorem sR_r_obj_37 {S : XS} (h : xSh S) : xref S r_obj 37 = r_actTold + 1 := by show S.2.2 _ _ = _; rw [h.2.2 _ (by decide) (by decide)]; rfl
theorem sR_r_obj_38 {S : XS} (h : xSh S) : xref S r_obj 38 = r_actMany + 1 := by show S.2.2 _ _ = _; rw [h.2.2 _ (by decide) (by decide)]; rfl
theorem sR_r_obj_39 {S : XS} (h : xSh S) : xref S r_obj 39 = r_actCost + 1 := by show S.2.2 _ _ = _; rw [h.2.2 _ (by decide) (by decide)]; rfl
theorem sR_r_obj_40 {S : XS} (h : xSh S) : xref S r_obj 40 = r_lines + 1 := by show S.2.2 _ _ = _; rw [h.2.2 _ (by decide) (by decide)]; rfl
theorem sR_r_obj_41 {S : XS} (h : xSh S) : xref S r_obj 41 = r_lineAct + 1 := by show S.2.2 _ _ = _; rw [h.2.2 _ (by decide) (by decide)]; rfl
theorem sR_r_obj_42 {S : XS} (h : xSh S) : xref S r_obj 42 = r_lineNumber + 1 := by show S.2.2 _ _ = _; rw [h.2.2 _ (by decide) (by decide)]; rfl
theorem sR_r_obj_43 {S : XS} (h : xSh S) : xref S r_obj 43 = r_lineTests + 1 := by show S.2.2 _ _ = _; rw [h.2.2 _ (by decide) (by decide)]; rfl
theorem sR_r_obj_44 {S : XS} (h : xSh S) : xref S r_obj 44 = r_testWhat + 1 := by show S.2.2 _ _ = _; rw [h.2.2 _ (by decide) (by decide)]; rfl
theorem sR_r_obj_45 {S : XS} (h : xSh S) : xref S r_obj 45 = r_testSign + 1 := by show S.2.2 _ _ = _; rw [h.2.2 _ (by decide) (by decide)]; rfl
theorem sR_r_obj_46 {S : XS} (h : xSh S) : xref S r_obj 46 = r_testThan + 1 := by show S.2.2 _ _ = _; rw [h.2.2 _ (by decide) (by decide)]; rfl
theorem sR_r_obj_47 {S : XS} (h : xSh S) : xref S r_obj 47 = r_testNot + 1 := by show S.2.2 _ _ = _; rw [h.2.2 _ (by decide) (by decide)]; rfl
theorem sR_r_obj_48 {S : XS} (h : xSh S) : xref S r_obj 48 = r_wishes + 1 := by show S.2.2 _ _ = _; rw [h.2.2 _ (by decide) (by decide)]; rfl
theorem sR_r_obj_49 {S : XS} (h : xSh S) : xref S r_obj 49 = r_readers + 1 := by show S.2.2 _ _ = _; rw [h.2.2 _ (by decide) (by decide)]; rfl
theorem sR_r_obj_50 {S : XS} (h : xSh S) : xref S r_obj 50 = r_readerCamp + 1 := by show S.2.2 _ _ = _; rw [h.2.2 _ (by decide) (by decide)]; rfl
theorem sR_r_obj_51 {S : XS} (h : xSh S) : xref S r_obj 51 = r_readerBooks + 1 := by show S.2.2 _ _ = _; rw [h.2.2 _ (by decide) (by decide)]; rfl
theorem sR_r_obj_52 {S : XS} (h : xSh S) : xref S r_obj 52 = r_parts + 1 := by show S.2.2 _ _ = _; rw [h.2.2 _ (by decide) (by decide)]; rfl
theorem sR_r_obj_53 {S : XS} (h : xSh S) : xref S r_obj 53 = r_next + 1 := by show S.2.2 _ _ = _; rw [h.2.2 _ (by decide) (by decide)]; rfl
theorem sR_r_obj_54 {S : XS} (h : xSh S) : xref S r_obj 54 = r_weight + 1 := by show S.2.2 _ _ = _; rw [h.2.2 _ (by decide) (by decide)]; rfl
theorem sR_r_obj_55 {S : XS} (h : xSh S) : xref S r_obj 55 = r_rest + 1 := by show S.2.2 _ _ = _; rw [h.2.2 _ (by decide) (by decide)]; rfl
theorem sR_r_obj_57 {S : XS} (h : xSh S) : xref S r_obj 57 = r_quarrel + 1 := by show S.2.2 _ _ = _; rw [h.2.2 _ (by decide) (by decide)]; rfl
theorem sR_r_obj_58 {S : XS} (h : xSh S) : xref S r_obj 58 = r_seen + 1 := by show S.2.2 _ _ = _; rw [h.2.2 _ (by decide) (by decide)]; rfl
theorem sR_r_obj_69 {S : XS} (h : xSh S) : xref S r_obj 69 = r_newAct + 1 := by show S.2.2 _ _ = _; rw [h.2.2 _ (by decide) (by decide)]; rfl
theorem sR_r_obj_70 {S : XS} (h : xSh S) : xref S r_obj 70 = r_newNumber + 1 := by show S.2.2 _ _ = _; rw [h.2.2 _ (by decide) (by decide)]; rfl
theorem sR_r_obj_71 {S : XS} (h : xSh S) : xref S r_obj 71 = r_newTests + 1 := by show S.2.2 _ _ = _; rw [h.2.2 _ (by decide) (by decide)]; rfl
theorem sR_r_obj_72 {S : XS} (h : xSh S) : xref S r_obj 72 = r_newWhat + 1 := by show S.2.2 _ _ = _; rw [h.2.2 _ (by decide) (by decide)]; rfl
theorem sR_r_obj_73 {S : XS} (h : xSh S) : xref S r_obj 73 = r_newSign + 1 := by show S.2.2 _ _ = _; rw [h.2.2 _ (by decide) (by decide)]; rfl
theorem sR_r_obj_74 {S : XS} (h : xSh S) : xref S r_obj 74 = r_newThan + 1 := by show S.2.2 _ _ = _; rw [h.2.2 _ (by decide) (by decide)]; rfl
theorem sR_r_obj_75 {S : XS} (h : xSh S) : xref S r_obj 75 = r_newNot + 1 := by show S.2.2 _ _ = _; rw [h.2.2 _ (by decide) (by decide)]; rfl
theorem sR_r_obj_76 {S : XS} (h : xSh S) : xref S r_obj 76 = r_far + 1 := by show S.2.2 _ _ = _; rw [h.2.2 _ (by decide) (by decide)]; rfl
theorem sR_r_obj_77 {S : XS} (h : xSh S) : xref S r_obj 77 = r_least + 1 := by show S.2.2 _ _ = _; rw [h.2.2 _ (by decide) (by decide)]; rfl
theorem sR_r_obj_78 {S : XS} (h : xSh S) : xref S r_obj 78 = r_meets + 1 := by show S.2.2 _ _ = _; rw [h.2.2 _ (by decide) (by decide)]; rfl
theorem sR_r_obj_82 {S : XS} (h : xSh S) : xref S r_obj 82 = r_lightest + 1 := by show S.2.2 _ _ = _; rw [h.2.2 _ (by decide) (by decide)]; rfl
theorem sR_r_obj_83 {S : XS} (h : xSh S) : xref S r_obj 83 = r_kept + 1 := by show S.2.2 _ _ = _; rw [h.2.2 _ (by decide) (by decide)]; rfl
theorem sN_r_tape {S : XS} (h : xSh S) : r_tape < S.1 := sN h (by decide)
theorem sT_r_tape {S : XS} (h : xSh S) : xtag S r_tape = 12 := by show (S.2.1 _).1 = _; rw [h.2.1 _ (by decide)]; rfl
theorem sL_r_tape {S : XS} (h : xSh S) : xlen S r_tape = 2000 := by show (S.2.1 _).2 = _; rw [h.2.1 _ (by decide)]; rfl
theorem sN_r_size {S : XS} (h : xSh S) : r_size < S.1 := sN h (by decide)
theorem sT_r_size {S : XS} (h : xSh S) : xtag S r_size = 13 := by show (S.2.1 _).1 = _; rw [h.2.1 _ (by decide)]; rfl
theorem sL_r_size {S : XS} (h : xSh S) : xlen S r_size = 4 := by show (S.2.1 _).2 = _; rw [h.2.1 _ (by decide)]; rfl
theorem sN_r_fault {S : XS} (h : xSh S) : r_fault < S.1 := sN h (by decide)
theorem sT_r_fault {S : XS} (h : xSh S) : xtag S r_fault = 13 := by show (S.2.1 _).1 = _; rw [h.2.1 _ (by decide)]; rfl
theorem sL_r_fault {S : XS} (h : xSh S) : xlen S r_fault = 4 := by show (S.2.1 _).2 = _; rw [h.2.1 _ (by decide)]; rfl
theorem sN_r_faultPlace {S : XS} (h : xSh S) : r_faultPlace < S.1 := sN h (by decide)
theorem sT_r_faultPlace {S : XS} (h : xSh S) : xtag S r_faultPlace = 13 := by show (S.2.1 _).1 = _; rw [h.2.1 _ (by decide)]; rfl
theorem sL_r_faultPlace {S : XS} (h : xSh S) : xlen S r_faultPlace = 4 := by show (S.2.1 _).2 = _; rw [h.2.1 _ (by decide)]; rfl
theorem sN_r_now {S : XS} (h : xSh S) : r_now < S.1 := sN h (by decide)
theorem sT_r_now {S : XS} (h : xSh S) : xtag S r_now = 13 := by show (S.2.1 _).1 = _; rw [h.2.1 _ (by decide)]; rfl
theorem sL_r_now {S : XS} (h : xSh S) : xlen S r_now = 4 := by show (S.2.1 _).2 = _; rw [h.2.1 _ (by decide)]; rfl
theorem sN_r_viewed {S : XS} (h : xSh S) : r_viewed < S.1 := sN h (by decide)
theorem sT_r_viewed {S : XS} (h : xSh S) : xtag S r_viewed = 13 := by show (S.2.1 _).1 = _; rw [h.2.1 _ (by decide)]; rfl
theorem sL_r_viewed {S : XS} (h : xSh S) : xlen S r_viewed = 4 := by show (S.2.1 _).2 = _; rw [h.2.1 _ (by decide)]; rfl
theorem sN_r_cells {S : XS} (h : xSh S) : r_cells < S.1 := sN h (by decide)
theorem sT_r_cells {S : XS} (h : xSh S) : xtag S r_cells = 13 := by show (S.2.1 _).1 = _; rw [h.2.1 _ (by decide)]; rfl
theorem sL_r_cells {S : XS} (h : xSh S) : xlen S r_cells = 4 := by show (S.2.1 _).2 = _; rw [h.2.1 _ (by decide)]; rfl
theorem sN_r_wells {S : XS} (h : xSh S) : r_wells < S.1 := sN h (by decide)
theorem sT_r_wells {S : XS} (h : xSh S) : xtag S r_wells = 15 := by show (S.2.1 _).1 = _; rw [h.2.1 _ (by decide)]; rfl
theorem sL_r_wells {S : XS} (h : xSh S) : xlen S r_wells = 40 := by show (S.2.1 _).2 = _; rw [h.2.1 _ (by decide)]; rfl
theorem sN_r_ways {S : XS} (h : xSh S) : r_ways < S.1 := sN h (by decide)
theorem sT_r_ways {S : XS} (h : xSh S) : xtag S r_ways = 13 := by show (S.2.1 _).1 = _; rw [h.2.1 _ (by decide)]; rfl
theorem sL_r_ways {S : XS} (h : xSh S) : xlen S r_ways = 400 := by show (S.2.1 _).2 = _; rw [h.2.1 _ (by decide)]; rfl
theorem sN_r_camps {S : XS} (h : xSh S) : r_camps < S.1 := sN h (by decide)
theorem sT_r_camps {S : XS} (h : xSh S) : xtag S r_camps = 13 := by show (S.2.1 _).1 = _; rw [h.2.1 _ (by decide)]; rfl
theorem sL_r_camps {S : XS} (h : xSh S) : xlen S r_camps = 4 := by show (S.2.1 _).2 = _; rw [h.2.1 _ (by decide)]; rfl
theorem sN_r_campTongue {S : XS} (h : xSh S) : r_campTongue < S.1 := sN h (by decide)
theorem sT_r_campTongue {S : XS} (h : xSh S) : xtag S r_campTongue = 13 := by show (S.2.1 _).1 = _; rw [h.2.1 _ (by decide)]; rfl
theorem sL_r_campTongue {S : XS} (h : xSh S) : xlen S r_campTongue = 24 := by show (S.2.1 _).2 = _; rw [h.2.1 _ (by decide)]; rfl
theorem sN_r_campCell {S : XS} (h : xSh S) : r_campCell < S.1 := sN h (by decide)
theorem sT_r_campCell {S : XS} (h : xSh S) : xtag S r_campCell = 13 := by show (S.2.1 _).1 = _; rw [h.2.1 _ (by decide)]; rfl
theorem sL_r_campCell {S : XS} (h : xSh S) : xlen S r_campCell = 24 := by show (S.2.1 _).2 = _; rw [h.2.1 _ (by decide)]; rfl
theorem sN_r_campWeek {S : XS} (h : xSh S) : r_campWeek < S.1 := sN h (by decide)
theorem sT_r_campWeek {S : XS} (h : xSh S) : xtag S r_campWeek = 13 := by show (S.2.1 _).1 = _; rw [h.2.1 _ (by decide)]; rfl
theorem sL_r_campWeek {S : XS} (h : xSh S) : xlen S r_campWeek = 24 := by show (S.2.1 _).2 = _; rw [h.2.1 _ (by decide)]; rfl
theorem sN_r_grasses {S : XS} (h : xSh S) : r_grasses < S.1 := sN h (by decide)
theorem sT_r_grasses {S : XS} (h : xSh S) : xtag S r_grasses = 13 := by show (S.2.1 _).1 = _; rw [h.2.1 _ (by decide)]; rfl
theorem sL_r_grasses {S : XS} (h : xSh S) : xlen S r_grasses = 4 := by show (S.2.1 _).2 = _; rw [h.2.1 _ (by decide)]; rfl
theorem sN_r_grassCell {S : XS} (h : xSh S) : r_grassCell < S.1 := sN h (by decide)
theorem sT_r_grassCell {S : XS} (h : xSh S) : xtag S r_grassCell = 13 := by show (S.2.1 _).1 = _; rw [h.2.1 _ (by decide)]; rfl
theorem sL_r_grassCell {S : XS} (h : xSh S) : xlen S r_grassCell = 240 := by show (S.2.1 _).2 = _; rw [h.2.1 _ (by decide)]; rfl
theorem sN_r_grassWeek {S : XS} (h : xSh S) : r_grassWeek < S.1 := sN h (by decide)
theorem sT_r_grassWeek {S : XS} (h : xSh S) : xtag S r_grassWeek = 13 := by show (S.2.1 _).1 = _; rw [h.2.1 _ (by decide)]; rfl
theorem sL_r_grassWeek {S : XS} (h : xSh S) : xlen S r_grassWeek = 240 := by show (S.2.1 _).2 = _; rw [h.2.1 _ (by decide)]; rfl
theorem sN_r_grassIs {S : XS} (h : xSh S) : r_grassIs < S.1 := sN h (by decide)
theorem sT_r_grassIs {S : XS} (h : xSh S) : xtag S r_grassIs = 13 := by show (S.2.1 _).1 = _; rw [h.2.1 _ (by decide)]; rfl
theorem sL_r_grassIs {S : XS} (h : xSh S) : xlen S r_grassIs = 240 := by show (S.2.1 _).2 = _; rw [h.2.1 _ (by decide)]; rfl
theorem sN_r_grassTold {S : XS} (h : xSh S) : r_grassTold < S.1 := sN h (by decide)
theorem sT_r_grassTold {S : XS} (h : xSh S) : xtag S r_grassTold = 13 := by show (S.2.1 _).1 = _; rw [h.2.1 _ (by decide)]; rfl
theorem sL_r_grassTold {S : XS} (h : xSh S) : xlen S r_grassTold = 240 := by show (S.2.1 _).2 = _; rw [h.2.1 _ (by decide)]; rfl
theorem sN_r_dryWeek {S : XS} (h : xSh S) : r_dryWeek < S.1 := sN h (by decide)
theorem sT_r_dryWeek {S : XS} (h : xSh S) : xtag S r_dryWeek = 15 := by show (S.2.1 _).1 = _; rw [h.2.1 _ (by decide)]; rfl
theorem sL_r_dryWeek {S : XS} (h : xSh S) : xlen S r_dryWeek = 400 := by show (S.2.1 _).2 = _; rw [h.2.1 _ (by decide)]; rfl
theorem sN_r_newsMany {S : XS} (h : xSh S) : r_newsMany < S.1 := sN h (by decide)
theorem sT_r_newsMany {S : XS} (h : xSh S) : xtag S r_newsMany = 13 := by show (S.2.1 _).1 = _; rw [h.2.1 _ (by decide)]; rfl
theorem sL_r_newsMany {S : XS} (h : xSh S) : xlen S r_newsMany = 4 := by show (S.2.1 _).2 = _; rw [h.2.1 _ (by decide)]; rfl
theorem sN_r_newsCamp {S : XS} (h : xSh S) : r_newsCamp < S.1 := sN h (by decide)
theorem sT_r_newsCamp {S : XS} (h : xSh S) : xtag S r_newsCamp = 13 := by show (S.2.1 _).1 = _; rw [h.2.1 _ (by decide)]; rfl
theorem sL_r_newsCamp {S : XS} (h : xSh S) : xlen S r_newsCamp = 240 := by show (S.2.1 _).2 = _; rw [h.2.1 _ (by decide)]; rfl
theorem sN_r_newsCell {S : XS} (h : xSh S) : r_newsCell < S.1 := sN h (by decide)
theorem sT_r_newsCell {S : XS} (h : xSh S) : xtag S r_newsCell = 13 := by show (S.2.1 _).1 = _; rw [h.2.1 _ (by decide)]; rfl
theorem sL_r_newsCell {S : XS} (h : xSh S) : xlen S r_newsCell = 240 := by show (S.2.1 _).2 = _; rw [h.2.1 _ (by decide)]; rfl
theorem sN_r_newsWeek {S : XS} (h : xSh S) : r_newsWeek < S.1 := sN h (by decide)
theorem sT_r_newsWeek {S : XS} (h : xSh S) : xtag S r_newsWeek = 13 := by show (S.2.1 _).1 = _; rw [h.2.1 _ (by decide)]; rfl
theorem sL_r_newsWeek {S : XS} (h : xSh S) : xlen S r_newsWeek = 240 := by show (S.2.1 _).2 = _; rw [h.2.1 _ (by decide)]; rfl
theorem sN_r_newsSeen {S : XS} (h : xSh S) : r_newsSeen < S.1 := sN h (by decide)
theorem sT_r_newsSeen {S : XS} (h : xSh S) : xtag S r_newsSeen = 15 := by show (S.2.1 _).1 = _; rw [h.2.1 _ (by decide)]; rfl
theorem sL_r_newsSeen {S : XS} (h : xSh S) : xlen S r_newsSeen = 240 := by show (S.2.1 _).2 = _; rw [h.2.1 _ (by decide)]; rfl
theorem sN_r_newsTold {S : XS} (h : xSh S) : r_newsTold < S.1 := sN h (by decide)
theorem sT_r_newsTold {S : XS} (h : xSh S) : xtag S r_newsTold = 13 := by show (S.2.1 _).1 = _; rw [h.2.1 _ (by decide)]; rfl
theorem sL_r_newsTold {S : XS} (h : xSh S) : xlen S r_newsTold = 240 := by show (S.2.1 _).2 = _; rw [h.2.1 _ (by decide)]; rfl
theorem sN_r_books {S : XS} (h : xSh S) : r_books < S.1 := sN h (by decide)
theorem sT_r_books {S : XS} (h : xSh S) : xtag S r_books = 13 := by show (S.2.1 _).1 = _; rw [h.2.1 _ (by decide)]; rfl
theorem sL_r_books {S : XS} (h : xSh S) : xlen S r_books = 4 := by show (S.2.1 _).2 = _; rw [h.2.1 _ (by decide)]; rfl
theorem sN_r_bookKind {S : XS} (h : xSh S) : r_bookKind < S.1 := sN h (by decide)
theorem sT_r_bookKind {S : XS} (h : xSh S) : xtag S r_bookKind = 13 := by show (S.2.1 _).1 = _; rw [h.2.1 _ (by decide)]; rfl
theorem sL_r_bookKind {S : XS} (h : xSh S) : xlen S r_bookKind = 96 := by show (S.2.1 _).2 = _; rw [h.2.1 _ (by decide)]; rfl
theorem sN_r_bookTongue {S : XS} (h : xSh S) : r_bookTongue < S.1 := sN h (by decide)
theorem sT_r_bookTongue {S : XS} (h : xSh S) : xtag S r_bookTongue = 13 := by show (S.2.1 _).1 = _; rw [h.2.1 _ (by decide)]; rfl
theorem sL_r_bookTongue {S : XS} (h : xSh S) : xlen S r_bookTongue = 96 := by show (S.2.1 _).2 = _; rw [h.2.1 _ (by decide)]; rfl
theorem sN_r_bookLevel {S : XS} (h : xSh S) : r_bookLevel < S.1 := sN h (by decide)
theorem sT_r_bookLevel {S : XS} (h : xSh S) : xtag S r_bookLevel = 13 := by show (S.2.1 _).1 = _; rw [h.2.1 _ (by decide)]; rfl
theorem sL_r_bookLevel {S : XS} (h : xSh S) : xlen S r_bookLevel = 96 := by show (S.2.1 _).2 = _; rw [h.2.1 _ (by decide)]; rfl
theorem sN_r_bookPages {S : XS} (h : xSh S) : r_bookPages < S.1 := sN h (by decide)
theorem sT_r_bookPages {S : XS} (h : xSh S) : xtag S r_bookPages = 13 := by show (S.2.1 _).1 = _; rw [h.2.1 _ (by decide)]; rfl
theorem sL_r_bookPages {S : XS} (h : xSh S) : xlen S r_bookPages = 96 := by show (S.2.1 _).2 = _; rw [h.2.1 _ (by decide)]; rfl
theorem sN_r_bookGrams {S : XS} (h : xSh S) : r_bookGrams < S.1 := sN h (by decide)
theorem sT_r_bookGrams {S : XS} (h : xSh S) : xtag S r_bookGrams = 13 := by show (S.2.1 _).1 = _; rw [h.2.1 _ (by decide)]; rfl
theorem sL_r_bookGrams {S : XS} (h : xSh S) : xlen S r_bookGrams = 96 := by show (S.2.1 _).2 = _; rw [h.2.1 _ (by decide)]; rfl
theorem sN_r_acts {S : XS} (h : xSh S) : r_acts < S.1 := sN h (by decide)
theorem sT_r_acts {S : XS} (h : xSh S) : xtag S r_acts = 13 := by show (S.2.1 _).1 = _; rw [h.2.1 _ (by decide)]; rfl
theorem sL_r_acts {S : XS} (h : xSh S) : xlen S r_acts = 4 := by show (S.2.1 _).2 = _; rw [h.2.1 _ (by decide)]; rfl
theorem sN_r_actBook {S : XS} (h : xSh S) : r_actBook < S.1 := sN h (by decide)
theorem sT_r_actBook {S : XS} (h : xSh S) : xtag S r_actBook = 13 := by show (S.2.1 _).1 = _; rw [h.2.1 _ (by decide)]; rfl
theorem sL_r_actBook {S : XS} (h : xSh S) : xlen S r_actBook = 600 := by show (S.2.1 _).2 = _; rw [h.2.1 _ (by decide)]; rfl
theorem sN_r_actKind {S : XS} (h : xSh S) : r_actKind < S.1 := sN h (by decide)
theorem sT_r_actKind {S : XS} (h : xSh S) : xtag S r_actKind = 13 := by show (S.2.1 _).1 = _; rw [h.2.1 _ (by decide)]; rfl
theorem sL_r_actKind {S : XS} (h : xSh S) : xlen S r_actKind = 600 := by show (S.2.1 _).2 = _; rw [h.2.1 _ (by decide)]; rfl
theorem sN_r_actCamp {S : XS} (h : xSh S) : r_actCamp < S.1 := sN h (by decide)
theorem sT_r_actCamp {S : XS} (h : xSh S) : xtag S r_actCamp = 13 := by show (S.2.1 _).1 = _; rw [h.2.1 _ (by decide)]; rfl
theorem sL_r_actCamp {S : XS} (h : xSh S) : xlen S r_actCamp = 600 := by show (S.2.1 _).2 = _; rw [h.2.1 _ (by decide)]; rfl
theorem sN_r_actWeek {S : XS} (h : xSh S) : r_actWeek < S.1 := sN h (by decide)
theorem sT_r_actWeek {S : XS} (h : xSh S) : xtag S r_actWeek = 13 := by show (S.2.1 _).1 = _; rw [h.2.1 _ (by decide)]; rfl
theorem sL_r_actWeek {S : XS} (h : xSh S) : xlen S r_actWeek = 600 := by show (S.2.1 _).2 = _; rw [h.2.1 _ (by decide)]; rfl
theorem sN_r_actTold {S : XS} (h : xSh S) : r_actTold < S.1 := sN h (by decide)
theorem sT_r_actTold {S : XS} (h : xSh S) : xtag S r_actTold = 13 := by show (S.2.1 _).1 = _; rw [h.2.1 _ (by decide)]; rfl
theorem sL_r_actTold {S : XS} (h : xSh S) : xlen S r_actTold = 600 := by show (S.2.1 _).2 = _; rw [h.2.1 _ (by decide)]; rfl
theorem sN_r_actMany {S : XS} (h : xSh S) : r_actMany < S.1 := sN h (by decide)
theorem sT_r_actMany {S : XS} (h : xSh S) : xtag S r_actMany = 13 := by show (S.2.1 _).1 = _; rw [h.2.1 _ (by decide)]; rfl
theorem sL_r_actMany {S : XS} (h : xSh S) : xlen S r_actMany = 600 := by show (S.2.1 _).2 = _; rw [h.2.1 _ (by decide)]; rfl
theorem sN_r_actCost {S : XS} (h : xSh S) : r_actCost < S.1 := sN h (by decide)
theorem sT_r_actCost {S : XS} (h : xSh S) : xtag S r_actCost = 13 := by show (S.2.1 _).1 = _; rw [h.2.1 _ (by decide)]; rfl
theorem sL_r_actCost {S : XS} (h : xSh S) : xlen S r_actCost = 600 := by show (S.2.1 _).2 = _; rw [h.2.1 _ (by decide)]; rfl
theorem sN_r_lines {S : XS} (h : xSh S) : r_lines < S.1 := sN h (by decide)
theorem sT_r_lines {S : XS} (h : xSh S) : xtag S r_lines = 13 := by show (S.2.1 _).1 = _; rw [h.2.1 _ (by decide)]; rfl
theorem sL_r_lines {S : XS} (h : xSh S) : xlen S r_lines = 4 := by show (S.2.1 _).2 = _; rw [h.2.1 _ (by decide)]; rfl
theorem sN_r_lineAct {S : XS} (h : xSh S) : r_lineAct < S.1 := sN h (by decide)
theorem sT_r_lineAct {S : XS} (h : xSh S) : xtag S r_lineAct = 13 := by show (S.2.1 _).1 = _; rw [h.2.1 _ (by decide)]; rfl
theorem sL_r_lineAct {S : XS} (h : xSh S) : xlen S r_lineAct = 64 := by show (S.2.1 _).2 = _; rw [h.2.1 _ (by decide)]; rfl
theorem sN_r_lineNumber {S : XS} (h : xSh S) : r_lineNumber < S.1 := sN h (by decide)
theorem sT_r_lineNumber {S : XS} (h : xSh S) : xtag S r_lineNumber = 13 := by show (S.2.1 _).1 = _; rw [h.2.1 _ (by decide)]; rfl
theorem sL_r_lineNumber {S : XS} (h : xSh S) : xlen S r_lineNumber = 64 := by show (S.2.1 _).2 = _; rw [h.2.1 _ (by decide)]; rfl
theorem sN_r_lineTests {S : XS} (h : xSh S) : r_lineTests < S.1 := sN h (by decide)
theorem sT_r_lineTests {S : XS} (h : xSh S) : xtag S r_lineTests = 13 := by show (S.2.1 _).1 = _; rw [h.2.1 _ (by decide)]; rfl
theorem sL_r_lineTests {S : XS} (h : xSh S) : xlen S r_lineTests = 64 := by show (S.2.1 _).2 = _; rw [h.2.1 _ (by decide)]; rfl
theorem sN_r_testWhat {S : XS} (h : xSh S) : r_testWhat < S.1 := sN h (by decide)
theorem sT_r_testWhat {S : XS} (h : xSh S) : xtag S r_testWhat = 13 := by show (S.2.1 _).1 = _; rw [h.2.1 _ (by decide)]; rfl
theorem sL_r_testWhat {S : XS} (h : xSh S) : xlen S r_testWhat = 256 := by show (S.2.1 _).2 = _; rw [h.2.1 _ (by decide)]; rfl
theorem sN_r_testSign {S : XS} (h : xSh S) : r_testSign < S.1 := sN h (by decide)
theorem sT_r_testSign {S : XS} (h : xSh S) : xtag S r_testSign = 13 := by show (S.2.1 _).1 = _; rw [h.2.1 _ (by decide)]; rfl
theorem sL_r_testSign {S : XS} (h : xSh S) : xlen S r_testSign = 256 := by show (S.2.1 _).2 = _; rw [h.2.1 _ (by decide)]; rfl
theorem sN_r_testThan {S : XS} (h : xSh S) : r_testThan < S.1 := sN h (by decide)
theorem sT_r_testThan {S : XS} (h : xSh S) : xtag S r_testThan = 13 := by show (S.2.1 _).1 = _; rw [h.2.1 _ (by decide)]; rfl
theorem sL_r_testThan {S : XS} (h : xSh S) : xlen S r_testThan = 256 := by show (S.2.1 _).2 = _; rw [h.2.1 _ (by decide)]; rfl
theorem sN_r_testNot {S : XS} (h : xSh S) : r_testNot < S.1 := sN h (by decide)
theorem sT_r_testNot {S : XS} (h : xSh S) : xtag S r_testNot = 15 := by show (S.2.1 _).1 = _; rw [h.2.1 _ (by decide)]; rfl
theorem sL_r_testNot {S : XS} (h : xSh S) : xlen S r_testNot = 256 := by show (S.2.1 _).2 = _; rw [h.2.1 _ (by decide)]; rfl
theorem sN_r_wishes {S : XS} (h : xSh S) : r_wishes < S.1 := sN h (by decide)
theorem sT_r_wishes {S : XS} (h : xSh S) : xtag S r_wishes = 13 := by show (S.2.1 _).1 = _; rw [h.2.1 _ (by decide)]; rfl
theorem sL_r_wishes {S : XS} (h : xSh S) : xlen S r_wishes = 192 := by show (S.2.1 _).2 = _; rw [h.2.1 _ (by decide)]; rfl
theorem sN_r_readers {S : XS} (h : xSh S) : r_readers < S.1 := sN h (by decide)
theorem sT_r_readers {S : XS} (h : xSh S) : xtag S r_readers = 13 := by show (S.2.1 _).1 = _; rw [h.2.1 _ (by decide)]; rfl
theorem sL_r_readers {S : XS} (h : xSh S) : xlen S r_readers = 4 := by show (S.2.1 _).2 = _; rw [h.2.1 _ (by decide)]; rfl
theorem sN_r_readerCamp {S : XS} (h : xSh S) : r_readerCamp < S.1 := sN h (by decide)
theorem sT_r_readerCamp {S : XS} (h : xSh S) : xtag S r_readerCamp = 13 := by show (S.2.1 _).1 = _; rw [h.2.1 _ (by decide)]; rfl
theorem sL_r_readerCamp {S : XS} (h : xSh S) : xlen S r_readerCamp = 48 := by show (S.2.1 _).2 = _; rw [h.2.1 _ (by decide)]; rfl
theorem sN_r_readerBooks {S : XS} (h : xSh S) : r_readerBooks < S.1 := sN h (by decide)
theorem sT_r_readerBooks {S : XS} (h : xSh S) : xtag S r_readerBooks = 13 := by show (S.2.1 _).1 = _; rw [h.2.1 _ (by decide)]; rfl
theorem sL_r_readerBooks {S : XS} (h : xSh S) : xlen S r_readerBooks = 48 := by show (S.2.1 _).2 = _; rw [h.2.1 _ (by decide)]; rfl
theorem sN_r_parts {S : XS} (h : xSh S) : r_parts < S.1 := sN h (by decide)
theorem sT_r_parts {S : XS} (h : xSh S) : xtag S r_parts = 13 := by show (S.2.1 _).1 = _; rw [h.2.1 _ (by decide)]; rfl
theorem sL_r_parts {S : XS} (h : xSh S) : xlen S r_parts = 10 := by show (S.2.1 _).2 = _; rw [h.2.1 _ (by decide)]; rfl
theorem sN_r_next {S : XS} (h : xSh S) : r_next < S.1 := sN h (by decide)
theorem sT_r_next {S : XS} (h : xSh S) : xtag S r_next = 13 := by show (S.2.1 _).1 = _; rw [h.2.1 _ (by decide)]; rfl
theorem sL_r_next {S : XS} (h : xSh S) : xlen S r_next = 10 := by show (S.2.1 _).2 = _; rw [h.2.1 _ (by decide)]; rfl
theorem sN_r_weight {S : XS} (h : xSh S) : r_weight < S.1 := sN h (by decide)
theorem sT_r_weight {S : XS} (h : xSh S) : xtag S r_weight = 13 := by show (S.2.1 _).1 = _; rw [h.2.1 _ (by decide)]; rfl
theorem sL_r_weight {S : XS} (h : xSh S) : xlen S r_weight = 10 := by show (S.2.1 _).2 = _; rw [h.2.1 _ (by decide)]; rfl
theorem sN_r_rest {S : XS} (h : xSh S) : r_rest < S.1 := sN h (by decide)
theorem sT_r_rest {S : XS} (h : xSh S) : xtag S r_rest = 14 := by show (S.2.1 _).1 = _; rw [h.2.1 _ (by decide)]; rfl
theorem sL_r_rest {S : XS} (h : xSh S) : xlen S r_rest = 10 := by show (S.2.1 _).2 = _; rw [h.2.1 _ (by decide)]; rfl
theorem sN_r_quarrel {S : XS} (h : xSh S) : r_quarrel < S.1 := sN h (by decide)
theorem sT_r_quarrel {S : XS} (h : xSh S) : xtag S r_quarrel = 13 := by show (S.2.1 _).1 = _; rw [h.2.1 _ (by decide)]; rfl
theorem sL_r_quarrel {S : XS} (h : xSh S) : xlen S r_quarrel = 60 := by show (S.2.1 _).2 = _; rw [h.2.1 _ (by decide)]; rfl
theorem sN_r_seen {S : XS} (h : xSh S) : r_seen < S.1 := sN h (by decide)
theorem sT_r_seen {S : XS} (h : xSh S) : xtag S r_seen = 13 := by show (S.2.1 _).1 = _; rw [h.2.1 _ (by decide)]; rfl
theorem sL_r_seen {S : XS} (h : xSh S) : xlen S r_seen = 10 := by show (S.2.1 _).2 = _; rw [h.2.1 _ (by decide)]; rfl
theorem sN_r_newAct {S : XS} (h : xSh S) : r_newAct < S.1 := sN h (by decide)
theorem sT_r_newAct {S : XS} (h : xSh S) : xtag S r_newAct = 13 := by show (S.2.1 _).1 = _; rw [h.2.1 _ (by decide)]; rfl
theorem sL_r_newAct {S : XS} (h : xSh S) : xlen S r_newAct = 17 := by show (S.2.1 _).2 = _; rw [h.2.1 _ (by decide)]; rfl
theorem sN_r_newNumber {S : XS} (h : xSh S) : r_newNumber < S.1 := sN h (by decide)
theorem sT_r_newNumber {S : XS} (h : xSh S) : xtag S r_newNumber = 13 := by show (S.2.1 _).1 = _; rw [h.2.1 _ (by decide)]; rfl
theorem sL_r_newNumber {S : XS} (h : xSh S) : xlen S r_newNumber = 17 := by show (S.2.1 _).2 = _; rw [h.2.1 _ (by decide)]; rfl
theorem sN_r_newTests {S : XS} (h : xSh S) : r_newTests < S.1 := sN h (by decide)
theorem sT_r_newTests {S : XS} (h : xSh S) : xtag S r_newTests = 13 := by show (S.2.1 _).1 = _; rw [h.2.1 _ (by decide)]; rfl
theorem sL_r_newTests {S : XS} (h : xSh S) : xlen S r_newTests = 17 := by show (S.2.1 _).2 = _; rw [h.2.1 _ (by decide)]; rfl
theorem sN_r_newWhat {S : XS} (h : xSh S) : r_newWhat < S.1 := sN h (by decide)
theorem sT_r_newWhat {S : XS} (h : xSh S) : xtag S r_newWhat = 13 := by show (S.2.1 _).1 = _; rw [h.2.1 _ (by decide)]; rfl
theorem sL_r_newWhat {S : XS} (h : xSh S) : xlen S r_newWhat = 69 := by show (S.2.1 _).2 = _; rw [h.2.1 _ (by decide)]; rfl
theorem sN_r_newSign {S : XS} (h : xSh S) : r_newSign < S.1 := sN h (by decide)
theorem sT_r_newSign {S : XS} (h : xSh S) : xtag S r_newSign = 13 := by show (S.2.1 _).1 = _; rw [h.2.1 _ (by decide)]; rfl
theorem sL_r_newSign {S : XS} (h : xSh S) : xlen S r_newSign = 69 := by show (S.2.1 _).2 = _; rw [h.2.1 _ (by decide)]; rfl
theorem sN_r_newThan {S : XS} (h : xSh S) : r_newThan < S.1 := sN h (by decide)
theorem sT_r_newThan {S : XS} (h : xSh S) : xtag S r_newThan = 13 := by show (S.2.1 _).1 = _; rw [h.2.1 _ (by decide)]; rfl
theorem sL_r_newThan {S : XS} (h : xSh S) : xlen S r_newThan = 69 := by show (S.2.1 _).2 = _; rw [h.2.1 _ (by decide)]; rfl
theorem sN_r_newNot {S : XS} (h : xSh S) : r_newNot < S.1 := sN h (by decide)
theorem sT_r_newNot {S : XS} (h : xSh S) : xtag S r_newNot = 15 := by show (S.2.1 _).1 = _; rw [h.2.1 _ (by decide)]; rfl
theorem sL_r_newNot {S : XS} (h : xSh S) : xlen S r_newNot = 69 := by show (S.2.1 _).2 = _; rw [h.2.1 _ (by decide)]; rfl
theorem sN_r_far {S : XS} (h : xSh S) : r_far < S.1 := sN h (by decide)
theorem sT_r_far {S : XS} (h : xSh S) : xtag S r_far = 13 := by show (S.2.1 _).1 = _; rw [h.2.1 _ (by decide)]; rfl
theorem sL_r_far {S : XS} (h : xSh S) : xlen S r_far = 100 := by show (S.2.1 _).2 = _; rw [h.2.1 _ (by decide)]; rfl
theorem sN_r_least {S : XS} (h : xSh S) : r_least < S.1 := sN h (by decide)
theorem sT_r_least {S : XS} (h : xSh S) : xtag S r_least = 13 := by show (S.2.1 _).1 = _; rw [h.2.1 _ (by decide)]; rfl
theorem sL_r_least {S : XS} (h : xSh S) : xlen S r_least = 5120 := by show (S.2.1 _).2 = _; rw [h.2.1 _ (by decide)]; rfl
theorem sN_r_meets {S : XS} (h : xSh S) : r_meets < S.1 := sN h (by decide)
theorem sT_r_meets {S : XS} (h : xSh S) : xtag S r_meets = 13 := by show (S.2.1 _).1 = _; rw [h.2.1 _ (by decide)]; rfl
theorem sL_r_meets {S : XS} (h : xSh S) : xlen S r_meets = 10 := by show (S.2.1 _).2 = _; rw [h.2.1 _ (by decide)]; rfl
theorem sN_r_lightest {S : XS} (h : xSh S) : r_lightest < S.1 := sN h (by decide)
theorem sT_r_lightest {S : XS} (h : xSh S) : xtag S r_lightest = 13 := by show (S.2.1 _).1 = _; rw [h.2.1 _ (by decide)]; rfl
theorem sL_r_lightest {S : XS} (h : xSh S) : xlen S r_lightest = 8 := by show (S.2.1 _).2 = _; rw [h.2.1 _ (by decide)]; rfl
theorem sN_r_kept {S : XS} (h : xSh S) : r_kept < S.1 := sN h (by decide)
theorem sT_r_kept {S : XS} (h : xSh S) : xtag S r_kept = 15 := by show (S.2.1 _).1 = _; rw [h.2.1 _ (by decide)]; rfl
theorem sL_r_kept {S : XS} (h : xSh S) : xlen S r_kept = 3 := by show (S.2.1 _).2 = _; rw [h.2.1 _ (by decide)]; rfl
