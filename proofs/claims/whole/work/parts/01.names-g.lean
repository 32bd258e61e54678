set_option maxRecDepth 20000 in
theorem ggX0_copyFrom_X0_clear : GoodIn wsX0_copyFrom wsX0_clear := goodIn_r _ [8, 9, 1, 10, 27, 28, 29, 30, 31, 32] rfl (by decide +kernel)
set_option maxRecDepth 20000 in
theorem gX0_copyFrom_X0_clear : GoodIn wsX0_copyFrom (wsV RX0 33 RX0 yX0_clear wsX0_clear) := goodIn_app (goodIn_of _ (by decide +kernel)) ggX0_copyFrom_X0_clear
set_option maxRecDepth 20000 in
theorem ggX0_copyFrom_X0_placeOfAge : GoodIn wsX0_copyFrom wsX0_placeOfAge := goodIn_r _ [14, 9, 15, 16, 17, 18, 27, 28, 29, 30, 31, 32] rfl (by decide +kernel)
set_option maxRecDepth 20000 in
theorem gX0_copyFrom_X0_placeOfAge : GoodIn wsX0_copyFrom (wsV RX0 36 RX0 yX0_placeOfAge wsX0_placeOfAge) := goodIn_app (goodIn_of _ (by decide +kernel)) ggX0_copyFrom_X0_placeOfAge
set_option maxRecDepth 20000 in
theorem ggX0_copyFrom_X0_enter : GoodIn wsX0_copyFrom wsX0_enter := goodIn_r _ [22, 1, 2, 3, 10, 23, 24, 25, 7, 26, 11, 12, 13, 14, 9, 15, 16, 17, 18, 27, 28, 29, 30, 31, 32] rfl (by decide +kernel)
set_option maxRecDepth 20000 in
theorem gX0_copyFrom_X0_enter : GoodIn wsX0_copyFrom (wsV RX0 40 RX0 yX0_enter wsX0_enter) := goodIn_app (goodIn_of _ (by decide +kernel)) ggX0_copyFrom_X0_enter
set_option maxRecDepth 20000 in
theorem ggX0_placeOfAge_J9_floorMod_7cf53 : GoodIn wsX0_placeOfAge wsJ9_floorMod_7cf53 := goodIn_r _ [5] rfl (by decide +kernel)
set_option maxRecDepth 20000 in
theorem gX0_placeOfAge_J9_floorMod_7cf53 : GoodIn wsX0_placeOfAge (va_wsS RX0 44 yJ9_floorMod_7cf53 wsJ9_floorMod_7cf53) := goodIn_app (goodIn_of _ (by decide +kernel)) ggX0_placeOfAge_J9_floorMod_7cf53
set_option maxRecDepth 20000 in
theorem ggX0_placeOfIndex_J9_floorMod_7cf53 : GoodIn wsX0_placeOfIndex wsJ9_floorMod_7cf53 := goodIn_r _ [7] rfl (by decide +kernel)
set_option maxRecDepth 20000 in
theorem gX0_placeOfIndex_J9_floorMod_7cf53 : GoodIn wsX0_placeOfIndex (va_wsS RX0 44 yJ9_floorMod_7cf53 wsJ9_floorMod_7cf53) := goodIn_app (goodIn_of _ (by decide +kernel)) ggX0_placeOfIndex_J9_floorMod_7cf53
set_option maxRecDepth 20000 in
theorem ggX0_volumeOf_X0_placeOfIndex : GoodIn wsX0_volumeOf wsX0_placeOfIndex := goodIn_r _ [6, 7, 8, 9, 10, 11, 12, 13, 14, 15, 16, 17, 18, 19] rfl (by decide +kernel)
set_option maxRecDepth 20000 in
theorem gX0_volumeOf_X0_placeOfIndex : GoodIn wsX0_volumeOf (wsV RX0 50 RX0 yX0_placeOfIndex wsX0_placeOfIndex) := goodIn_app (goodIn_of _ (by decide +kernel)) ggX0_volumeOf_X0_placeOfIndex
set_option maxRecDepth 20000 in
theorem ggX0_densityOf_X0_placeOfIndex : GoodIn wsX0_densityOf wsX0_placeOfIndex := goodIn_r _ [6, 7, 8, 9, 10, 11, 12, 13, 14, 15, 16, 17, 18, 19] rfl (by decide +kernel)
set_option maxRecDepth 20000 in
theorem gX0_densityOf_X0_placeOfIndex : GoodIn wsX0_densityOf (wsV RX0 50 RX0 yX0_placeOfIndex wsX0_placeOfIndex) := goodIn_app (goodIn_of _ (by decide +kernel)) ggX0_densityOf_X0_placeOfIndex
set_option maxRecDepth 20000 in
theorem ggX0_enter_X0_joinsNewest : GoodIn wsX0_enter wsX0_joinsNewest := goodIn_r _ [9, 1, 3, 10, 11, 12, 8, 13, 14, 15, 16, 17, 18, 19, 20, 21, 22, 23, 24] rfl (by decide +kernel)
set_option maxRecDepth 20000 in
theorem gX0_enter_X0_joinsNewest : GoodIn wsX0_enter (wsV RX0 53 RX0 yX0_joinsNewest wsX0_joinsNewest) := goodIn_app (goodIn_of _ (by decide +kernel)) ggX0_enter_X0_joinsNewest
set_option maxRecDepth 20000 in
theorem ggX0_enter_X0_placeOfAge : GoodIn wsX0_enter wsX0_placeOfAge := goodIn_r _ [13, 14, 15, 16, 17, 18, 19, 20, 21, 22, 23, 24] rfl (by decide +kernel)
set_option maxRecDepth 20000 in
theorem gX0_enter_X0_placeOfAge : GoodIn wsX0_enter (wsV RX0 36 RX0 yX0_placeOfAge wsX0_placeOfAge) := goodIn_app (goodIn_of _ (by decide +kernel)) ggX0_enter_X0_placeOfAge
set_option maxRecDepth 20000 in
theorem ggX0_joinsNewest_X0_placeOfAge : GoodIn wsX0_joinsNewest wsX0_placeOfAge := goodIn_r _ [7, 8, 9, 10, 11, 12, 13, 14, 15, 16, 17, 18] rfl (by decide +kernel)
set_option maxRecDepth 20000 in
theorem gX0_joinsNewest_X0_placeOfAge : GoodIn wsX0_joinsNewest (wsV RX0 36 RX0 yX0_placeOfAge wsX0_placeOfAge) := goodIn_app (goodIn_of _ (by decide +kernel)) ggX0_joinsNewest_X0_placeOfAge
set_option maxRecDepth 20000 in
theorem ggX0_release_X0_releaseOldest : GoodIn wsX0_release wsX0_releaseOldest := goodIn_r _ [6, 7, 8, 9, 10, 11, 12, 13, 14, 1, 15, 16, 17, 5, 18, 19, 20, 21, 22, 23, 24, 25, 26, 27, 28] rfl (by decide +kernel)
set_option maxRecDepth 20000 in
theorem gX0_release_X0_releaseOldest : GoodIn wsX0_release (wsV RX0 57 RX0 yX0_releaseOldest wsX0_releaseOldest) := goodIn_app (goodIn_of _ (by decide +kernel)) ggX0_release_X0_releaseOldest
set_option maxRecDepth 20000 in
theorem ggX0_releaseInto_X0_placeOfAge : GoodIn wsX0_releaseInto wsX0_placeOfAge := goodIn_r _ [7, 8, 9, 10, 11, 12, 31, 32, 33, 34, 35, 36] rfl (by decide +kernel)
set_option maxRecDepth 20000 in
theorem gX0_releaseInto_X0_placeOfAge : GoodIn wsX0_releaseInto (wsV RX0 36 RX0 yX0_placeOfAge wsX0_placeOfAge) := goodIn_app (goodIn_of _ (by decide +kernel)) ggX0_releaseInto_X0_placeOfAge
set_option maxRecDepth 20000 in
theorem ggX0_releaseInto_X0_releaseOldest : GoodIn wsX0_releaseInto wsX0_releaseOldest := goodIn_r _ [16, 17, 18, 19, 20, 21, 22, 2, 8, 1, 3, 4, 5, 6, 7, 9, 10, 11, 12, 31, 32, 33, 34, 35, 36] rfl (by decide +kernel)
set_option maxRecDepth 20000 in
theorem gX0_releaseInto_X0_releaseOldest : GoodIn wsX0_releaseInto (wsV RX0 57 RX0 yX0_releaseOldest wsX0_releaseOldest) := goodIn_app (goodIn_of _ (by decide +kernel)) ggX0_releaseInto_X0_releaseOldest
set_option maxRecDepth 20000 in
theorem ggX0_releaseInto_X0_enter : GoodIn wsX0_releaseInto wsX0_enter := goodIn_r _ [26, 1, 17, 2, 22, 27, 28, 29, 6, 30, 3, 4, 5, 7, 8, 9, 10, 11, 12, 31, 32, 33, 34, 35, 36] rfl (by decide +kernel)
set_option maxRecDepth 20000 in
theorem gX0_releaseInto_X0_enter : GoodIn wsX0_releaseInto (wsV RX0 40 RX0 yX0_enter wsX0_enter) := goodIn_app (goodIn_of _ (by decide +kernel)) ggX0_releaseInto_X0_enter
set_option maxRecDepth 20000 in
theorem ggX0_releaseOldest_X0_placeOfAge : GoodIn wsX0_releaseOldest wsX0_placeOfAge := goodIn_r _ [14, 8, 15, 16, 17, 18, 19, 20, 21, 22, 23, 24] rfl (by decide +kernel)
set_option maxRecDepth 20000 in
theorem gX0_releaseOldest_X0_placeOfAge : GoodIn wsX0_releaseOldest (wsV RX0 36 RX0 yX0_placeOfAge wsX0_placeOfAge) := goodIn_app (goodIn_of _ (by decide +kernel)) ggX0_releaseOldest_X0_placeOfAge
set_option maxRecDepth 20000 in
theorem ggX0_loadAbove_X0_placeOfIndex : GoodIn wsX0_loadAbove wsX0_placeOfIndex := goodIn_r _ [12, 13, 1, 14, 15, 16, 17, 18, 19, 20, 21, 22, 23, 24] rfl (by decide +kernel)
set_option maxRecDepth 20000 in
theorem gX0_loadAbove_X0_placeOfIndex : GoodIn wsX0_loadAbove (wsV RX0 50 RX0 yX0_placeOfIndex wsX0_placeOfIndex) := goodIn_app (goodIn_of _ (by decide +kernel)) ggX0_loadAbove_X0_placeOfIndex
set_option maxRecDepth 20000 in
theorem ggX0_mixedLayers_X2_mixed : GoodIn wsX0_mixedLayers wsX2_mixed := goodIn_r _ [6, 7] rfl (by decide +kernel)
set_option maxRecDepth 20000 in
theorem gX0_mixedLayers_X2_mixed_n63 : GoodIn wsX0_mixedLayers (wsX2_mixed) := ggX0_mixedLayers_X2_mixed
set_option maxRecDepth 20000 in
theorem ggX0_mixedLayers_X0_placeOfIndex : GoodIn wsX0_mixedLayers wsX0_placeOfIndex := goodIn_r _ [12, 13, 1, 14, 15, 16, 17, 18, 19, 20, 21, 22, 23, 24] rfl (by decide +kernel)
set_option maxRecDepth 20000 in
theorem gX0_mixedLayers_X0_placeOfIndex : GoodIn wsX0_mixedLayers (wsV RX0 50 RX0 yX0_placeOfIndex wsX0_placeOfIndex) := goodIn_app (goodIn_of _ (by decide +kernel)) ggX0_mixedLayers_X0_placeOfIndex
set_option maxRecDepth 20000 in
theorem ggX1_init_X0_init : GoodIn wsX1_init wsX0_init := goodIn_r _ [19, 20, 2, 3, 21, 22, 23, 24, 77, 78, 79, 80, 81, 82] rfl (by decide +kernel)
set_option maxRecDepth 20000 in
theorem gX1_init_X0_init : GoodIn wsX1_init (wsX0_init) := ggX1_init_X0_init
set_option maxRecDepth 20000 in
theorem ggX1_init_X1_startAnew : GoodIn wsX1_init wsX1_startAnew := goodIn_r _ [29, 15, 8, 16, 30, 31, 32, 33, 34, 35, 14, 36, 37, 38, 39, 40, 41, 42, 28, 43, 4, 5, 44, 45, 46, 47, 22, 23, 48, 49, 50, 51, 52, 53, 54, 55, 56, 57, 58, 59, 60, 61, 62, 63, 6, 64, 65, 66, 67, 68, 69, 70, 71, 72, 73, 74, 75, 76, 77, 78, 79, 80, 81, 82] rfl (by decide +kernel)
set_option maxRecDepth 20000 in
theorem gX1_init_X1_startAnew : GoodIn wsX1_init (wsV RX1 48 RX1 yX1_startAnew wsX1_startAnew) := goodIn_app (goodIn_of _ (by decide +kernel)) ggX1_init_X1_startAnew
set_option maxRecDepth 20000 in
theorem ggX1_startAnew_X0_clear : GoodIn wsX1_startAnew wsX0_clear := goodIn_r _ [11, 12, 13, 14, 58, 59, 60, 61, 62, 63] rfl (by decide +kernel)
set_option maxRecDepth 20000 in
theorem gX1_startAnew_X0_clear : GoodIn wsX1_startAnew (wsV RX1 51 RX0 yX0_clear wsX0_clear) := goodIn_app (goodIn_of _ (by decide +kernel)) ggX1_startAnew_X0_clear
set_option maxRecDepth 20000 in
theorem ggX1_startAnew_X1_pipeVolume : GoodIn wsX1_startAnew wsX1_pipeVolume := goodIn_r _ [19, 20, 21, 45, 46, 47, 48, 49, 50, 51, 52, 53, 54, 55, 56, 57] rfl (by decide +kernel)
set_option maxRecDepth 20000 in
theorem gX1_startAnew_X1_pipeVolume : GoodIn wsX1_startAnew (wsV RX1 54 RX1 yX1_pipeVolume wsX1_pipeVolume) := goodIn_app (goodIn_of _ (by decide +kernel)) ggX1_startAnew_X1_pipeVolume
set_option maxRecDepth 20000 in
theorem ggX1_startAnew_X0_enter : GoodIn wsX1_startAnew wsX0_enter := goodIn_r _ [25, 13, 26, 27, 14, 28, 29, 30, 10, 31, 32, 33, 34, 35, 12, 36, 37, 38, 39, 58, 59, 60, 61, 62, 63] rfl (by decide +kernel)
set_option maxRecDepth 20000 in
theorem gX1_startAnew_X0_enter : GoodIn wsX1_startAnew (wsV RX1 58 RX0 yX0_enter wsX0_enter) := goodIn_app (goodIn_of _ (by decide +kernel)) ggX1_startAnew_X0_enter
set_option maxRecDepth 20000 in
theorem ggX1_startAnew_X1_annulusVolume : GoodIn wsX1_startAnew wsX1_annulusVolume := goodIn_r _ [43, 20, 44, 45, 46, 47, 48, 49, 50, 51, 52, 53, 54, 55, 56, 57] rfl (by decide +kernel)
set_option maxRecDepth 20000 in
theorem gX1_startAnew_X1_annulusVolume : GoodIn wsX1_startAnew (wsV RX1 62 RX1 yX1_annulusVolume wsX1_annulusVolume) := goodIn_app (goodIn_of _ (by decide +kernel)) ggX1_startAnew_X1_annulusVolume
set_option maxRecDepth 20000 in
theorem ggX1_copyFrom_X0_copyFrom : GoodIn wsX1_copyFrom wsX0_copyFrom := goodIn_r _ [18, 19, 20, 21, 22, 23, 24, 17, 25, 26, 27, 28, 29, 30, 31, 32, 33, 34, 35, 36, 37, 38, 39, 40, 41, 42, 43, 57, 58, 59, 60, 61, 62] rfl (by decide +kernel)
set_option maxRecDepth 20000 in
theorem gX1_copyFrom_X0_copyFrom : GoodIn wsX1_copyFrom (wsV RX1 74 RX0 yX0_copyFrom wsX0_copyFrom) := goodIn_app (goodIn_of _ (by decide +kernel)) ggX1_copyFrom_X0_copyFrom
set_option maxRecDepth 20000 in
theorem ggX1_canCirculate_X1_pipeVolume : GoodIn wsX1_canCirculate wsX1_pipeVolume := goodIn_r _ [5, 6, 7, 13, 14, 15, 16, 17, 18, 19, 20, 21, 22, 23, 24, 25] rfl (by decide +kernel)
set_option maxRecDepth 20000 in
theorem gX1_canCirculate_X1_pipeVolume : GoodIn wsX1_canCirculate (wsV RX1 54 RX1 yX1_pipeVolume wsX1_pipeVolume) := goodIn_app (goodIn_of _ (by decide +kernel)) ggX1_canCirculate_X1_pipeVolume
set_option maxRecDepth 20000 in
theorem ggX1_canCirculate_X1_annulusVolume : GoodIn wsX1_canCirculate wsX1_annulusVolume := goodIn_r _ [11, 6, 12, 13, 14, 15, 16, 17, 18, 19, 20, 21, 22, 23, 24, 25] rfl (by decide +kernel)
set_option maxRecDepth 20000 in
theorem gX1_canCirculate_X1_annulusVolume : GoodIn wsX1_canCirculate (wsV RX1 62 RX1 yX1_annulusVolume wsX1_annulusVolume) := goodIn_app (goodIn_of _ (by decide +kernel)) ggX1_canCirculate_X1_annulusVolume
set_option maxRecDepth 20000 in
theorem ggX1_circulate_X0_release : GoodIn wsX1_circulate wsX0_release := goodIn_r _ [7, 8, 9, 10, 11, 6, 12, 13, 14, 15, 16, 17, 18, 19, 20, 21, 22, 23, 24, 25, 26, 27, 28, 55, 56, 57, 58, 59, 60] rfl (by decide +kernel)
set_option maxRecDepth 20000 in
theorem gX1_circulate_X0_release : GoodIn wsX1_circulate (wsV RX1 78 RX0 yX0_release wsX0_release) := goodIn_app (goodIn_of _ (by decide +kernel)) ggX1_circulate_X0_release
set_option maxRecDepth 20000 in
theorem ggX1_circulate_X0_releaseInto : GoodIn wsX1_circulate wsX0_releaseInto := goodIn_r _ [32, 8, 19, 21, 22, 23, 6, 24, 20, 25, 26, 27, 28, 9, 10, 11, 12, 13, 14, 15, 16, 17, 18, 33, 34, 35, 36, 37, 38, 39, 40, 55, 56, 57, 58, 59, 60] rfl (by decide +kernel)
set_option maxRecDepth 20000 in
theorem gX1_circulate_X0_releaseInto : GoodIn wsX1_circulate (wsV RX1 82 RX0 yX0_releaseInto wsX0_releaseInto) := goodIn_app (goodIn_of _ (by decide +kernel)) ggX1_circulate_X0_releaseInto
set_option maxRecDepth 20000 in
theorem ggX1_circulate_X0_enter : GoodIn wsX1_circulate wsX0_enter := goodIn_r _ [36, 8, 13, 19, 18, 37, 38, 39, 6, 40, 21, 22, 23, 24, 20, 25, 26, 27, 28, 55, 56, 57, 58, 59, 60] rfl (by decide +kernel)
set_option maxRecDepth 20000 in
theorem gX1_circulate_X0_enter : GoodIn wsX1_circulate (wsV RX1 58 RX0 yX0_enter wsX0_enter) := goodIn_app (goodIn_of _ (by decide +kernel)) ggX1_circulate_X0_enter
set_option maxRecDepth 20000 in
theorem ggX1_circulateInSteps_X2_portionsFor : GoodIn wsX1_circulateInSteps wsX2_portionsFor := goodIn_r _ [3, 4, 5, 6, 7] rfl (by decide +kernel)
set_option maxRecDepth 20000 in
theorem gX1_circulateInSteps_X2_portionsFor_n86 : GoodIn wsX1_circulateInSteps (wsX2_portionsFor) := ggX1_circulateInSteps_X2_portionsFor
set_option maxRecDepth 20000 in
theorem ggX1_circulateInSteps_X1_circulate : GoodIn wsX1_circulateInSteps wsX1_circulate := goodIn_r _ [12, 13, 14, 15, 16, 17, 18, 19, 20, 21, 22, 23, 24, 25, 26, 27, 6, 28, 29, 30, 31, 32, 33, 34, 35, 36, 37, 38, 39, 40, 41, 42, 43, 44, 45, 46, 47, 48, 49, 50, 51, 52, 104, 105, 106, 107, 108, 109, 110, 111, 112, 113, 114, 115, 116, 117, 118, 119, 120, 121, 122] rfl (by decide +kernel)
set_option maxRecDepth 20000 in
theorem gX1_circulateInSteps_X1_circulate : GoodIn wsX1_circulateInSteps (wsV RX1 90 RX1 yX1_circulate wsX1_circulate) := goodIn_app (goodIn_of _ (by decide +kernel)) ggX1_circulateInSteps_X1_circulate
set_option maxRecDepth 20000 in
theorem ggX1_circulateInSteps_X1_checkShoe : GoodIn wsX1_circulateInSteps wsX1_checkShoe := goodIn_r _ [56, 57, 58, 59, 60, 5, 6, 7, 61, 62, 63, 11, 64, 65, 66, 67, 68, 69, 70, 71, 72, 73, 74, 75, 76, 77, 78, 79, 14, 13, 80, 81, 82, 83, 84, 85, 86, 87, 88, 89, 90, 91, 92, 93, 94, 95, 96, 97, 18, 98, 20, 25, 26, 27, 28, 30, 99, 100, 101, 102, 103, 31, 36, 37, 38, 39, 104, 105, 106, 107, 108, 109, 110, 111, 112, 113, 114, 115, 116, 117, 118, 119, 120, 121, 122] rfl (by decide +kernel)
set_option maxRecDepth 20000 in
theorem gX1_circulateInSteps_X1_checkShoe : GoodIn wsX1_circulateInSteps (wsV RX1 93 RX1 yX1_checkShoe wsX1_checkShoe) := goodIn_app (goodIn_of _ (by decide +kernel)) ggX1_circulateInSteps_X1_checkShoe
set_option maxRecDepth 20000 in
theorem ggX1_letIn_X0_release : GoodIn wsX1_letIn wsX0_release := goodIn_r _ [7, 8, 9, 10, 11, 6, 12, 13, 14, 15, 16, 17, 18, 19, 20, 21, 22, 23, 24, 25, 26, 27, 28, 50, 51, 52, 53, 54, 55] rfl (by decide +kernel)
set_option maxRecDepth 20000 in
theorem gX1_letIn_X0_release : GoodIn wsX1_letIn (wsV RX1 78 RX0 yX0_release wsX0_release) := goodIn_app (goodIn_of _ (by decide +kernel)) ggX1_letIn_X0_release
set_option maxRecDepth 20000 in
theorem ggX1_letIn_X0_enter : GoodIn wsX1_letIn wsX0_enter := goodIn_r _ [32, 8, 13, 19, 18, 33, 34, 35, 6, 36, 21, 22, 23, 24, 20, 25, 26, 27, 28, 50, 51, 52, 53, 54, 55] rfl (by decide +kernel)
set_option maxRecDepth 20000 in
theorem gX1_letIn_X0_enter : GoodIn wsX1_letIn (wsV RX1 58 RX0 yX0_enter wsX0_enter) := goodIn_app (goodIn_of _ (by decide +kernel)) ggX1_letIn_X0_enter
set_option maxRecDepth 20000 in
theorem ggX1_checkShoe_X1_pressureAtShoe : GoodIn wsX1_checkShoe wsX1_pressureAtShoe := goodIn_r _ [12, 13, 14, 15, 16, 11, 17, 18, 4, 5, 6, 7, 19, 20, 21, 22, 23, 24, 25, 26, 27, 28, 29, 30, 31, 32, 33, 34, 35, 36, 37, 38, 39, 40, 41, 42, 43, 44, 45, 46, 47, 48, 49, 50, 51, 52, 53, 54, 55, 56, 57, 58, 59, 60, 61, 62, 63, 64, 65, 66, 67, 68, 69, 70, 71, 72, 73, 74, 75, 76, 77, 78, 79, 80, 81, 82, 83, 84] rfl (by decide +kernel)
set_option maxRecDepth 20000 in
theorem gX1_checkShoe_X1_pressureAtShoe : GoodIn wsX1_checkShoe (wsV RX1 96 RX1 yX1_pressureAtShoe wsX1_pressureAtShoe) := goodIn_app (goodIn_of _ (by decide +kernel)) ggX1_checkShoe_X1_pressureAtShoe
set_option maxRecDepth 20000 in
theorem ggX1_pressureOfWhole_X1_column : GoodIn wsX1_pressureOfWhole wsX1_column := goodIn_r _ [6, 7, 8, 30, 31, 32, 33, 34, 35, 36, 37, 38, 39, 40, 41, 42] rfl (by decide +kernel)
set_option maxRecDepth 20000 in
theorem gX1_pressureOfWhole_X1_column : GoodIn wsX1_pressureOfWhole (wsV RX1 104 RX1 yX1_column wsX1_column) := goodIn_app (goodIn_of _ (by decide +kernel)) ggX1_pressureOfWhole_X1_column
set_option maxRecDepth 20000 in
theorem ggX1_pressureOfWhole_X1_capacity : GoodIn wsX1_pressureOfWhole wsX1_capacity := goodIn_r _ [12, 13, 14, 30, 31, 32, 33, 34, 35, 36, 37, 38, 39, 40, 41, 42] rfl (by decide +kernel)
set_option maxRecDepth 20000 in
theorem gX1_pressureOfWhole_X1_capacity : GoodIn wsX1_pressureOfWhole (wsV RX1 112 RX1 yX1_capacity wsX1_capacity) := goodIn_app (goodIn_of _ (by decide +kernel)) ggX1_pressureOfWhole_X1_capacity
set_option maxRecDepth 20000 in
theorem ggX1_pressureOfWhole_X1_pressureOf : GoodIn wsX1_pressureOfWhole wsX1_pressureOf := goodIn_r _ [17, 18, 19, 20, 21, 22, 23] rfl (by decide +kernel)
set_option maxRecDepth 20000 in
theorem gX1_pressureOfWhole_X1_pressureOf : GoodIn wsX1_pressureOfWhole (va_wsS RX1 116 yX1_pressureOf wsX1_pressureOf) := goodIn_app (goodIn_of _ (by decide +kernel)) ggX1_pressureOfWhole_X1_pressureOf
set_option maxRecDepth 20000 in
theorem ggX1_pressureOfPart_X1_capacity : GoodIn wsX1_pressureOfPart wsX1_capacity := goodIn_r _ [5, 6, 7, 44, 45, 46, 47, 48, 49, 50, 51, 52, 53, 54, 55, 56] rfl (by decide +kernel)
set_option maxRecDepth 20000 in
theorem gX1_pressureOfPart_X1_capacity : GoodIn wsX1_pressureOfPart (wsV RX1 112 RX1 yX1_capacity wsX1_capacity) := goodIn_app (goodIn_of _ (by decide +kernel)) ggX1_pressureOfPart_X1_capacity
set_option maxRecDepth 20000 in
theorem ggX1_pressureOfPart_X1_column : GoodIn wsX1_pressureOfPart wsX1_column := goodIn_r _ [11, 12, 13, 44, 45, 46, 47, 48, 49, 50, 51, 52, 53, 54, 55, 56] rfl (by decide +kernel)
set_option maxRecDepth 20000 in
theorem gX1_pressureOfPart_X1_column : GoodIn wsX1_pressureOfPart (wsV RX1 104 RX1 yX1_column wsX1_column) := goodIn_app (goodIn_of _ (by decide +kernel)) ggX1_pressureOfPart_X1_column
set_option maxRecDepth 20000 in
theorem ggX1_pressureOfPart_X0_loadAbove : GoodIn wsX1_pressureOfPart wsX0_loadAbove := goodIn_r _ [18, 19, 20, 21, 22, 23, 24, 25, 26, 27, 28, 17, 29, 30, 31, 32, 33, 34, 35, 57, 58, 59, 60, 61, 62] rfl (by decide +kernel)
set_option maxRecDepth 20000 in
theorem gX1_pressureOfPart_X0_loadAbove : GoodIn wsX1_pressureOfPart (wsV RX1 120 RX0 yX0_loadAbove wsX0_loadAbove) := goodIn_app (goodIn_of _ (by decide +kernel)) ggX1_pressureOfPart_X0_loadAbove
set_option maxRecDepth 20000 in
theorem ggX1_pressureOfPart_X1_pressureOf : GoodIn wsX1_pressureOfPart wsX1_pressureOf := goodIn_r _ [38, 39, 40, 41, 42, 23, 43] rfl (by decide +kernel)
set_option maxRecDepth 20000 in
theorem gX1_pressureOfPart_X1_pressureOf : GoodIn wsX1_pressureOfPart (va_wsS RX1 116 yX1_pressureOf wsX1_pressureOf) := goodIn_app (goodIn_of _ (by decide +kernel)) ggX1_pressureOfPart_X1_pressureOf
set_option maxRecDepth 20000 in
theorem ggX1_pressureAtPipe_X1_pressureOfWhole : GoodIn wsX1_pressureAtPipe wsX1_pressureOfWhole := goodIn_r _ [10, 11, 12, 13, 14, 9, 15, 16, 17, 18, 19, 20, 21, 22, 23, 24, 25, 26, 27, 28, 2, 3, 4, 5, 42, 43, 44, 45, 46, 47, 29, 30, 31, 32, 33, 34, 35, 36, 37, 38, 39, 40, 41] rfl (by decide +kernel)
set_option maxRecDepth 20000 in
theorem gX1_pressureAtPipe_X1_pressureOfWhole : GoodIn wsX1_pressureAtPipe (wsV RX1 128 RX1 yX1_pressureOfWhole wsX1_pressureOfWhole) := goodIn_app (goodIn_of _ (by decide +kernel)) ggX1_pressureAtPipe_X1_pressureOfWhole
set_option maxRecDepth 20000 in
theorem ggX1_pressureAtCasing_X1_pressureOfWhole : GoodIn wsX1_pressureAtCasing wsX1_pressureOfWhole := goodIn_r _ [10, 11, 12, 13, 14, 9, 15, 16, 17, 18, 19, 20, 21, 22, 23, 24, 25, 26, 27, 28, 2, 3, 4, 5, 42, 43, 44, 45, 46, 47, 29, 30, 31, 32, 33, 34, 35, 36, 37, 38, 39, 40, 41] rfl (by decide +kernel)
set_option maxRecDepth 20000 in
theorem gX1_pressureAtCasing_X1_pressureOfWhole : GoodIn wsX1_pressureAtCasing (wsV RX1 128 RX1 yX1_pressureOfWhole wsX1_pressureOfWhole) := goodIn_app (goodIn_of _ (by decide +kernel)) ggX1_pressureAtCasing_X1_pressureOfWhole
set_option maxRecDepth 20000 in
theorem ggX1_pressureAtStandpipe_X1_pressureAtPipe : GoodIn wsX1_pressureAtStandpipe wsX1_pressureAtPipe := goodIn_r _ [6, 7, 8, 9, 10, 11, 12, 13, 14, 5, 15, 16, 17, 18, 19, 20, 21, 22, 23, 24, 25, 26, 27, 28, 29, 30, 31, 32, 33, 34, 35, 36, 37, 38, 39, 40, 41, 42, 43, 44, 45, 46, 47, 48, 49, 50, 51, 52] rfl (by decide +kernel)
set_option maxRecDepth 20000 in
theorem gX1_pressureAtStandpipe_X1_pressureAtPipe : GoodIn wsX1_pressureAtStandpipe (wsV RX1 131 RX1 yX1_pressureAtPipe wsX1_pressureAtPipe) := goodIn_app (goodIn_of _ (by decide +kernel)) ggX1_pressureAtStandpipe_X1_pressureAtPipe
set_option maxRecDepth 20000 in
theorem ggX1_pressureAtShoe_X1_pressureAtCasing : GoodIn wsX1_pressureAtShoe wsX1_pressureAtCasing := goodIn_r _ [6, 7, 8, 9, 10, 11, 12, 13, 14, 5, 15, 16, 17, 18, 19, 20, 21, 22, 23, 24, 25, 26, 27, 28, 29, 30, 31, 32, 33, 59, 60, 61, 62, 63, 64, 65, 66, 67, 68, 69, 70, 71, 72, 73, 74, 75, 76, 77] rfl (by decide +kernel)
set_option maxRecDepth 20000 in
theorem gX1_pressureAtShoe_X1_pressureAtCasing : GoodIn wsX1_pressureAtShoe (wsV RX1 134 RX1 yX1_pressureAtCasing wsX1_pressureAtCasing) := goodIn_app (goodIn_of _ (by decide +kernel)) ggX1_pressureAtShoe_X1_pressureAtCasing
set_option maxRecDepth 20000 in
theorem ggX1_pressureAtShoe_X1_pressureOfPart : GoodIn wsX1_pressureAtShoe wsX1_pressureOfPart := goodIn_r _ [37, 23, 24, 25, 5, 26, 27, 28, 17, 18, 19, 20, 21, 22, 38, 39, 40, 41, 42, 43, 44, 45, 46, 10, 47, 48, 49, 50, 51, 52, 53, 54, 55, 56, 57, 58, 29, 30, 31, 32, 33, 8, 9, 11, 59, 60, 61, 62, 63, 64, 65, 66, 67, 68, 69, 70, 71, 72, 73, 74, 75, 76, 77] rfl (by decide +kernel)
set_option maxRecDepth 20000 in
theorem gX1_pressureAtShoe_X1_pressureOfPart : GoodIn wsX1_pressureAtShoe (wsV RX1 137 RX1 yX1_pressureOfPart wsX1_pressureOfPart) := goodIn_app (goodIn_of _ (by decide +kernel)) ggX1_pressureAtShoe_X1_pressureOfPart
set_option maxRecDepth 20000 in
theorem ggX1_mixedSettings_X2_mixed : GoodIn wsX1_mixedSettings wsX2_mixed := goodIn_r _ [11, 12] rfl (by decide +kernel)
set_option maxRecDepth 20000 in
theorem gX1_mixedSettings_X2_mixed_n145 : GoodIn wsX1_mixedSettings (wsX2_mixed) := ggX1_mixedSettings_X2_mixed
set_option maxRecDepth 20000 in
theorem ggX1_mixedReadings_X1_pressureAtPipe : GoodIn wsX1_mixedReadings wsX1_pressureAtPipe := goodIn_r _ [8, 9, 10, 11, 12, 13, 14, 15, 16, 7, 17, 18, 19, 20, 21, 22, 23, 24, 25, 26, 27, 28, 29, 30, 31, 32, 33, 34, 35, 79, 80, 81, 82, 83, 84, 85, 86, 87, 88, 89, 90, 91, 92, 93, 94, 95, 96, 97] rfl (by decide +kernel)
set_option maxRecDepth 20000 in
theorem gX1_mixedReadings_X1_pressureAtPipe : GoodIn wsX1_mixedReadings (wsV RX1 131 RX1 yX1_pressureAtPipe wsX1_pressureAtPipe) := goodIn_app (goodIn_of _ (by decide +kernel)) ggX1_mixedReadings_X1_pressureAtPipe
set_option maxRecDepth 20000 in
theorem ggX1_mixedReadings_X2_mixed : GoodIn wsX1_mixedReadings wsX2_mixed := goodIn_r _ [38, 39] rfl (by decide +kernel)
set_option maxRecDepth 20000 in
theorem gX1_mixedReadings_X2_mixed_n145 : GoodIn wsX1_mixedReadings (wsX2_mixed) := ggX1_mixedReadings_X2_mixed
set_option maxRecDepth 20000 in
theorem ggX1_mixedReadings_X1_pressureAtCasing : GoodIn wsX1_mixedReadings wsX1_pressureAtCasing := goodIn_r _ [43, 9, 10, 11, 12, 13, 14, 15, 16, 7, 17, 18, 19, 20, 21, 22, 23, 24, 25, 26, 27, 28, 29, 30, 31, 32, 33, 34, 35, 79, 80, 81, 82, 83, 84, 85, 86, 87, 88, 89, 90, 91, 92, 93, 94, 95, 96, 97] rfl (by decide +kernel)
set_option maxRecDepth 20000 in
theorem gX1_mixedReadings_X1_pressureAtCasing : GoodIn wsX1_mixedReadings (wsV RX1 134 RX1 yX1_pressureAtCasing wsX1_pressureAtCasing) := goodIn_app (goodIn_of _ (by decide +kernel)) ggX1_mixedReadings_X1_pressureAtCasing
set_option maxRecDepth 20000 in
theorem ggX1_mixedReadings_X1_pressureAtStandpipe : GoodIn wsX1_mixedReadings wsX1_pressureAtStandpipe := goodIn_r _ [47, 48, 4, 5, 6, 7, 8, 9, 10, 11, 12, 13, 14, 15, 16, 17, 18, 19, 20, 21, 22, 23, 24, 25, 26, 27, 28, 29, 30, 31, 32, 33, 34, 35, 79, 80, 81, 82, 83, 84, 85, 86, 87, 88, 89, 90, 91, 92, 93, 94, 95, 96, 97] rfl (by decide +kernel)
set_option maxRecDepth 20000 in
theorem gX1_mixedReadings_X1_pressureAtStandpipe : GoodIn wsX1_mixedReadings (wsV RX1 148 RX1 yX1_pressureAtStandpipe wsX1_pressureAtStandpipe) := goodIn_app (goodIn_of _ (by decide +kernel)) ggX1_mixedReadings_X1_pressureAtStandpipe
set_option maxRecDepth 20000 in
theorem ggX1_mixedReadings_X1_pressureAtShoe : GoodIn wsX1_mixedReadings wsX1_pressureAtShoe := goodIn_r _ [52, 53, 40, 41, 42, 7, 43, 9, 10, 11, 12, 13, 14, 15, 16, 17, 18, 19, 20, 21, 22, 23, 24, 25, 26, 27, 28, 29, 30, 31, 32, 33, 34, 35, 54, 55, 56, 57, 58, 59, 60, 61, 62, 63, 64, 65, 66, 67, 68, 69, 70, 71, 72, 73, 74, 75, 76, 77, 78, 79, 80, 81, 82, 83, 84, 85, 86, 87, 88, 89, 90, 91, 92, 93, 94, 95, 96, 97] rfl (by decide +kernel)
set_option maxRecDepth 20000 in
theorem gX1_mixedReadings_X1_pressureAtShoe : GoodIn wsX1_mixedReadings (wsV RX1 96 RX1 yX1_pressureAtShoe wsX1_pressureAtShoe) := goodIn_app (goodIn_of _ (by decide +kernel)) ggX1_mixedReadings_X1_pressureAtShoe
set_option maxRecDepth 20000 in
theorem ggX2_init_X1_init : GoodIn wsX2_init wsX1_init := goodIn_r _ [15, 16, 2, 3, 17, 18, 19, 20, 21, 22, 23, 24, 25, 26, 27, 28, 29, 30, 31, 32, 33, 11, 34, 35, 36, 37, 38, 39, 6, 40, 41, 42, 43, 44, 45, 46, 47, 48, 49, 50, 51, 52, 53, 54, 55, 56, 57, 58, 59, 60, 61, 62, 63, 64, 65, 66, 67, 68, 69, 70, 71, 72, 73, 74, 75, 76, 77, 78, 79, 80, 81, 82, 83, 84, 85, 86, 87, 93, 94, 95, 96, 97, 98] rfl (by decide +kernel)
set_option maxRecDepth 20000 in
theorem gX2_init_X1_init : GoodIn wsX2_init (wsX1_init) := ggX2_init_X1_init
set_option maxRecDepth 20000 in
theorem ggX2_setGeometry_X2_within : GoodIn wsX2_setGeometry wsX2_within := goodIn_r _ [9] rfl (by decide +kernel)
set_option maxRecDepth 20000 in
theorem gX2_setGeometry_X2_within : GoodIn wsX2_setGeometry (va_wsS RX2 31 yX2_within wsX2_within) := goodIn_app (goodIn_of _ (by decide +kernel)) ggX2_setGeometry_X2_within
set_option maxRecDepth 20000 in
theorem ggX2_setGeometry_X2_refuse : GoodIn wsX2_setGeometry wsX2_refuse := goodIn_r _ [13, 14, 6, 7, 8, 9, 89, 90, 91, 92, 93] rfl (by decide +kernel)
set_option maxRecDepth 20000 in
theorem gX2_setGeometry_X2_refuse : GoodIn wsX2_setGeometry (wsV RX2 35 RX2 yX2_refuse wsX2_refuse) := goodIn_app (goodIn_of _ (by decide +kernel)) ggX2_setGeometry_X2_refuse
set_option maxRecDepth 20000 in
theorem ggX2_setGeometry_X2_save : GoodIn wsX2_setGeometry wsX2_save := goodIn_r _ [18, 19, 20, 1, 21, 22, 23, 8, 24, 25, 26, 27, 28, 29, 30, 31, 32, 33, 34, 35, 36, 37, 38, 39, 40, 41, 42, 43, 44, 45, 46, 47, 48, 49, 50, 51, 52, 53, 54, 55, 56, 57, 58, 59, 60, 61, 62, 63, 64, 65, 66, 67, 68, 69, 70, 71, 72, 89, 90, 91, 92, 93, 94, 95, 96, 97, 98, 99, 100, 101, 102, 103, 104, 105, 106, 107, 108, 109, 110, 111, 112] rfl (by decide +kernel)
set_option maxRecDepth 20000 in
theorem gX2_setGeometry_X2_save : GoodIn wsX2_setGeometry (wsV RX2 39 RX2 yX2_save wsX2_save) := goodIn_app (goodIn_of _ (by decide +kernel)) ggX2_setGeometry_X2_save
set_option maxRecDepth 20000 in
theorem ggX2_setGeometry_X1_startAnew : GoodIn wsX2_setGeometry wsX1_startAnew := goodIn_r _ [76, 41, 34, 42, 38, 39, 40, 77, 52, 53, 46, 54, 55, 48, 56, 78, 79, 80, 28, 81, 30, 31, 82, 66, 67, 68, 49, 50, 69, 70, 71, 72, 57, 58, 59, 60, 61, 62, 63, 64, 83, 84, 85, 86, 32, 94, 95, 96, 97, 98, 99, 100, 101, 102, 103, 104, 105, 106, 107, 108, 109, 110, 111, 112] rfl (by decide +kernel)
set_option maxRecDepth 20000 in
theorem gX2_setGeometry_X1_startAnew : GoodIn wsX2_setGeometry (wsV RX2 54 RX1 yX1_startAnew wsX1_startAnew) := goodIn_app (goodIn_of _ (by decide +kernel)) ggX2_setGeometry_X1_startAnew
set_option maxRecDepth 20000 in
theorem ggX2_setGeometry_X1_pipeVolume : GoodIn wsX2_setGeometry wsX1_pipeVolume := goodIn_r _ [81, 30, 31, 94, 95, 96, 97, 98, 99, 100, 101, 102, 103, 104, 105, 106] rfl (by decide +kernel)
set_option maxRecDepth 20000 in
theorem gX2_setGeometry_X1_pipeVolume : GoodIn wsX2_setGeometry (wsV RX2 57 RX1 yX1_pipeVolume wsX1_pipeVolume) := goodIn_app (goodIn_of _ (by decide +kernel)) ggX2_setGeometry_X1_pipeVolume
set_option maxRecDepth 20000 in
theorem ggX2_setGeometry_X1_annulusVolume : GoodIn wsX2_setGeometry wsX1_annulusVolume := goodIn_r _ [86, 30, 32, 94, 95, 96, 97, 98, 99, 100, 101, 102, 103, 104, 105, 106] rfl (by decide +kernel)
set_option maxRecDepth 20000 in
theorem gX2_setGeometry_X1_annulusVolume : GoodIn wsX2_setGeometry (wsV RX2 61 RX1 yX1_annulusVolume wsX1_annulusVolume) := goodIn_app (goodIn_of _ (by decide +kernel)) ggX2_setGeometry_X1_annulusVolume
set_option maxRecDepth 20000 in
theorem ggX2_setMud_X2_within : GoodIn wsX2_setMud wsX2_within := goodIn_r _ [6] rfl (by decide +kernel)
set_option maxRecDepth 20000 in
theorem gX2_setMud_X2_within : GoodIn wsX2_setMud (va_wsS RX2 31 yX2_within wsX2_within) := goodIn_app (goodIn_of _ (by decide +kernel)) ggX2_setMud_X2_within
set_option maxRecDepth 20000 in
theorem ggX2_setMud_X2_refuse : GoodIn wsX2_setMud wsX2_refuse := goodIn_r _ [10, 11, 3, 4, 5, 6, 70, 71, 72, 73, 74] rfl (by decide +kernel)
set_option maxRecDepth 20000 in
theorem gX2_setMud_X2_refuse : GoodIn wsX2_setMud (wsV RX2 35 RX2 yX2_refuse wsX2_refuse) := goodIn_app (goodIn_of _ (by decide +kernel)) ggX2_setMud_X2_refuse
set_option maxRecDepth 20000 in
theorem ggX2_setMud_X2_save : GoodIn wsX2_setMud wsX2_save := goodIn_r _ [15, 16, 17, 1, 18, 19, 20, 5, 21, 22, 23, 24, 25, 26, 27, 28, 29, 30, 31, 32, 33, 34, 35, 36, 37, 38, 39, 40, 41, 42, 43, 44, 45, 46, 47, 48, 49, 50, 51, 52, 53, 54, 55, 56, 57, 58, 59, 60, 61, 62, 63, 64, 65, 66, 67, 68, 69, 70, 71, 72, 73, 74, 75, 76, 77, 78, 79, 80, 81, 82, 83, 84, 85, 86, 87, 88, 89, 90, 91, 92, 93] rfl (by decide +kernel)
set_option maxRecDepth 20000 in
theorem gX2_setMud_X2_save : GoodIn wsX2_setMud (wsV RX2 39 RX2 yX2_save wsX2_save) := goodIn_app (goodIn_of _ (by decide +kernel)) ggX2_setMud_X2_save
set_option maxRecDepth 20000 in
theorem ggX2_setFormation_X2_within : GoodIn wsX2_setFormation wsX2_within := goodIn_r _ [7] rfl (by decide +kernel)
set_option maxRecDepth 20000 in
theorem gX2_setFormation_X2_within : GoodIn wsX2_setFormation (va_wsS RX2 31 yX2_within wsX2_within) := goodIn_app (goodIn_of _ (by decide +kernel)) ggX2_setFormation_X2_within
set_option maxRecDepth 20000 in
theorem ggX2_setFormation_X2_refuse : GoodIn wsX2_setFormation wsX2_refuse := goodIn_r _ [11, 12, 4, 5, 6, 7, 71, 72, 73, 74, 75] rfl (by decide +kernel)
set_option maxRecDepth 20000 in
theorem gX2_setFormation_X2_refuse : GoodIn wsX2_setFormation (wsV RX2 35 RX2 yX2_refuse wsX2_refuse) := goodIn_app (goodIn_of _ (by decide +kernel)) ggX2_setFormation_X2_refuse
set_option maxRecDepth 20000 in
theorem ggX2_setFormation_X2_save : GoodIn wsX2_setFormation wsX2_save := goodIn_r _ [16, 17, 18, 2, 19, 20, 21, 6, 22, 23, 24, 25, 26, 27, 28, 29, 30, 31, 32, 33, 34, 35, 36, 37, 38, 39, 40, 41, 42, 43, 44, 45, 46, 47, 48, 49, 50, 51, 52, 53, 54, 55, 56, 57, 58, 59, 60, 61, 62, 63, 64, 65, 66, 67, 68, 69, 70, 71, 72, 73, 74, 75, 76, 77, 78, 79, 80, 81, 82, 83, 84, 85, 86, 87, 88, 89, 90, 91, 92, 93, 94] rfl (by decide +kernel)
set_option maxRecDepth 20000 in
theorem gX2_setFormation_X2_save : GoodIn wsX2_setFormation (wsV RX2 39 RX2 yX2_save wsX2_save) := goodIn_app (goodIn_of _ (by decide +kernel)) ggX2_setFormation_X2_save
set_option maxRecDepth 20000 in
theorem ggX2_setSlowPump_X2_within : GoodIn wsX2_setSlowPump wsX2_within := goodIn_r _ [6] rfl (by decide +kernel)
set_option maxRecDepth 20000 in
theorem gX2_setSlowPump_X2_within : GoodIn wsX2_setSlowPump (va_wsS RX2 31 yX2_within wsX2_within) := goodIn_app (goodIn_of _ (by decide +kernel)) ggX2_setSlowPump_X2_within
set_option maxRecDepth 20000 in
theorem ggX2_setSlowPump_X2_refuse : GoodIn wsX2_setSlowPump wsX2_refuse := goodIn_r _ [10, 11, 3, 4, 5, 6, 70, 71, 72, 73, 74] rfl (by decide +kernel)
set_option maxRecDepth 20000 in
theorem gX2_setSlowPump_X2_refuse : GoodIn wsX2_setSlowPump (wsV RX2 35 RX2 yX2_refuse wsX2_refuse) := goodIn_app (goodIn_of _ (by decide +kernel)) ggX2_setSlowPump_X2_refuse
set_option maxRecDepth 20000 in
theorem ggX2_setSlowPump_X2_save : GoodIn wsX2_setSlowPump wsX2_save := goodIn_r _ [15, 16, 17, 1, 18, 19, 20, 5, 21, 22, 23, 24, 25, 26, 27, 28, 29, 30, 31, 32, 33, 34, 35, 36, 37, 38, 39, 40, 41, 42, 43, 44, 45, 46, 47, 48, 49, 50, 51, 52, 53, 54, 55, 56, 57, 58, 59, 60, 61, 62, 63, 64, 65, 66, 67, 68, 69, 70, 71, 72, 73, 74, 75, 76, 77, 78, 79, 80, 81, 82, 83, 84, 85, 86, 87, 88, 89, 90, 91, 92, 93] rfl (by decide +kernel)
set_option maxRecDepth 20000 in
theorem gX2_setSlowPump_X2_save : GoodIn wsX2_setSlowPump (wsV RX2 39 RX2 yX2_save wsX2_save) := goodIn_app (goodIn_of _ (by decide +kernel)) ggX2_setSlowPump_X2_save
set_option maxRecDepth 20000 in
theorem ggX2_setFracture_X2_within : GoodIn wsX2_setFracture wsX2_within := goodIn_r _ [7] rfl (by decide +kernel)
set_option maxRecDepth 20000 in
theorem gX2_setFracture_X2_within : GoodIn wsX2_setFracture (va_wsS RX2 31 yX2_within wsX2_within) := goodIn_app (goodIn_of _ (by decide +kernel)) ggX2_setFracture_X2_within
set_option maxRecDepth 20000 in
theorem ggX2_setFracture_X2_refuse : GoodIn wsX2_setFracture wsX2_refuse := goodIn_r _ [11, 12, 4, 5, 6, 7, 71, 72, 73, 74, 75] rfl (by decide +kernel)
set_option maxRecDepth 20000 in
theorem gX2_setFracture_X2_refuse : GoodIn wsX2_setFracture (wsV RX2 35 RX2 yX2_refuse wsX2_refuse) := goodIn_app (goodIn_of _ (by decide +kernel)) ggX2_setFracture_X2_refuse
set_option maxRecDepth 20000 in
theorem ggX2_setFracture_X2_save : GoodIn wsX2_setFracture wsX2_save := goodIn_r _ [16, 17, 18, 2, 19, 20, 21, 6, 22, 23, 24, 25, 26, 27, 28, 29, 30, 31, 32, 33, 34, 35, 36, 37, 38, 39, 40, 41, 42, 43, 44, 45, 46, 47, 48, 49, 50, 51, 52, 53, 54, 55, 56, 57, 58, 59, 60, 61, 62, 63, 64, 65, 66, 67, 68, 69, 70, 71, 72, 73, 74, 75, 76, 77, 78, 79, 80, 81, 82, 83, 84, 85, 86, 87, 88, 89, 90, 91, 92, 93, 94] rfl (by decide +kernel)
set_option maxRecDepth 20000 in
theorem gX2_setFracture_X2_save : GoodIn wsX2_setFracture (wsV RX2 39 RX2 yX2_save wsX2_save) := goodIn_app (goodIn_of _ (by decide +kernel)) ggX2_setFracture_X2_save
set_option maxRecDepth 20000 in
theorem ggX2_pump_X2_refuse : GoodIn wsX2_pump wsX2_refuse := goodIn_r _ [7, 8, 9, 10, 6, 11, 150, 151, 152, 153, 154] rfl (by decide +kernel)
set_option maxRecDepth 20000 in
theorem gX2_pump_X2_refuse : GoodIn wsX2_pump (wsV RX2 35 RX2 yX2_refuse wsX2_refuse) := goodIn_app (goodIn_of _ (by decide +kernel)) ggX2_pump_X2_refuse
set_option maxRecDepth 20000 in
theorem ggX2_pump_X1_canCirculate : GoodIn wsX2_pump wsX1_canCirculate := goodIn_r _ [16, 17, 18, 19, 15, 20, 21, 22, 23, 24, 25, 26, 27, 155, 156, 157, 158, 159, 160, 161, 162, 163, 164, 165, 166, 167] rfl (by decide +kernel)
set_option maxRecDepth 20000 in
theorem gX2_pump_X1_canCirculate : GoodIn wsX2_pump (wsV RX2 77 RX1 yX1_canCirculate wsX1_canCirculate) := goodIn_app (goodIn_of _ (by decide +kernel)) ggX2_pump_X1_canCirculate
set_option maxRecDepth 20000 in
theorem ggX2_pump_X2_save : GoodIn wsX2_pump wsX2_save := goodIn_r _ [31, 32, 33, 1, 34, 35, 36, 6, 37, 38, 39, 40, 15, 41, 21, 22, 27, 42, 43, 44, 45, 46, 47, 48, 49, 50, 51, 52, 53, 54, 55, 56, 57, 58, 59, 60, 61, 62, 63, 64, 65, 66, 67, 68, 69, 70, 71, 72, 73, 74, 75, 76, 77, 78, 79, 80, 81, 150, 151, 152, 153, 154, 155, 156, 157, 158, 159, 160, 161, 162, 163, 164, 165, 166, 167, 168, 169, 170, 171, 172, 173] rfl (by decide +kernel)
set_option maxRecDepth 20000 in
theorem gX2_pump_X2_save : GoodIn wsX2_pump (wsV RX2 39 RX2 yX2_save wsX2_save) := goodIn_app (goodIn_of _ (by decide +kernel)) ggX2_pump_X2_save
set_option maxRecDepth 20000 in
theorem ggX2_pump_X1_circulate : GoodIn wsX2_pump wsX1_circulate := goodIn_r _ [85, 51, 50, 86, 87, 88, 55, 89, 57, 90, 91, 92, 93, 58, 94, 95, 96, 97, 65, 59, 64, 66, 67, 68, 69, 70, 71, 72, 73, 98, 99, 100, 101, 74, 75, 76, 77, 78, 79, 80, 81, 102, 155, 156, 157, 158, 159, 160, 161, 162, 163, 164, 165, 166, 167, 168, 169, 170, 171, 172, 173] rfl (by decide +kernel)
set_option maxRecDepth 20000 in
theorem gX2_pump_X1_circulate : GoodIn wsX2_pump (wsV RX2 81 RX1 yX1_circulate wsX1_circulate) := goodIn_app (goodIn_of _ (by decide +kernel)) ggX2_pump_X1_circulate
set_option maxRecDepth 20000 in
theorem ggX2_pump_X1_checkShoe : GoodIn wsX2_pump wsX1_checkShoe := goodIn_r _ [106, 46, 48, 49, 107, 108, 96, 109, 110, 111, 112, 15, 113, 42, 114, 115, 116, 117, 44, 118, 119, 120, 121, 122, 123, 124, 125, 126, 50, 51, 127, 128, 129, 130, 22, 27, 131, 132, 133, 134, 135, 136, 137, 138, 139, 140, 141, 142, 55, 143, 57, 58, 94, 95, 97, 59, 144, 145, 146, 147, 148, 64, 70, 71, 72, 73, 155, 156, 157, 158, 159, 160, 161, 162, 163, 164, 165, 166, 167, 168, 169, 170, 171, 172, 173] rfl (by decide +kernel)
set_option maxRecDepth 20000 in
theorem gX2_pump_X1_checkShoe : GoodIn wsX2_pump (wsV RX2 85 RX1 yX1_checkShoe wsX1_checkShoe) := goodIn_app (goodIn_of _ (by decide +kernel)) ggX2_pump_X1_checkShoe
set_option maxRecDepth 20000 in
theorem ggX2_pump_X1_pressureAtCasing : GoodIn wsX2_pump wsX1_pressureAtCasing := goodIn_r _ [117, 44, 107, 108, 96, 109, 118, 119, 120, 15, 121, 122, 123, 124, 125, 126, 50, 51, 127, 128, 129, 130, 22, 27, 131, 132, 133, 134, 135, 155, 156, 157, 158, 159, 160, 161, 162, 163, 164, 165, 166, 167, 168, 169, 170, 171, 172, 173] rfl (by decide +kernel)
set_option maxRecDepth 20000 in
theorem gX2_pump_X1_pressureAtCasing : GoodIn wsX2_pump (wsV RX2 88 RX1 yX1_pressureAtCasing wsX1_pressureAtCasing) := goodIn_app (goodIn_of _ (by decide +kernel)) ggX2_pump_X1_pressureAtCasing
set_option maxRecDepth 20000 in
theorem ggX2_influx_X2_within : GoodIn wsX2_influx wsX2_within := goodIn_r _ [5] rfl (by decide +kernel)
set_option maxRecDepth 20000 in
theorem gX2_influx_X2_within : GoodIn wsX2_influx (va_wsS RX2 31 yX2_within wsX2_within) := goodIn_app (goodIn_of _ (by decide +kernel)) ggX2_influx_X2_within
set_option maxRecDepth 20000 in
theorem ggX2_influx_X2_refuse : GoodIn wsX2_influx wsX2_refuse := goodIn_r _ [9, 10, 2, 3, 4, 5, 137, 138, 139, 140, 141] rfl (by decide +kernel)
set_option maxRecDepth 20000 in
theorem gX2_influx_X2_refuse : GoodIn wsX2_influx (wsV RX2 35 RX2 yX2_refuse wsX2_refuse) := goodIn_app (goodIn_of _ (by decide +kernel)) ggX2_influx_X2_refuse
set_option maxRecDepth 20000 in
theorem ggX2_influx_X1_annulusVolume : GoodIn wsX2_influx wsX1_annulusVolume := goodIn_r _ [15, 16, 17, 142, 143, 144, 145, 146, 147, 148, 149, 150, 151, 152, 153, 154] rfl (by decide +kernel)
set_option maxRecDepth 20000 in
theorem gX2_influx_X1_annulusVolume : GoodIn wsX2_influx (wsV RX2 61 RX1 yX1_annulusVolume wsX1_annulusVolume) := goodIn_app (goodIn_of _ (by decide +kernel)) ggX2_influx_X1_annulusVolume
set_option maxRecDepth 20000 in
theorem ggX2_influx_X2_save : GoodIn wsX2_influx wsX2_save := goodIn_r _ [21, 22, 23, 1, 24, 25, 26, 4, 27, 28, 29, 30, 14, 31, 16, 32, 17, 33, 34, 35, 36, 37, 38, 39, 40, 41, 42, 43, 44, 45, 46, 47, 48, 49, 50, 51, 52, 53, 54, 55, 56, 57, 58, 59, 60, 61, 62, 63, 64, 65, 66, 67, 68, 69, 70, 71, 72, 137, 138, 139, 140, 141, 142, 143, 144, 145, 146, 147, 148, 149, 150, 151, 152, 153, 154, 155, 156, 157, 158, 159, 160] rfl (by decide +kernel)
set_option maxRecDepth 20000 in
theorem gX2_influx_X2_save : GoodIn wsX2_influx (wsV RX2 39 RX2 yX2_save wsX2_save) := goodIn_app (goodIn_of _ (by decide +kernel)) ggX2_influx_X2_save
set_option maxRecDepth 20000 in
theorem ggX2_influx_X1_letIn : GoodIn wsX2_influx wsX1_letIn := goodIn_r _ [76, 42, 38, 77, 78, 79, 46, 80, 48, 81, 82, 83, 84, 49, 85, 86, 87, 88, 56, 50, 55, 57, 58, 59, 60, 61, 62, 63, 64, 89, 66, 67, 68, 69, 70, 71, 72, 142, 143, 144, 145, 146, 147, 148, 149, 150, 151, 152, 153, 154, 155, 156, 157, 158, 159, 160] rfl (by decide +kernel)
set_option maxRecDepth 20000 in
theorem gX2_influx_X1_letIn : GoodIn wsX2_influx (wsV RX2 91 RX1 yX1_letIn wsX1_letIn) := goodIn_app (goodIn_of _ (by decide +kernel)) ggX2_influx_X1_letIn
set_option maxRecDepth 20000 in
theorem ggX2_influx_X1_checkShoe : GoodIn wsX2_influx wsX1_checkShoe := goodIn_r _ [93, 37, 39, 40, 94, 95, 87, 96, 97, 98, 99, 14, 100, 33, 101, 102, 103, 104, 35, 105, 106, 107, 108, 109, 110, 111, 112, 113, 41, 42, 114, 115, 116, 117, 32, 17, 118, 119, 120, 121, 122, 123, 124, 125, 126, 127, 128, 129, 46, 130, 48, 49, 85, 86, 88, 50, 131, 132, 133, 134, 135, 55, 61, 62, 63, 64, 142, 143, 144, 145, 146, 147, 148, 149, 150, 151, 152, 153, 154, 155, 156, 157, 158, 159, 160] rfl (by decide +kernel)
set_option maxRecDepth 20000 in
theorem gX2_influx_X1_checkShoe : GoodIn wsX2_influx (wsV RX2 85 RX1 yX1_checkShoe wsX1_checkShoe) := goodIn_app (goodIn_of _ (by decide +kernel)) ggX2_influx_X1_checkShoe
set_option maxRecDepth 20000 in
theorem ggX2_influx_X1_pressureAtCasing : GoodIn wsX2_influx wsX1_pressureAtCasing := goodIn_r _ [104, 35, 94, 95, 87, 96, 105, 106, 107, 14, 108, 109, 110, 111, 112, 113, 41, 42, 114, 115, 116, 117, 32, 17, 118, 119, 120, 121, 122, 142, 143, 144, 145, 146, 147, 148, 149, 150, 151, 152, 153, 154, 155, 156, 157, 158, 159, 160] rfl (by decide +kernel)
set_option maxRecDepth 20000 in
theorem gX2_influx_X1_pressureAtCasing : GoodIn wsX2_influx (wsV RX2 88 RX1 yX1_pressureAtCasing wsX1_pressureAtCasing) := goodIn_app (goodIn_of _ (by decide +kernel)) ggX2_influx_X1_pressureAtCasing
set_option maxRecDepth 20000 in
theorem ggX2_hydrostatic_X2_within : GoodIn wsX2_hydrostatic wsX2_within := goodIn_r _ [5] rfl (by decide +kernel)
set_option maxRecDepth 20000 in
theorem gX2_hydrostatic_X2_within : GoodIn wsX2_hydrostatic (va_wsS RX2 31 yX2_within wsX2_within) := goodIn_app (goodIn_of _ (by decide +kernel)) ggX2_hydrostatic_X2_within
set_option maxRecDepth 20000 in
theorem ggX2_hydrostatic_X2_refuse : GoodIn wsX2_hydrostatic wsX2_refuse := goodIn_r _ [9, 10, 2, 3, 4, 5, 38, 39, 40, 41, 42] rfl (by decide +kernel)
set_option maxRecDepth 20000 in
theorem gX2_hydrostatic_X2_refuse : GoodIn wsX2_hydrostatic (wsV RX2 35 RX2 yX2_refuse wsX2_refuse) := goodIn_app (goodIn_of _ (by decide +kernel)) ggX2_hydrostatic_X2_refuse
set_option maxRecDepth 20000 in
theorem ggX2_hydrostatic_X1_pressureOfWhole : GoodIn wsX2_hydrostatic wsX1_pressureOfWhole := goodIn_r _ [15, 16, 17, 18, 19, 14, 20, 21, 22, 23, 24, 25, 26, 27, 28, 29, 30, 31, 32, 33, 34, 35, 36, 37, 43, 44, 45, 46, 47, 48, 49, 50, 51, 52, 53, 54, 55, 56, 57, 58, 59, 60, 61] rfl (by decide +kernel)
set_option maxRecDepth 20000 in
theorem gX2_hydrostatic_X1_pressureOfWhole : GoodIn wsX2_hydrostatic (wsV RX2 94 RX1 yX1_pressureOfWhole wsX1_pressureOfWhole) := goodIn_app (goodIn_of _ (by decide +kernel)) ggX2_hydrostatic_X1_pressureOfWhole
set_option maxRecDepth 20000 in
theorem ggX2_hydrostaticAbove_X2_within : GoodIn wsX2_hydrostaticAbove wsX2_within := goodIn_r _ [6] rfl (by decide +kernel)
set_option maxRecDepth 20000 in
theorem gX2_hydrostaticAbove_X2_within : GoodIn wsX2_hydrostaticAbove (va_wsS RX2 31 yX2_within wsX2_within) := goodIn_app (goodIn_of _ (by decide +kernel)) ggX2_hydrostaticAbove_X2_within
set_option maxRecDepth 20000 in
theorem ggX2_hydrostaticAbove_X2_refuse : GoodIn wsX2_hydrostaticAbove wsX2_refuse := goodIn_r _ [10, 11, 3, 4, 5, 6, 59, 60, 61, 62, 63] rfl (by decide +kernel)
set_option maxRecDepth 20000 in
theorem gX2_hydrostaticAbove_X2_refuse : GoodIn wsX2_hydrostaticAbove (wsV RX2 35 RX2 yX2_refuse wsX2_refuse) := goodIn_app (goodIn_of _ (by decide +kernel)) ggX2_hydrostaticAbove_X2_refuse
set_option maxRecDepth 20000 in
theorem ggX2_hydrostaticAbove_X1_pressureOfPart : GoodIn wsX2_hydrostaticAbove wsX1_pressureOfPart := goodIn_r _ [16, 17, 18, 19, 15, 20, 21, 22, 23, 24, 25, 26, 27, 28, 29, 30, 31, 32, 33, 34, 35, 36, 37, 38, 39, 40, 41, 42, 43, 44, 45, 46, 47, 48, 49, 50, 51, 52, 53, 54, 55, 56, 57, 58, 64, 65, 66, 67, 68, 69, 70, 71, 72, 73, 74, 75, 76, 77, 78, 79, 80, 81, 82] rfl (by decide +kernel)
set_option maxRecDepth 20000 in
theorem gX2_hydrostaticAbove_X1_pressureOfPart : GoodIn wsX2_hydrostaticAbove (wsV RX2 97 RX1 yX1_pressureOfPart wsX1_pressureOfPart) := goodIn_app (goodIn_of _ (by decide +kernel)) ggX2_hydrostaticAbove_X1_pressureOfPart
set_option maxRecDepth 20000 in
theorem ggX2_drillPipePressure_X1_pressureAtPipe : GoodIn wsX2_drillPipePressure wsX1_pressureAtPipe := goodIn_r _ [6, 7, 8, 9, 10, 11, 12, 13, 14, 5, 15, 16, 17, 18, 19, 20, 21, 22, 23, 24, 25, 26, 27, 28, 29, 30, 31, 32, 33, 39, 40, 41, 42, 43, 44, 45, 46, 47, 48, 49, 50, 51, 52, 53, 54, 55, 56, 57] rfl (by decide +kernel)
set_option maxRecDepth 20000 in
theorem gX2_drillPipePressure_X1_pressureAtPipe : GoodIn wsX2_drillPipePressure (wsV RX2 101 RX1 yX1_pressureAtPipe wsX1_pressureAtPipe) := goodIn_app (goodIn_of _ (by decide +kernel)) ggX2_drillPipePressure_X1_pressureAtPipe
set_option maxRecDepth 20000 in
theorem ggX2_casingPressure_X1_pressureAtCasing : GoodIn wsX2_casingPressure wsX1_pressureAtCasing := goodIn_r _ [6, 7, 8, 9, 10, 11, 12, 13, 14, 5, 15, 16, 17, 18, 19, 20, 21, 22, 23, 24, 25, 26, 27, 28, 29, 30, 31, 32, 33, 39, 40, 41, 42, 43, 44, 45, 46, 47, 48, 49, 50, 51, 52, 53, 54, 55, 56, 57] rfl (by decide +kernel)
set_option maxRecDepth 20000 in
theorem gX2_casingPressure_X1_pressureAtCasing : GoodIn wsX2_casingPressure (wsV RX2 88 RX1 yX1_pressureAtCasing wsX1_pressureAtCasing) := goodIn_app (goodIn_of _ (by decide +kernel)) ggX2_casingPressure_X1_pressureAtCasing
set_option maxRecDepth 20000 in
theorem ggX2_standpipePressure_X1_pressureAtStandpipe : GoodIn wsX2_standpipePressure wsX1_pressureAtStandpipe := goodIn_r _ [6, 7, 8, 9, 10, 5, 11, 12, 13, 14, 15, 16, 17, 18, 19, 20, 21, 22, 23, 24, 25, 26, 27, 28, 29, 30, 31, 32, 33, 34, 35, 36, 37, 38, 44, 45, 46, 47, 48, 49, 50, 51, 52, 53, 54, 55, 56, 57, 58, 59, 60, 61, 62] rfl (by decide +kernel)
set_option maxRecDepth 20000 in
theorem gX2_standpipePressure_X1_pressureAtStandpipe : GoodIn wsX2_standpipePressure (wsV RX2 104 RX1 yX1_pressureAtStandpipe wsX1_pressureAtStandpipe) := goodIn_app (goodIn_of _ (by decide +kernel)) ggX2_standpipePressure_X1_pressureAtStandpipe
set_option maxRecDepth 20000 in
theorem ggX2_shoePressure_X1_pressureAtShoe : GoodIn wsX2_shoePressure wsX1_pressureAtShoe := goodIn_r _ [6, 7, 8, 9, 10, 5, 11, 12, 13, 14, 15, 16, 17, 18, 19, 20, 21, 22, 23, 24, 25, 26, 27, 28, 29, 30, 31, 32, 33, 34, 35, 36, 37, 38, 39, 40, 41, 42, 43, 44, 45, 46, 47, 48, 49, 50, 51, 52, 53, 54, 55, 56, 57, 58, 59, 60, 61, 62, 63, 69, 70, 71, 72, 73, 74, 75, 76, 77, 78, 79, 80, 81, 82, 83, 84, 85, 86, 87] rfl (by decide +kernel)
set_option maxRecDepth 20000 in
theorem gX2_shoePressure_X1_pressureAtShoe : GoodIn wsX2_shoePressure (wsV RX2 107 RX1 yX1_pressureAtShoe wsX1_pressureAtShoe) := goodIn_app (goodIn_of _ (by decide +kernel)) ggX2_shoePressure_X1_pressureAtShoe
set_option maxRecDepth 20000 in
theorem ggX2_allowedCasingPressure_X1_pressureOfPart : GoodIn wsX2_allowedCasingPressure wsX1_pressureOfPart := goodIn_r _ [8, 9, 10, 11, 7, 12, 13, 14, 15, 16, 17, 18, 19, 20, 21, 22, 23, 24, 25, 26, 27, 28, 29, 30, 31, 32, 33, 34, 35, 36, 37, 38, 39, 40, 41, 42, 43, 44, 45, 46, 47, 48, 49, 50, 56, 57, 58, 59, 60, 61, 62, 63, 64, 65, 66, 67, 68, 69, 70, 71, 72, 73, 74] rfl (by decide +kernel)
set_option maxRecDepth 20000 in
theorem gX2_allowedCasingPressure_X1_pressureOfPart : GoodIn wsX2_allowedCasingPressure (wsV RX2 97 RX1 yX1_pressureOfPart wsX1_pressureOfPart) := goodIn_app (goodIn_of _ (by decide +kernel)) ggX2_allowedCasingPressure_X1_pressureOfPart
set_option maxRecDepth 20000 in
theorem ggX2_killDensity_X1_densityToKill : GoodIn wsX2_killDensity wsX1_densityToKill := goodIn_r _ [6, 7, 8, 9, 10, 11, 12, 13, 14, 15, 16, 17, 18, 33, 34, 35, 36, 37, 38, 39, 40, 41, 42, 43, 44, 45] rfl (by decide +kernel)
set_option maxRecDepth 20000 in
theorem gX2_killDensity_X1_densityToKill : GoodIn wsX2_killDensity (wsV RX2 110 RX1 yX1_densityToKill wsX1_densityToKill) := goodIn_app (goodIn_of _ (by decide +kernel)) ggX2_killDensity_X1_densityToKill
set_option maxRecDepth 20000 in
theorem ggX2_killDensity_X2_refuse : GoodIn wsX2_killDensity wsX2_refuse := goodIn_r _ [23, 24, 25, 26, 22, 27, 28, 29, 30, 31, 32] rfl (by decide +kernel)
set_option maxRecDepth 20000 in
theorem gX2_killDensity_X2_refuse : GoodIn wsX2_killDensity (wsV RX2 35 RX2 yX2_refuse wsX2_refuse) := goodIn_app (goodIn_of _ (by decide +kernel)) ggX2_killDensity_X2_refuse
set_option maxRecDepth 20000 in
theorem ggX2_killShoePressure_X2_within : GoodIn wsX2_killShoePressure wsX2_within := goodIn_r _ [8] rfl (by decide +kernel)
set_option maxRecDepth 20000 in
theorem gX2_killShoePressure_X2_within : GoodIn wsX2_killShoePressure (va_wsS RX2 31 yX2_within wsX2_within) := goodIn_app (goodIn_of _ (by decide +kernel)) ggX2_killShoePressure_X2_within
set_option maxRecDepth 20000 in
theorem ggX2_killShoePressure_X2_refuse : GoodIn wsX2_killShoePressure wsX2_refuse := goodIn_r _ [12, 13, 5, 6, 7, 8, 158, 159, 160, 161, 162] rfl (by decide +kernel)
set_option maxRecDepth 20000 in
theorem gX2_killShoePressure_X2_refuse : GoodIn wsX2_killShoePressure (wsV RX2 35 RX2 yX2_refuse wsX2_refuse) := goodIn_app (goodIn_of _ (by decide +kernel)) ggX2_killShoePressure_X2_refuse
set_option maxRecDepth 20000 in
theorem ggX2_killShoePressure_X1_canCirculate : GoodIn wsX2_killShoePressure wsX1_canCirculate := goodIn_r _ [18, 19, 20, 21, 17, 22, 23, 24, 25, 26, 27, 28, 29, 163, 164, 165, 166, 167, 168, 169, 170, 171, 172, 173, 174, 175] rfl (by decide +kernel)
set_option maxRecDepth 20000 in
theorem gX2_killShoePressure_X1_canCirculate : GoodIn wsX2_killShoePressure (wsV RX2 77 RX1 yX1_canCirculate wsX1_canCirculate) := goodIn_app (goodIn_of _ (by decide +kernel)) ggX2_killShoePressure_X1_canCirculate
set_option maxRecDepth 20000 in
theorem ggX2_killShoePressure_X1_densityToKill : GoodIn wsX2_killShoePressure wsX1_densityToKill := goodIn_r _ [33, 34, 23, 35, 36, 37, 38, 39, 40, 41, 42, 43, 44, 163, 164, 165, 166, 167, 168, 169, 170, 171, 172, 173, 174, 175] rfl (by decide +kernel)
set_option maxRecDepth 20000 in
theorem gX2_killShoePressure_X1_densityToKill : GoodIn wsX2_killShoePressure (wsV RX2 110 RX1 yX1_densityToKill wsX1_densityToKill) := goodIn_app (goodIn_of _ (by decide +kernel)) ggX2_killShoePressure_X1_densityToKill
set_option maxRecDepth 20000 in
theorem ggX2_killShoePressure_X1_copyFrom : GoodIn wsX2_killShoePressure wsX1_copyFrom := goodIn_r _ [48, 23, 24, 29, 49, 50, 40, 51, 52, 53, 54, 55, 56, 57, 58, 59, 60, 61, 62, 63, 64, 65, 66, 67, 68, 69, 70, 71, 72, 73, 74, 75, 76, 77, 78, 79, 80, 81, 82, 83, 84, 85, 86, 87, 163, 164, 165, 166, 167, 168, 169, 170, 171, 172, 173, 174, 175, 176, 177, 178, 179, 180, 181] rfl (by decide +kernel)
set_option maxRecDepth 20000 in
theorem gX2_killShoePressure_X1_copyFrom : GoodIn wsX2_killShoePressure (wsV RX2 113 RX1 yX1_copyFrom wsX1_copyFrom) := goodIn_app (goodIn_of _ (by decide +kernel)) ggX2_killShoePressure_X1_copyFrom
set_option maxRecDepth 20000 in
theorem ggX2_killShoePressure_X1_annulusVolume : GoodIn wsX2_killShoePressure wsX1_annulusVolume := goodIn_r _ [28, 23, 29, 163, 164, 165, 166, 167, 168, 169, 170, 171, 172, 173, 174, 175] rfl (by decide +kernel)
set_option maxRecDepth 20000 in
theorem gX2_killShoePressure_X1_annulusVolume : GoodIn wsX2_killShoePressure (wsV RX2 61 RX1 yX1_annulusVolume wsX1_annulusVolume) := goodIn_app (goodIn_of _ (by decide +kernel)) ggX2_killShoePressure_X1_annulusVolume
set_option maxRecDepth 20000 in
theorem ggX2_killShoePressure_X1_circulateInSteps : GoodIn wsX2_killShoePressure wsX1_circulateInSteps := goodIn_r _ [92, 93, 7, 94, 95, 36, 37, 38, 96, 97, 98, 17, 99, 57, 56, 100, 101, 102, 61, 103, 63, 104, 105, 106, 107, 64, 108, 109, 110, 71, 65, 70, 72, 73, 74, 75, 76, 77, 78, 79, 111, 112, 113, 114, 80, 81, 82, 83, 84, 85, 86, 87, 115, 116, 117, 118, 119, 52, 54, 55, 35, 120, 121, 122, 123, 49, 124, 125, 126, 127, 40, 128, 129, 130, 131, 132, 133, 134, 135, 136, 137, 138, 139, 140, 24, 29, 141, 142, 143, 34, 39, 144, 145, 146, 147, 148, 149, 150, 151, 152, 153, 154, 155, 156, 163, 164, 165, 166, 167, 168, 169, 170, 171, 172, 173, 174, 175, 176, 177, 178, 179, 180, 181] rfl (by decide +kernel)
set_option maxRecDepth 20000 in
theorem gX2_killShoePressure_X1_circulateInSteps : GoodIn wsX2_killShoePressure (wsV RX2 120 RX1 yX1_circulateInSteps wsX1_circulateInSteps) := goodIn_app (goodIn_of _ (by decide +kernel)) ggX2_killShoePressure_X1_circulateInSteps
set_option maxRecDepth 20000 in
theorem ggX2_killShoePressure_X1_pipeVolume : GoodIn wsX2_killShoePressure wsX1_pipeVolume := goodIn_r _ [22, 23, 24, 163, 164, 165, 166, 167, 168, 169, 170, 171, 172, 173, 174, 175] rfl (by decide +kernel)
set_option maxRecDepth 20000 in
theorem gX2_killShoePressure_X1_pipeVolume : GoodIn wsX2_killShoePressure (wsV RX2 57 RX1 yX1_pipeVolume wsX1_pipeVolume) := goodIn_app (goodIn_of _ (by decide +kernel)) ggX2_killShoePressure_X1_pipeVolume
set_option maxRecDepth 20000 in
theorem ggX2_schedule_X2_within : GoodIn wsX2_schedule wsX2_within := goodIn_r _ [12] rfl (by decide +kernel)
set_option maxRecDepth 20000 in
theorem gX2_schedule_X2_within : GoodIn wsX2_schedule (va_wsS RX2 31 yX2_within wsX2_within) := goodIn_app (goodIn_of _ (by decide +kernel)) ggX2_schedule_X2_within
set_option maxRecDepth 20000 in
theorem ggX2_schedule_X2_refuse : GoodIn wsX2_schedule wsX2_refuse := goodIn_r _ [16, 17, 9, 10, 11, 12, 61, 62, 63, 64, 65] rfl (by decide +kernel)
set_option maxRecDepth 20000 in
theorem gX2_schedule_X2_refuse : GoodIn wsX2_schedule (wsV RX2 35 RX2 yX2_refuse wsX2_refuse) := goodIn_app (goodIn_of _ (by decide +kernel)) ggX2_schedule_X2_refuse
set_option maxRecDepth 20000 in
theorem ggX2_schedule_X1_densityToKill : GoodIn wsX2_schedule wsX1_densityToKill := goodIn_r _ [22, 23, 24, 25, 5, 6, 7, 26, 27, 28, 29, 30, 31, 66, 67, 68, 69, 70, 71, 72, 73, 74, 75, 76, 77, 78] rfl (by decide +kernel)
set_option maxRecDepth 20000 in
theorem gX2_schedule_X1_densityToKill : GoodIn wsX2_schedule (wsV RX2 110 RX1 yX1_densityToKill wsX1_densityToKill) := goodIn_app (goodIn_of _ (by decide +kernel)) ggX2_schedule_X1_densityToKill
set_option maxRecDepth 20000 in
theorem ggX2_schedule_X1_pressureAtStandpipe : GoodIn wsX2_schedule wsX1_pressureAtStandpipe := goodIn_r _ [35, 36, 37, 38, 39, 21, 40, 27, 25, 5, 6, 7, 41, 42, 43, 44, 45, 46, 47, 48, 49, 50, 51, 52, 53, 54, 55, 56, 57, 58, 59, 60, 23, 26, 66, 67, 68, 69, 70, 71, 72, 73, 74, 75, 76, 77, 78, 79, 80, 81, 82, 83, 84] rfl (by decide +kernel)
set_option maxRecDepth 20000 in
theorem gX2_schedule_X1_pressureAtStandpipe : GoodIn wsX2_schedule (wsV RX2 104 RX1 yX1_pressureAtStandpipe wsX1_pressureAtStandpipe) := goodIn_app (goodIn_of _ (by decide +kernel)) ggX2_schedule_X1_pressureAtStandpipe
set_option maxRecDepth 20000 in
theorem ggX2_strokesToBit_X2_within : GoodIn wsX2_strokesToBit wsX2_within := goodIn_r _ [5] rfl (by decide +kernel)
set_option maxRecDepth 20000 in
theorem gX2_strokesToBit_X2_within : GoodIn wsX2_strokesToBit (va_wsS RX2 31 yX2_within wsX2_within) := goodIn_app (goodIn_of _ (by decide +kernel)) ggX2_strokesToBit_X2_within
set_option maxRecDepth 20000 in
theorem ggX2_strokesToBit_X2_refuse : GoodIn wsX2_strokesToBit wsX2_refuse := goodIn_r _ [9, 10, 2, 3, 4, 5, 25, 26, 27, 28, 29] rfl (by decide +kernel)
set_option maxRecDepth 20000 in
theorem gX2_strokesToBit_X2_refuse : GoodIn wsX2_strokesToBit (wsV RX2 35 RX2 yX2_refuse wsX2_refuse) := goodIn_app (goodIn_of _ (by decide +kernel)) ggX2_strokesToBit_X2_refuse
set_option maxRecDepth 20000 in
theorem ggX2_strokesToBit_X1_pipeVolume : GoodIn wsX2_strokesToBit wsX1_pipeVolume := goodIn_r _ [15, 16, 17, 30, 31, 32, 33, 34, 35, 36, 37, 38, 39, 40, 41, 42] rfl (by decide +kernel)
set_option maxRecDepth 20000 in
theorem gX2_strokesToBit_X1_pipeVolume : GoodIn wsX2_strokesToBit (wsV RX2 57 RX1 yX1_pipeVolume wsX1_pipeVolume) := goodIn_app (goodIn_of _ (by decide +kernel)) ggX2_strokesToBit_X1_pipeVolume
set_option maxRecDepth 20000 in
theorem ggX2_strokesToBit_X2_portionsFor : GoodIn wsX2_strokesToBit wsX2_portionsFor := goodIn_r _ [20, 21, 22, 23, 24] rfl (by decide +kernel)
set_option maxRecDepth 20000 in
theorem gX2_strokesToBit_X2_portionsFor : GoodIn wsX2_strokesToBit (va_wsS RX2 131 yX2_portionsFor wsX2_portionsFor) := goodIn_app (goodIn_of _ (by decide +kernel)) ggX2_strokesToBit_X2_portionsFor
set_option maxRecDepth 20000 in
theorem ggX2_layers_X2_within : GoodIn wsX2_layers wsX2_within := goodIn_r _ [6] rfl (by decide +kernel)
set_option maxRecDepth 20000 in
theorem gX2_layers_X2_within : GoodIn wsX2_layers (va_wsS RX2 31 yX2_within wsX2_within) := goodIn_app (goodIn_of _ (by decide +kernel)) ggX2_layers_X2_within
set_option maxRecDepth 20000 in
theorem ggX2_layers_X2_refuse : GoodIn wsX2_layers wsX2_refuse := goodIn_r _ [10, 11, 3, 4, 5, 6, 19, 20, 21, 22, 23] rfl (by decide +kernel)
set_option maxRecDepth 20000 in
theorem gX2_layers_X2_refuse : GoodIn wsX2_layers (wsV RX2 35 RX2 yX2_refuse wsX2_refuse) := goodIn_app (goodIn_of _ (by decide +kernel)) ggX2_layers_X2_refuse
set_option maxRecDepth 20000 in
theorem ggX2_layers_X1_column : GoodIn wsX2_layers wsX1_column := goodIn_r _ [16, 17, 18, 30, 31, 32, 33, 34, 35, 36, 37, 38, 39, 40, 41, 42] rfl (by decide +kernel)
set_option maxRecDepth 20000 in
theorem gX2_layers_X1_column : GoodIn wsX2_layers (wsV RX2 134 RX1 yX1_column wsX1_column) := goodIn_app (goodIn_of _ (by decide +kernel)) ggX2_layers_X1_column
set_option maxRecDepth 20000 in
theorem ggX2_layerVolume_X2_layerError : GoodIn wsX2_layerVolume wsX2_layerError := goodIn_r _ [6, 1, 7, 8, 9, 5, 10, 11, 12, 13, 14, 15, 16, 17, 40, 41, 42, 43, 44, 45, 46, 47, 48, 49, 50, 51, 52, 53, 54, 55, 56, 57, 58, 59, 60, 61, 62, 63] rfl (by decide +kernel)
set_option maxRecDepth 20000 in
theorem gX2_layerVolume_X2_layerError : GoodIn wsX2_layerVolume (wsV RX2 143 RX2 yX2_layerError wsX2_layerError) := goodIn_app (goodIn_of _ (by decide +kernel)) ggX2_layerVolume_X2_layerError
set_option maxRecDepth 20000 in
theorem ggX2_layerVolume_X2_refuse : GoodIn wsX2_layerVolume wsX2_refuse := goodIn_r _ [21, 22, 8, 9, 5, 10, 40, 41, 42, 43, 44] rfl (by decide +kernel)
set_option maxRecDepth 20000 in
theorem gX2_layerVolume_X2_refuse : GoodIn wsX2_layerVolume (wsV RX2 35 RX2 yX2_refuse wsX2_refuse) := goodIn_app (goodIn_of _ (by decide +kernel)) ggX2_layerVolume_X2_refuse
set_option maxRecDepth 20000 in
theorem ggX2_layerVolume_X1_column : GoodIn wsX2_layerVolume wsX1_column := goodIn_r _ [15, 16, 17, 51, 52, 53, 54, 55, 56, 57, 58, 59, 60, 61, 62, 63] rfl (by decide +kernel)
set_option maxRecDepth 20000 in
theorem gX2_layerVolume_X1_column : GoodIn wsX2_layerVolume (wsV RX2 134 RX1 yX1_column wsX1_column) := goodIn_app (goodIn_of _ (by decide +kernel)) ggX2_layerVolume_X1_column
set_option maxRecDepth 20000 in
theorem ggX2_layerVolume_X0_volumeOf : GoodIn wsX2_layerVolume wsX0_volumeOf := goodIn_r _ [27, 28, 29, 30, 31, 26, 32, 33, 34, 35, 36, 37, 38, 39, 45, 46, 47, 48, 49, 50] rfl (by decide +kernel)
set_option maxRecDepth 20000 in
theorem gX2_layerVolume_X0_volumeOf : GoodIn wsX2_layerVolume (wsV RX2 146 RX0 yX0_volumeOf wsX0_volumeOf) := goodIn_app (goodIn_of _ (by decide +kernel)) ggX2_layerVolume_X0_volumeOf
set_option maxRecDepth 20000 in
theorem ggX2_layerDensity_X2_layerError : GoodIn wsX2_layerDensity wsX2_layerError := goodIn_r _ [6, 1, 7, 8, 9, 5, 10, 11, 12, 13, 14, 15, 16, 17, 40, 41, 42, 43, 44, 45, 46, 47, 48, 49, 50, 51, 52, 53, 54, 55, 56, 57, 58, 59, 60, 61, 62, 63] rfl (by decide +kernel)
set_option maxRecDepth 20000 in
theorem gX2_layerDensity_X2_layerError : GoodIn wsX2_layerDensity (wsV RX2 143 RX2 yX2_layerError wsX2_layerError) := goodIn_app (goodIn_of _ (by decide +kernel)) ggX2_layerDensity_X2_layerError
set_option maxRecDepth 20000 in
theorem ggX2_layerDensity_X2_refuse : GoodIn wsX2_layerDensity wsX2_refuse := goodIn_r _ [21, 22, 8, 9, 5, 10, 40, 41, 42, 43, 44] rfl (by decide +kernel)
set_option maxRecDepth 20000 in
theorem gX2_layerDensity_X2_refuse : GoodIn wsX2_layerDensity (wsV RX2 35 RX2 yX2_refuse wsX2_refuse) := goodIn_app (goodIn_of _ (by decide +kernel)) ggX2_layerDensity_X2_refuse
set_option maxRecDepth 20000 in
theorem ggX2_layerDensity_X1_column : GoodIn wsX2_layerDensity wsX1_column := goodIn_r _ [15, 16, 17, 51, 52, 53, 54, 55, 56, 57, 58, 59, 60, 61, 62, 63] rfl (by decide +kernel)
set_option maxRecDepth 20000 in
theorem gX2_layerDensity_X1_column : GoodIn wsX2_layerDensity (wsV RX2 134 RX1 yX1_column wsX1_column) := goodIn_app (goodIn_of _ (by decide +kernel)) ggX2_layerDensity_X1_column
set_option maxRecDepth 20000 in
theorem ggX2_layerDensity_X0_densityOf : GoodIn wsX2_layerDensity wsX0_densityOf := goodIn_r _ [27, 28, 29, 30, 31, 26, 32, 33, 34, 35, 36, 37, 38, 39, 45, 46, 47, 48, 49, 50] rfl (by decide +kernel)
set_option maxRecDepth 20000 in
theorem gX2_layerDensity_X0_densityOf : GoodIn wsX2_layerDensity (wsV RX2 149 RX0 yX0_densityOf wsX0_densityOf) := goodIn_app (goodIn_of _ (by decide +kernel)) ggX2_layerDensity_X0_densityOf
set_option maxRecDepth 20000 in
theorem ggX2_undo_X2_refuse : GoodIn wsX2_undo wsX2_refuse := goodIn_r _ [8, 9, 10, 11, 7, 12, 13, 14, 15, 16, 17] rfl (by decide +kernel)
set_option maxRecDepth 20000 in
theorem gX2_undo_X2_refuse : GoodIn wsX2_undo (wsV RX2 35 RX2 yX2_refuse wsX2_refuse) := goodIn_app (goodIn_of _ (by decide +kernel)) ggX2_undo_X2_refuse
set_option maxRecDepth 20000 in
theorem ggX2_errorCount_X2_within : GoodIn wsX2_errorCount wsX2_within := goodIn_r _ [5] rfl (by decide +kernel)
set_option maxRecDepth 20000 in
theorem gX2_errorCount_X2_within : GoodIn wsX2_errorCount (va_wsS RX2 31 yX2_within wsX2_within) := goodIn_app (goodIn_of _ (by decide +kernel)) ggX2_errorCount_X2_within
set_option maxRecDepth 20000 in
theorem ggX2_errorCount_X2_refuse : GoodIn wsX2_errorCount wsX2_refuse := goodIn_r _ [9, 1, 2, 3, 4, 5, 10, 11, 12, 13, 14] rfl (by decide +kernel)
set_option maxRecDepth 20000 in
theorem gX2_errorCount_X2_refuse : GoodIn wsX2_errorCount (wsV RX2 35 RX2 yX2_refuse wsX2_refuse) := goodIn_app (goodIn_of _ (by decide +kernel)) ggX2_errorCount_X2_refuse
set_option maxRecDepth 20000 in
theorem ggX2_digest_X2_mixed : GoodIn wsX2_digest wsX2_mixed := goodIn_r _ [10, 11] rfl (by decide +kernel)
set_option maxRecDepth 20000 in
theorem gX2_digest_X2_mixed : GoodIn wsX2_digest (va_wsS RX2 160 yX2_mixed wsX2_mixed) := goodIn_app (goodIn_of _ (by decide +kernel)) ggX2_digest_X2_mixed
set_option maxRecDepth 20000 in
theorem ggX2_digest_X1_mixedSettings : GoodIn wsX2_digest wsX1_mixedSettings := goodIn_r _ [16, 17, 18, 19, 20, 21, 22, 23, 24, 8, 9, 10, 11, 106, 107, 108, 109, 110, 111, 112, 113, 114, 115, 116, 117, 118] rfl (by decide +kernel)
set_option maxRecDepth 20000 in
theorem gX2_digest_X1_mixedSettings : GoodIn wsX2_digest (wsV RX2 164 RX1 yX1_mixedSettings wsX1_mixedSettings) := goodIn_app (goodIn_of _ (by decide +kernel)) ggX2_digest_X1_mixedSettings
set_option maxRecDepth 20000 in
theorem ggX2_digest_X0_mixedLayers : GoodIn wsX2_digest wsX0_mixedLayers := goodIn_r _ [29, 30, 31, 32, 8, 9, 10, 11, 33, 34, 35, 28, 36, 37, 38, 39, 40, 41, 42, 119, 120, 121, 122, 123, 124] rfl (by decide +kernel)
set_option maxRecDepth 20000 in
theorem gX2_digest_X0_mixedLayers : GoodIn wsX2_digest (wsV RX2 172 RX0 yX0_mixedLayers wsX0_mixedLayers) := goodIn_app (goodIn_of _ (by decide +kernel)) ggX2_digest_X0_mixedLayers
set_option maxRecDepth 20000 in
theorem ggX2_digest_X1_mixedReadings : GoodIn wsX2_digest wsX1_mixedReadings := goodIn_r _ [46, 47, 48, 49, 50, 51, 52, 15, 53, 22, 54, 55, 56, 57, 58, 59, 60, 61, 62, 63, 64, 65, 66, 67, 68, 69, 70, 71, 72, 18, 19, 73, 74, 75, 76, 77, 8, 9, 10, 11, 78, 79, 80, 81, 82, 83, 84, 85, 23, 86, 87, 88, 89, 20, 90, 91, 92, 93, 94, 95, 96, 28, 97, 30, 31, 98, 99, 100, 32, 33, 34, 35, 36, 37, 38, 39, 40, 41, 42, 106, 107, 108, 109, 110, 111, 112, 113, 114, 115, 116, 117, 118, 119, 120, 121, 122, 123, 124] rfl (by decide +kernel)
set_option maxRecDepth 20000 in
theorem gX2_digest_X1_mixedReadings : GoodIn wsX2_digest (wsV RX2 178 RX1 yX1_mixedReadings wsX1_mixedReadings) := goodIn_app (goodIn_of _ (by decide +kernel)) ggX2_digest_X1_mixedReadings
set_option maxRecDepth 20000 in
theorem ggX2_layerError_X2_within : GoodIn wsX2_layerError wsX2_within := goodIn_r _ [6] rfl (by decide +kernel)
set_option maxRecDepth 20000 in
theorem gX2_layerError_X2_within : GoodIn wsX2_layerError (va_wsS RX2 31 yX2_within wsX2_within) := goodIn_app (goodIn_of _ (by decide +kernel)) ggX2_layerError_X2_within
set_option maxRecDepth 20000 in
theorem ggX2_layerError_X1_column : GoodIn wsX2_layerError wsX1_column := goodIn_r _ [11, 12, 13, 25, 26, 27, 28, 29, 30, 31, 32, 33, 34, 35, 36, 37] rfl (by decide +kernel)
set_option maxRecDepth 20000 in
theorem gX2_layerError_X1_column : GoodIn wsX2_layerError (wsV RX2 134 RX1 yX1_column wsX1_column) := goodIn_app (goodIn_of _ (by decide +kernel)) ggX2_layerError_X1_column
set_option maxRecDepth 20000 in
theorem ggX2_refuse_X2_within : GoodIn wsX2_refuse wsX2_within := goodIn_r _ [5] rfl (by decide +kernel)
set_option maxRecDepth 20000 in
theorem gX2_refuse_X2_within : GoodIn wsX2_refuse (va_wsS RX2 31 yX2_within wsX2_within) := goodIn_app (goodIn_of _ (by decide +kernel)) ggX2_refuse_X2_within
set_option maxRecDepth 20000 in
theorem ggX2_save_X2_dropOldestSaved : GoodIn wsX2_save wsX2_dropOldestSaved := goodIn_r _ [8, 2, 1, 57, 58, 59, 60, 61] rfl (by decide +kernel)
set_option maxRecDepth 20000 in
theorem gX2_save_X2_dropOldestSaved : GoodIn wsX2_save (wsV RX2 183 RX2 yX2_dropOldestSaved wsX2_dropOldestSaved) := goodIn_app (goodIn_of _ (by decide +kernel)) ggX2_save_X2_dropOldestSaved
set_option maxRecDepth 20000 in
theorem ggX2_save_X1_copyFrom : GoodIn wsX2_save wsX1_copyFrom := goodIn_r _ [13, 14, 15, 16, 17, 18, 19, 20, 21, 22, 23, 24, 25, 26, 27, 28, 29, 30, 31, 32, 33, 34, 35, 36, 37, 38, 39, 40, 41, 42, 43, 44, 45, 46, 47, 48, 49, 50, 51, 52, 53, 54, 55, 56, 62, 63, 64, 65, 66, 67, 68, 69, 70, 71, 72, 73, 74, 75, 76, 77, 78, 79, 80] rfl (by decide +kernel)
set_option maxRecDepth 20000 in
theorem gX2_save_X1_copyFrom : GoodIn wsX2_save (wsV RX2 113 RX1 yX1_copyFrom wsX1_copyFrom) := goodIn_app (goodIn_of _ (by decide +kernel)) ggX2_save_X1_copyFrom
set_option maxRecDepth 20000 in
theorem ggX3_init_X3_fill : GoodIn wsX3_init wsX3_fill := goodIn_r _ [13, 5, 14, 15, 12, 16, 17, 18, 19, 20, 21, 22, 23, 24, 25, 26, 27, 28, 29] rfl (by decide +kernel)
set_option maxRecDepth 20000 in
theorem gX3_init_X3_fill : GoodIn wsX3_init (wsV RX3 22 RX3 yX3_fill wsX3_fill) := goodIn_app (goodIn_of _ (by decide +kernel)) ggX3_init_X3_fill
set_option maxRecDepth 20000 in
theorem ggX3_save_X3_copy : GoodIn wsX3_save wsX3_copy := goodIn_r _ [7] rfl (by decide +kernel)
set_option maxRecDepth 20000 in
theorem gX3_save_X3_copy : GoodIn wsX3_save (va_wsS RX3 29 yX3_copy wsX3_copy) := goodIn_app (goodIn_of _ (by decide +kernel)) ggX3_save_X3_copy
set_option maxRecDepth 20000 in
theorem ggX3_densityAt_X3_volumeAt : GoodIn wsX3_densityAt wsX3_volumeAt := goodIn_r _ [4] rfl (by decide +kernel)
set_option maxRecDepth 20000 in
theorem gX3_densityAt_X3_volumeAt : GoodIn wsX3_densityAt (va_wsS RX3 33 yX3_volumeAt wsX3_volumeAt) := goodIn_app (goodIn_of _ (by decide +kernel)) ggX3_densityAt_X3_volumeAt
set_option maxRecDepth 20000 in
theorem ggX3_fill_X3_volumeAt : GoodIn wsX3_fill wsX3_volumeAt := goodIn_r _ [5] rfl (by decide +kernel)
set_option maxRecDepth 20000 in
theorem gX3_fill_X3_volumeAt : GoodIn wsX3_fill (va_wsS RX3 33 yX3_volumeAt wsX3_volumeAt) := goodIn_app (goodIn_of _ (by decide +kernel)) ggX3_fill_X3_volumeAt
set_option maxRecDepth 20000 in
theorem ggX3_fill_X3_volumeOf : GoodIn wsX3_fill wsX3_volumeOf := goodIn_r _ [9, 1, 13, 14, 15, 16, 17, 18] rfl (by decide +kernel)
set_option maxRecDepth 20000 in
theorem gX3_fill_X3_volumeOf : GoodIn wsX3_fill (wsV RX3 37 RX3 yX3_volumeOf wsX3_volumeOf) := goodIn_app (goodIn_of _ (by decide +kernel)) ggX3_fill_X3_volumeOf
set_option maxRecDepth 20000 in
theorem ggX3_fill_X3_densityAt : GoodIn wsX3_fill wsX3_densityAt := goodIn_r _ [12, 2, 3, 4, 5] rfl (by decide +kernel)
set_option maxRecDepth 20000 in
theorem gX3_fill_X3_densityAt : GoodIn wsX3_fill (va_wsS RX3 41 yX3_densityAt wsX3_densityAt) := goodIn_app (goodIn_of _ (by decide +kernel)) ggX3_fill_X3_densityAt
set_option maxRecDepth 20000 in
theorem ggX3_putOnTop_X3_densityAt : GoodIn wsX3_putOnTop wsX3_densityAt := goodIn_r _ [5, 6, 7, 4, 8] rfl (by decide +kernel)
set_option maxRecDepth 20000 in
theorem gX3_putOnTop_X3_densityAt : GoodIn wsX3_putOnTop (va_wsS RX3 41 yX3_densityAt wsX3_densityAt) := goodIn_app (goodIn_of _ (by decide +kernel)) ggX3_putOnTop_X3_densityAt
set_option maxRecDepth 20000 in
theorem ggX3_putOnTop_X3_volumeAt : GoodIn wsX3_putOnTop wsX3_volumeAt := goodIn_r _ [8] rfl (by decide +kernel)
set_option maxRecDepth 20000 in
theorem gX3_putOnTop_X3_volumeAt : GoodIn wsX3_putOnTop (va_wsS RX3 33 yX3_volumeAt wsX3_volumeAt) := goodIn_app (goodIn_of _ (by decide +kernel)) ggX3_putOnTop_X3_volumeAt
set_option maxRecDepth 20000 in
theorem ggX3_enter_X3_densityAt : GoodIn wsX3_enter wsX3_densityAt := goodIn_r _ [5, 6, 7, 4, 8] rfl (by decide +kernel)
set_option maxRecDepth 20000 in
theorem gX3_enter_X3_densityAt : GoodIn wsX3_enter (va_wsS RX3 41 yX3_densityAt wsX3_densityAt) := goodIn_app (goodIn_of _ (by decide +kernel)) ggX3_enter_X3_densityAt
set_option maxRecDepth 20000 in
theorem ggX3_enter_X3_volumeAt : GoodIn wsX3_enter wsX3_volumeAt := goodIn_r _ [8] rfl (by decide +kernel)
set_option maxRecDepth 20000 in
theorem gX3_enter_X3_volumeAt : GoodIn wsX3_enter (va_wsS RX3 33 yX3_volumeAt wsX3_volumeAt) := goodIn_app (goodIn_of _ (by decide +kernel)) ggX3_enter_X3_volumeAt
set_option maxRecDepth 20000 in
theorem ggX3_passOver_X3_volumeAt : GoodIn wsX3_passOver wsX3_volumeAt := goodIn_r _ [5] rfl (by decide +kernel)
set_option maxRecDepth 20000 in
theorem gX3_passOver_X3_volumeAt : GoodIn wsX3_passOver (va_wsS RX3 33 yX3_volumeAt wsX3_volumeAt) := goodIn_app (goodIn_of _ (by decide +kernel)) ggX3_passOver_X3_volumeAt
set_option maxRecDepth 20000 in
theorem ggX3_passOver_X3_densityAt : GoodIn wsX3_passOver wsX3_densityAt := goodIn_r _ [8, 2, 3, 4, 5] rfl (by decide +kernel)
set_option maxRecDepth 20000 in
theorem gX3_passOver_X3_densityAt : GoodIn wsX3_passOver (va_wsS RX3 41 yX3_densityAt wsX3_densityAt) := goodIn_app (goodIn_of _ (by decide +kernel)) ggX3_passOver_X3_densityAt
set_option maxRecDepth 20000 in
theorem ggX3_passOver_X3_enter : GoodIn wsX3_passOver wsX3_enter := goodIn_r _ [12, 1, 6, 7, 4, 8, 2, 3, 5, 13, 14, 15, 16, 17, 18] rfl (by decide +kernel)
set_option maxRecDepth 20000 in
theorem gX3_passOver_X3_enter : GoodIn wsX3_passOver (wsV RX3 44 RX3 yX3_enter wsX3_enter) := goodIn_app (goodIn_of _ (by decide +kernel)) ggX3_passOver_X3_enter
set_option maxRecDepth 20000 in
theorem ggX3_leave_X3_volumeAt : GoodIn wsX3_leave wsX3_volumeAt := goodIn_r _ [5] rfl (by decide +kernel)
set_option maxRecDepth 20000 in
theorem gX3_leave_X3_volumeAt : GoodIn wsX3_leave (va_wsS RX3 33 yX3_volumeAt wsX3_volumeAt) := goodIn_app (goodIn_of _ (by decide +kernel)) ggX3_leave_X3_volumeAt
set_option maxRecDepth 20000 in
theorem ggX3_leave_X3_densityAt : GoodIn wsX3_leave wsX3_densityAt := goodIn_r _ [8, 2, 3, 4, 5] rfl (by decide +kernel)
set_option maxRecDepth 20000 in
theorem gX3_leave_X3_densityAt : GoodIn wsX3_leave (va_wsS RX3 41 yX3_densityAt wsX3_densityAt) := goodIn_app (goodIn_of _ (by decide +kernel)) ggX3_leave_X3_densityAt
set_option maxRecDepth 20000 in
theorem ggX3_pumpMud_X3_putOnTop : GoodIn wsX3_pumpMud wsX3_putOnTop := goodIn_r _ [5, 6, 7, 8, 4, 9, 10, 11, 12, 25, 26, 27, 28, 29, 30] rfl (by decide +kernel)
set_option maxRecDepth 20000 in
theorem gX3_pumpMud_X3_putOnTop : GoodIn wsX3_pumpMud (wsV RX3 48 RX3 yX3_putOnTop wsX3_putOnTop) := goodIn_app (goodIn_of _ (by decide +kernel)) ggX3_pumpMud_X3_putOnTop
set_option maxRecDepth 20000 in
theorem ggX3_pumpMud_X3_passOver : GoodIn wsX3_pumpMud wsX3_passOver := goodIn_r _ [16, 6, 10, 11, 4, 12, 7, 8, 9, 17, 18, 19, 20, 25, 26, 27, 28, 29, 30] rfl (by decide +kernel)
set_option maxRecDepth 20000 in
theorem gX3_pumpMud_X3_passOver : GoodIn wsX3_pumpMud (wsV RX3 51 RX3 yX3_passOver wsX3_passOver) := goodIn_app (goodIn_of _ (by decide +kernel)) ggX3_pumpMud_X3_passOver
set_option maxRecDepth 20000 in
theorem ggX3_pumpMud_X3_leave : GoodIn wsX3_pumpMud wsX3_leave := goodIn_r _ [24, 6, 10, 11, 4, 12, 7, 8, 9, 25, 26, 27, 28, 29, 30] rfl (by decide +kernel)
set_option maxRecDepth 20000 in
theorem gX3_pumpMud_X3_leave : GoodIn wsX3_pumpMud (wsV RX3 55 RX3 yX3_leave wsX3_leave) := goodIn_app (goodIn_of _ (by decide +kernel)) ggX3_pumpMud_X3_leave
set_option maxRecDepth 20000 in
theorem ggX3_pressureOf_X3_volumeAt : GoodIn wsX3_pressureOf wsX3_volumeAt := goodIn_r _ [7] rfl (by decide +kernel)
set_option maxRecDepth 20000 in
theorem gX3_pressureOf_X3_volumeAt : GoodIn wsX3_pressureOf (va_wsS RX3 33 yX3_volumeAt wsX3_volumeAt) := goodIn_app (goodIn_of _ (by decide +kernel)) ggX3_pressureOf_X3_volumeAt
set_option maxRecDepth 20000 in
theorem ggX3_pressureOf_X3_densityAt : GoodIn wsX3_pressureOf wsX3_densityAt := goodIn_r _ [10, 4, 5, 6, 7] rfl (by decide +kernel)
set_option maxRecDepth 20000 in
theorem gX3_pressureOf_X3_densityAt : GoodIn wsX3_pressureOf (va_wsS RX3 41 yX3_densityAt wsX3_densityAt) := goodIn_app (goodIn_of _ (by decide +kernel)) ggX3_pressureOf_X3_densityAt
set_option maxRecDepth 20000 in
theorem ggX3_lacking_X3_pressureOf : GoodIn wsX3_lacking wsX3_pressureOf := goodIn_r _ [6, 1, 7, 8, 9, 10, 5, 11, 12, 13, 14, 15, 16, 17, 18, 19, 20] rfl (by decide +kernel)
set_option maxRecDepth 20000 in
theorem gX3_lacking_X3_pressureOf : GoodIn wsX3_lacking (wsV RX3 62 RX3 yX3_pressureOf wsX3_pressureOf) := goodIn_app (goodIn_of _ (by decide +kernel)) ggX3_lacking_X3_pressureOf
set_option maxRecDepth 20000 in
theorem ggX3_atShoe_X3_lacking : GoodIn wsX3_atShoe wsX3_lacking := goodIn_r _ [6, 1, 7, 8, 9, 5, 10, 11, 12, 13, 14, 15, 16, 17, 18, 19, 20, 21, 22, 23, 24] rfl (by decide +kernel)
set_option maxRecDepth 20000 in
theorem gX3_atShoe_X3_lacking : GoodIn wsX3_atShoe (wsV RX3 65 RX3 yX3_lacking wsX3_lacking) := goodIn_app (goodIn_of _ (by decide +kernel)) ggX3_atShoe_X3_lacking
set_option maxRecDepth 20000 in
theorem ggX3_atShoe_X3_pressureOf : GoodIn wsX3_atShoe wsX3_pressureOf := goodIn_r _ [10, 1, 11, 12, 13, 14, 5, 15, 16, 17, 18, 19, 20, 21, 22, 23, 24] rfl (by decide +kernel)
set_option maxRecDepth 20000 in
theorem gX3_atShoe_X3_pressureOf : GoodIn wsX3_atShoe (wsV RX3 62 RX3 yX3_pressureOf wsX3_pressureOf) := goodIn_app (goodIn_of _ (by decide +kernel)) ggX3_atShoe_X3_pressureOf
set_option maxRecDepth 20000 in
theorem ggX3_check_X3_atShoe : GoodIn wsX3_check wsX3_atShoe := goodIn_r _ [6, 1, 7, 8, 9, 5, 10, 11, 12, 13, 14, 15, 16, 17, 18, 19, 20, 21, 22, 23, 24, 25, 26, 27, 28] rfl (by decide +kernel)
set_option maxRecDepth 20000 in
theorem gX3_check_X3_atShoe : GoodIn wsX3_check (wsV RX3 68 RX3 yX3_atShoe wsX3_atShoe) := goodIn_app (goodIn_of _ (by decide +kernel)) ggX3_check_X3_atShoe
set_option maxRecDepth 20000 in
theorem ggX3_setGeometry_X3_in : GoodIn wsX3_setGeometry wsX3_in := goodIn_r _ [5] rfl (by decide +kernel)
set_option maxRecDepth 20000 in
theorem gX3_setGeometry_X3_in : GoodIn wsX3_setGeometry (va_wsS RX3 72 yX3_in wsX3_in) := goodIn_app (goodIn_of _ (by decide +kernel)) ggX3_setGeometry_X3_in
set_option maxRecDepth 20000 in
theorem ggX3_setGeometry_X3_error : GoodIn wsX3_setGeometry wsX3_error := goodIn_r _ [9, 10, 34, 35, 36, 37, 38, 39] rfl (by decide +kernel)
set_option maxRecDepth 20000 in
theorem gX3_setGeometry_X3_error : GoodIn wsX3_setGeometry (wsV RX3 76 RX3 yX3_error wsX3_error) := goodIn_app (goodIn_of _ (by decide +kernel)) ggX3_setGeometry_X3_error
set_option maxRecDepth 20000 in
theorem ggX3_setGeometry_X3_save : GoodIn wsX3_setGeometry wsX3_save := goodIn_r _ [14, 15, 16, 1, 17, 18, 4, 19, 34, 35, 36, 37, 38, 39] rfl (by decide +kernel)
set_option maxRecDepth 20000 in
theorem gX3_setGeometry_X3_save : GoodIn wsX3_setGeometry (wsV RX3 79 RX3 yX3_save wsX3_save) := goodIn_app (goodIn_of _ (by decide +kernel)) ggX3_setGeometry_X3_save
set_option maxRecDepth 20000 in
theorem ggX3_setGeometry_X3_fill : GoodIn wsX3_setGeometry wsX3_fill := goodIn_r _ [23, 1, 24, 25, 4, 26, 27, 28, 29, 30, 31, 32, 33, 34, 35, 36, 37, 38, 39] rfl (by decide +kernel)
set_option maxRecDepth 20000 in
theorem gX3_setGeometry_X3_fill : GoodIn wsX3_setGeometry (wsV RX3 22 RX3 yX3_fill wsX3_fill) := goodIn_app (goodIn_of _ (by decide +kernel)) ggX3_setGeometry_X3_fill
set_option maxRecDepth 20000 in
theorem ggX3_setGeometry_X3_volumeOf : GoodIn wsX3_setGeometry wsX3_volumeOf := goodIn_r _ [30, 1, 34, 35, 36, 37, 38, 39] rfl (by decide +kernel)
set_option maxRecDepth 20000 in
theorem gX3_setGeometry_X3_volumeOf : GoodIn wsX3_setGeometry (wsV RX3 37 RX3 yX3_volumeOf wsX3_volumeOf) := goodIn_app (goodIn_of _ (by decide +kernel)) ggX3_setGeometry_X3_volumeOf
set_option maxRecDepth 20000 in
theorem ggX3_set_X3_in : GoodIn wsX3_set wsX3_in := goodIn_r _ [5] rfl (by decide +kernel)
set_option maxRecDepth 20000 in
theorem gX3_set_X3_in : GoodIn wsX3_set (va_wsS RX3 72 yX3_in wsX3_in) := goodIn_app (goodIn_of _ (by decide +kernel)) ggX3_set_X3_in
set_option maxRecDepth 20000 in
theorem ggX3_set_X3_error : GoodIn wsX3_set wsX3_error := goodIn_r _ [9, 10, 20, 21, 22, 23, 24, 25] rfl (by decide +kernel)
set_option maxRecDepth 20000 in
theorem gX3_set_X3_error : GoodIn wsX3_set (wsV RX3 76 RX3 yX3_error wsX3_error) := goodIn_app (goodIn_of _ (by decide +kernel)) ggX3_set_X3_error
set_option maxRecDepth 20000 in
theorem ggX3_set_X3_save : GoodIn wsX3_set wsX3_save := goodIn_r _ [14, 15, 16, 1, 17, 18, 4, 19, 20, 21, 22, 23, 24, 25] rfl (by decide +kernel)
set_option maxRecDepth 20000 in
theorem gX3_set_X3_save : GoodIn wsX3_set (wsV RX3 79 RX3 yX3_save wsX3_save) := goodIn_app (goodIn_of _ (by decide +kernel)) ggX3_set_X3_save
set_option maxRecDepth 20000 in
theorem ggX3_setMud_X3_set : GoodIn wsX3_setMud wsX3_set := goodIn_r _ [5, 6, 7, 8, 4, 9, 10, 11, 12, 13, 14, 15, 16, 17, 18, 19, 20, 21, 22, 23, 24, 25, 26, 27, 28, 29] rfl (by decide +kernel)
set_option maxRecDepth 20000 in
theorem gX3_setMud_X3_set : GoodIn wsX3_setMud (wsV RX3 82 RX3 yX3_set wsX3_set) := goodIn_app (goodIn_of _ (by decide +kernel)) ggX3_setMud_X3_set
set_option maxRecDepth 20000 in
theorem ggX3_setFormation_X3_set : GoodIn wsX3_setFormation wsX3_set := goodIn_r _ [6, 7, 8, 9, 5, 10, 11, 12, 13, 14, 15, 16, 17, 18, 19, 20, 21, 22, 23, 24, 25, 26, 27, 28, 29, 30] rfl (by decide +kernel)
set_option maxRecDepth 20000 in
theorem gX3_setFormation_X3_set : GoodIn wsX3_setFormation (wsV RX3 82 RX3 yX3_set wsX3_set) := goodIn_app (goodIn_of _ (by decide +kernel)) ggX3_setFormation_X3_set
set_option maxRecDepth 20000 in
theorem ggX3_setSlowPump_X3_set : GoodIn wsX3_setSlowPump wsX3_set := goodIn_r _ [5, 6, 7, 8, 4, 9, 10, 11, 12, 13, 14, 15, 16, 17, 18, 19, 20, 21, 22, 23, 24, 25, 26, 27, 28, 29] rfl (by decide +kernel)
set_option maxRecDepth 20000 in
theorem gX3_setSlowPump_X3_set : GoodIn wsX3_setSlowPump (wsV RX3 82 RX3 yX3_set wsX3_set) := goodIn_app (goodIn_of _ (by decide +kernel)) ggX3_setSlowPump_X3_set
set_option maxRecDepth 20000 in
theorem ggX3_setFracture_X3_set : GoodIn wsX3_setFracture wsX3_set := goodIn_r _ [6, 7, 8, 9, 5, 10, 11, 12, 13, 14, 15, 16, 17, 18, 19, 20, 21, 22, 23, 24, 25, 26, 27, 28, 29, 30] rfl (by decide +kernel)
set_option maxRecDepth 20000 in
theorem gX3_setFracture_X3_set : GoodIn wsX3_setFracture (wsV RX3 82 RX3 yX3_set wsX3_set) := goodIn_app (goodIn_of _ (by decide +kernel)) ggX3_setFracture_X3_set
set_option maxRecDepth 20000 in
theorem ggX3_pump_X3_error : GoodIn wsX3_pump wsX3_error := goodIn_r _ [6, 7, 65, 66, 67, 68, 69, 70] rfl (by decide +kernel)
set_option maxRecDepth 20000 in
theorem gX3_pump_X3_error : GoodIn wsX3_pump (wsV RX3 76 RX3 yX3_error wsX3_error) := goodIn_app (goodIn_of _ (by decide +kernel)) ggX3_pump_X3_error
set_option maxRecDepth 20000 in
theorem ggX3_pump_X3_volumeOf : GoodIn wsX3_pump wsX3_volumeOf := goodIn_r _ [11, 1, 65, 66, 67, 68, 69, 70] rfl (by decide +kernel)
set_option maxRecDepth 20000 in
theorem gX3_pump_X3_volumeOf : GoodIn wsX3_pump (wsV RX3 37 RX3 yX3_volumeOf wsX3_volumeOf) := goodIn_app (goodIn_of _ (by decide +kernel)) ggX3_pump_X3_volumeOf
set_option maxRecDepth 20000 in
theorem ggX3_pump_X3_save : GoodIn wsX3_pump wsX3_save := goodIn_r _ [15, 16, 17, 1, 18, 19, 5, 20, 65, 66, 67, 68, 69, 70] rfl (by decide +kernel)
set_option maxRecDepth 20000 in
theorem gX3_pump_X3_save : GoodIn wsX3_pump (wsV RX3 79 RX3 yX3_save wsX3_save) := goodIn_app (goodIn_of _ (by decide +kernel)) ggX3_pump_X3_save
set_option maxRecDepth 20000 in
theorem ggX3_pump_X3_pumpMud : GoodIn wsX3_pump wsX3_pumpMud := goodIn_r _ [24, 25, 26, 27, 5, 28, 1, 29, 30, 31, 32, 33, 34, 35, 36, 37, 38, 39, 40, 41, 42, 43, 44, 45, 46, 65, 66, 67, 68, 69, 70] rfl (by decide +kernel)
set_option maxRecDepth 20000 in
theorem gX3_pump_X3_pumpMud : GoodIn wsX3_pump (wsV RX3 87 RX3 yX3_pumpMud wsX3_pumpMud) := goodIn_app (goodIn_of _ (by decide +kernel)) ggX3_pump_X3_pumpMud
set_option maxRecDepth 20000 in
theorem ggX3_pump_X3_check : GoodIn wsX3_pump wsX3_check := goodIn_r _ [50, 1, 51, 52, 53, 5, 54, 55, 56, 57, 58, 59, 60, 61, 62, 63, 64, 32, 33, 34, 29, 30, 31, 65, 66, 67, 68, 69, 70] rfl (by decide +kernel)
set_option maxRecDepth 20000 in
theorem gX3_pump_X3_check : GoodIn wsX3_pump (wsV RX3 90 RX3 yX3_check wsX3_check) := goodIn_app (goodIn_of _ (by decide +kernel)) ggX3_pump_X3_check
set_option maxRecDepth 20000 in
theorem ggX3_pump_X3_lacking : GoodIn wsX3_pump wsX3_lacking := goodIn_r _ [58, 1, 59, 60, 61, 5, 62, 63, 64, 32, 33, 34, 29, 30, 31, 65, 66, 67, 68, 69, 70] rfl (by decide +kernel)
set_option maxRecDepth 20000 in
theorem gX3_pump_X3_lacking : GoodIn wsX3_pump (wsV RX3 65 RX3 yX3_lacking wsX3_lacking) := goodIn_app (goodIn_of _ (by decide +kernel)) ggX3_pump_X3_lacking
set_option maxRecDepth 20000 in
theorem ggX3_influx_X3_in : GoodIn wsX3_influx wsX3_in := goodIn_r _ [5] rfl (by decide +kernel)
set_option maxRecDepth 20000 in
theorem gX3_influx_X3_in : GoodIn wsX3_influx (va_wsS RX3 72 yX3_in wsX3_in) := goodIn_app (goodIn_of _ (by decide +kernel)) ggX3_influx_X3_in
set_option maxRecDepth 20000 in
theorem ggX3_influx_X3_error : GoodIn wsX3_influx wsX3_error := goodIn_r _ [9, 10, 56, 57, 58, 59, 60, 61] rfl (by decide +kernel)
set_option maxRecDepth 20000 in
theorem gX3_influx_X3_error : GoodIn wsX3_influx (wsV RX3 76 RX3 yX3_error wsX3_error) := goodIn_app (goodIn_of _ (by decide +kernel)) ggX3_influx_X3_error
set_option maxRecDepth 20000 in
theorem ggX3_influx_X3_volumeOf : GoodIn wsX3_influx wsX3_volumeOf := goodIn_r _ [14, 1, 56, 57, 58, 59, 60, 61] rfl (by decide +kernel)
set_option maxRecDepth 20000 in
theorem gX3_influx_X3_volumeOf : GoodIn wsX3_influx (wsV RX3 37 RX3 yX3_volumeOf wsX3_volumeOf) := goodIn_app (goodIn_of _ (by decide +kernel)) ggX3_influx_X3_volumeOf
set_option maxRecDepth 20000 in
theorem ggX3_influx_X3_save : GoodIn wsX3_influx wsX3_save := goodIn_r _ [18, 19, 20, 1, 21, 22, 4, 23, 56, 57, 58, 59, 60, 61] rfl (by decide +kernel)
set_option maxRecDepth 20000 in
theorem gX3_influx_X3_save : GoodIn wsX3_influx (wsV RX3 79 RX3 yX3_save wsX3_save) := goodIn_app (goodIn_of _ (by decide +kernel)) ggX3_influx_X3_save
set_option maxRecDepth 20000 in
theorem ggX3_influx_X3_enter : GoodIn wsX3_influx wsX3_enter := goodIn_r _ [27, 1, 28, 29, 4, 30, 31, 32, 33, 56, 57, 58, 59, 60, 61] rfl (by decide +kernel)
set_option maxRecDepth 20000 in
theorem gX3_influx_X3_enter : GoodIn wsX3_influx (wsV RX3 44 RX3 yX3_enter wsX3_enter) := goodIn_app (goodIn_of _ (by decide +kernel)) ggX3_influx_X3_enter
set_option maxRecDepth 20000 in
theorem ggX3_influx_X3_leave : GoodIn wsX3_influx wsX3_leave := goodIn_r _ [37, 1, 31, 32, 4, 33, 28, 29, 30, 56, 57, 58, 59, 60, 61] rfl (by decide +kernel)
set_option maxRecDepth 20000 in
theorem gX3_influx_X3_leave : GoodIn wsX3_influx (wsV RX3 55 RX3 yX3_leave wsX3_leave) := goodIn_app (goodIn_of _ (by decide +kernel)) ggX3_influx_X3_leave
set_option maxRecDepth 20000 in
theorem ggX3_influx_X3_check : GoodIn wsX3_influx wsX3_check := goodIn_r _ [41, 1, 42, 43, 44, 4, 45, 46, 47, 48, 49, 50, 51, 52, 53, 54, 55, 31, 32, 33, 28, 29, 30, 56, 57, 58, 59, 60, 61] rfl (by decide +kernel)
set_option maxRecDepth 20000 in
theorem gX3_influx_X3_check : GoodIn wsX3_influx (wsV RX3 90 RX3 yX3_check wsX3_check) := goodIn_app (goodIn_of _ (by decide +kernel)) ggX3_influx_X3_check
set_option maxRecDepth 20000 in
theorem ggX3_influx_X3_lacking : GoodIn wsX3_influx wsX3_lacking := goodIn_r _ [49, 1, 50, 51, 52, 4, 53, 54, 55, 31, 32, 33, 28, 29, 30, 56, 57, 58, 59, 60, 61] rfl (by decide +kernel)
set_option maxRecDepth 20000 in
theorem gX3_influx_X3_lacking : GoodIn wsX3_influx (wsV RX3 65 RX3 yX3_lacking wsX3_lacking) := goodIn_app (goodIn_of _ (by decide +kernel)) ggX3_influx_X3_lacking
set_option maxRecDepth 20000 in
theorem ggX3_isColumn_X3_in : GoodIn wsX3_isColumn wsX3_in := goodIn_r _ [4] rfl (by decide +kernel)
set_option maxRecDepth 20000 in
theorem gX3_isColumn_X3_in : GoodIn wsX3_isColumn (va_wsS RX3 72 yX3_in wsX3_in) := goodIn_app (goodIn_of _ (by decide +kernel)) ggX3_isColumn_X3_in
set_option maxRecDepth 20000 in
theorem ggX3_hydrostatic_X3_isColumn : GoodIn wsX3_hydrostatic wsX3_isColumn := goodIn_r _ [5, 6, 7, 4, 8] rfl (by decide +kernel)
set_option maxRecDepth 20000 in
theorem gX3_hydrostatic_X3_isColumn : GoodIn wsX3_hydrostatic (va_wsS RX3 93 yX3_isColumn wsX3_isColumn) := goodIn_app (goodIn_of _ (by decide +kernel)) ggX3_hydrostatic_X3_isColumn
set_option maxRecDepth 20000 in
theorem ggX3_hydrostatic_X3_pressureOf : GoodIn wsX3_hydrostatic wsX3_pressureOf := goodIn_r _ [12, 1, 13, 14, 15, 16, 4, 17, 18, 19, 20, 26, 27, 28, 29, 30, 31] rfl (by decide +kernel)
set_option maxRecDepth 20000 in
theorem gX3_hydrostatic_X3_pressureOf : GoodIn wsX3_hydrostatic (wsV RX3 62 RX3 yX3_pressureOf wsX3_pressureOf) := goodIn_app (goodIn_of _ (by decide +kernel)) ggX3_hydrostatic_X3_pressureOf
set_option maxRecDepth 20000 in
theorem ggX3_hydrostatic_X3_error : GoodIn wsX3_hydrostatic wsX3_error := goodIn_r _ [24, 25, 26, 27, 28, 29, 30, 31] rfl (by decide +kernel)
set_option maxRecDepth 20000 in
theorem gX3_hydrostatic_X3_error : GoodIn wsX3_hydrostatic (wsV RX3 76 RX3 yX3_error wsX3_error) := goodIn_app (goodIn_of _ (by decide +kernel)) ggX3_hydrostatic_X3_error
set_option maxRecDepth 20000 in
theorem ggX3_hydrostaticAbove_X3_isColumn : GoodIn wsX3_hydrostaticAbove wsX3_isColumn := goodIn_r _ [5, 6, 7, 4, 8] rfl (by decide +kernel)
set_option maxRecDepth 20000 in
theorem gX3_hydrostaticAbove_X3_isColumn : GoodIn wsX3_hydrostaticAbove (va_wsS RX3 93 yX3_isColumn wsX3_isColumn) := goodIn_app (goodIn_of _ (by decide +kernel)) ggX3_hydrostaticAbove_X3_isColumn
set_option maxRecDepth 20000 in
theorem ggX3_hydrostaticAbove_X3_in : GoodIn wsX3_hydrostaticAbove wsX3_in := goodIn_r _ [8] rfl (by decide +kernel)
set_option maxRecDepth 20000 in
theorem gX3_hydrostaticAbove_X3_in : GoodIn wsX3_hydrostaticAbove (va_wsS RX3 72 yX3_in wsX3_in) := goodIn_app (goodIn_of _ (by decide +kernel)) ggX3_hydrostaticAbove_X3_in
set_option maxRecDepth 20000 in
theorem ggX3_hydrostaticAbove_X3_pressureOf : GoodIn wsX3_hydrostaticAbove wsX3_pressureOf := goodIn_r _ [12, 1, 13, 14, 15, 16, 4, 17, 18, 19, 20, 26, 27, 28, 29, 30, 31] rfl (by decide +kernel)
set_option maxRecDepth 20000 in
theorem gX3_hydrostaticAbove_X3_pressureOf : GoodIn wsX3_hydrostaticAbove (wsV RX3 62 RX3 yX3_pressureOf wsX3_pressureOf) := goodIn_app (goodIn_of _ (by decide +kernel)) ggX3_hydrostaticAbove_X3_pressureOf
set_option maxRecDepth 20000 in
theorem ggX3_hydrostaticAbove_X3_error : GoodIn wsX3_hydrostaticAbove wsX3_error := goodIn_r _ [24, 25, 26, 27, 28, 29, 30, 31] rfl (by decide +kernel)
set_option maxRecDepth 20000 in
theorem gX3_hydrostaticAbove_X3_error : GoodIn wsX3_hydrostaticAbove (wsV RX3 76 RX3 yX3_error wsX3_error) := goodIn_app (goodIn_of _ (by decide +kernel)) ggX3_hydrostaticAbove_X3_error
set_option maxRecDepth 20000 in
theorem ggX3_drillPipePressure_X3_lacking : GoodIn wsX3_drillPipePressure wsX3_lacking := goodIn_r _ [5, 6, 7, 8, 9, 4, 10, 11, 12, 13, 14, 15, 16, 17, 18, 19, 20, 21, 22, 23, 24] rfl (by decide +kernel)
set_option maxRecDepth 20000 in
theorem gX3_drillPipePressure_X3_lacking : GoodIn wsX3_drillPipePressure (wsV RX3 65 RX3 yX3_lacking wsX3_lacking) := goodIn_app (goodIn_of _ (by decide +kernel)) ggX3_drillPipePressure_X3_lacking
set_option maxRecDepth 20000 in
theorem ggX3_casingPressure_X3_lacking : GoodIn wsX3_casingPressure wsX3_lacking := goodIn_r _ [5, 6, 7, 8, 9, 4, 10, 11, 12, 13, 14, 15, 16, 17, 18, 19, 20, 21, 22, 23, 24] rfl (by decide +kernel)
set_option maxRecDepth 20000 in
theorem gX3_casingPressure_X3_lacking : GoodIn wsX3_casingPressure (wsV RX3 65 RX3 yX3_lacking wsX3_lacking) := goodIn_app (goodIn_of _ (by decide +kernel)) ggX3_casingPressure_X3_lacking
set_option maxRecDepth 20000 in
theorem ggX3_standpipePressure_X3_lacking : GoodIn wsX3_standpipePressure wsX3_lacking := goodIn_r _ [6, 1, 7, 8, 9, 5, 10, 11, 12, 13, 14, 15, 16, 17, 18, 19, 20, 21, 22, 23, 24] rfl (by decide +kernel)
set_option maxRecDepth 20000 in
theorem gX3_standpipePressure_X3_lacking : GoodIn wsX3_standpipePressure (wsV RX3 65 RX3 yX3_lacking wsX3_lacking) := goodIn_app (goodIn_of _ (by decide +kernel)) ggX3_standpipePressure_X3_lacking
set_option maxRecDepth 20000 in
theorem ggX3_shoePressure_X3_atShoe : GoodIn wsX3_shoePressure wsX3_atShoe := goodIn_r _ [5, 6, 7, 8, 9, 4, 10, 11, 12, 13, 14, 15, 16, 17, 18, 19, 20, 21, 22, 23, 24, 25, 26, 27, 28] rfl (by decide +kernel)
set_option maxRecDepth 20000 in
theorem gX3_shoePressure_X3_atShoe : GoodIn wsX3_shoePressure (wsV RX3 68 RX3 yX3_atShoe wsX3_atShoe) := goodIn_app (goodIn_of _ (by decide +kernel)) ggX3_shoePressure_X3_atShoe
set_option maxRecDepth 20000 in
theorem ggX3_allowedCasingPressure_X3_pressureOf : GoodIn wsX3_allowedCasingPressure wsX3_pressureOf := goodIn_r _ [6, 1, 7, 8, 9, 10, 5, 11, 12, 13, 14, 15, 16, 17, 18, 19, 20] rfl (by decide +kernel)
set_option maxRecDepth 20000 in
theorem gX3_allowedCasingPressure_X3_pressureOf : GoodIn wsX3_allowedCasingPressure (wsV RX3 62 RX3 yX3_pressureOf wsX3_pressureOf) := goodIn_app (goodIn_of _ (by decide +kernel)) ggX3_allowedCasingPressure_X3_pressureOf
set_option maxRecDepth 20000 in
theorem ggX3_leastDensity_X3_volumeOf : GoodIn wsX3_leastDensity wsX3_volumeOf := goodIn_r _ [8, 3, 9, 10, 11, 12, 13, 14] rfl (by decide +kernel)
set_option maxRecDepth 20000 in
theorem gX3_leastDensity_X3_volumeOf : GoodIn wsX3_leastDensity (wsV RX3 37 RX3 yX3_volumeOf wsX3_volumeOf) := goodIn_app (goodIn_of _ (by decide +kernel)) ggX3_leastDensity_X3_volumeOf
set_option maxRecDepth 20000 in
theorem ggX3_killDensity_X3_leastDensity : GoodIn wsX3_killDensity wsX3_leastDensity := goodIn_r _ [5, 6, 7, 8, 9, 10, 11, 4, 12, 18, 19, 20, 21, 22, 23] rfl (by decide +kernel)
set_option maxRecDepth 20000 in
theorem gX3_killDensity_X3_leastDensity : GoodIn wsX3_killDensity (wsV RX3 97 RX3 yX3_leastDensity wsX3_leastDensity) := goodIn_app (goodIn_of _ (by decide +kernel)) ggX3_killDensity_X3_leastDensity
set_option maxRecDepth 20000 in
theorem ggX3_killDensity_X3_error : GoodIn wsX3_killDensity wsX3_error := goodIn_r _ [16, 17, 18, 19, 20, 21, 22, 23] rfl (by decide +kernel)
set_option maxRecDepth 20000 in
theorem gX3_killDensity_X3_error : GoodIn wsX3_killDensity (wsV RX3 76 RX3 yX3_error wsX3_error) := goodIn_app (goodIn_of _ (by decide +kernel)) ggX3_killDensity_X3_error
set_option maxRecDepth 20000 in
theorem ggX3_pumpAll_X3_pumpMud : GoodIn wsX3_pumpAll wsX3_pumpMud := goodIn_r _ [5, 6, 7, 8, 4, 9, 10, 11, 12, 13, 14, 15, 16, 17, 18, 19, 20, 21, 22, 23, 24, 25, 26, 27, 28, 43, 44, 45, 46, 47, 48] rfl (by decide +kernel)
set_option maxRecDepth 20000 in
theorem gX3_pumpAll_X3_pumpMud : GoodIn wsX3_pumpAll (wsV RX3 87 RX3 yX3_pumpMud wsX3_pumpMud) := goodIn_app (goodIn_of _ (by decide +kernel)) ggX3_pumpAll_X3_pumpMud
set_option maxRecDepth 20000 in
theorem ggX3_pumpAll_X3_atShoe : GoodIn wsX3_pumpAll wsX3_atShoe := goodIn_r _ [32, 10, 33, 34, 35, 4, 36, 37, 38, 39, 40, 41, 42, 14, 15, 16, 11, 12, 13, 43, 44, 45, 46, 47, 48] rfl (by decide +kernel)
set_option maxRecDepth 20000 in
theorem gX3_pumpAll_X3_atShoe : GoodIn wsX3_pumpAll (wsV RX3 68 RX3 yX3_atShoe wsX3_atShoe) := goodIn_app (goodIn_of _ (by decide +kernel)) ggX3_pumpAll_X3_atShoe
set_option maxRecDepth 20000 in
theorem ggX3_killShoePressure_X3_in : GoodIn wsX3_killShoePressure wsX3_in := goodIn_r _ [6] rfl (by decide +kernel)
set_option maxRecDepth 20000 in
theorem gX3_killShoePressure_X3_in : GoodIn wsX3_killShoePressure (va_wsS RX3 72 yX3_in wsX3_in) := goodIn_app (goodIn_of _ (by decide +kernel)) ggX3_killShoePressure_X3_in
set_option maxRecDepth 20000 in
theorem ggX3_killShoePressure_X3_error : GoodIn wsX3_killShoePressure wsX3_error := goodIn_r _ [10, 11, 67, 68, 69, 70, 71, 72] rfl (by decide +kernel)
set_option maxRecDepth 20000 in
theorem gX3_killShoePressure_X3_error : GoodIn wsX3_killShoePressure (wsV RX3 76 RX3 yX3_error wsX3_error) := goodIn_app (goodIn_of _ (by decide +kernel)) ggX3_killShoePressure_X3_error
set_option maxRecDepth 20000 in
theorem ggX3_killShoePressure_X3_volumeOf : GoodIn wsX3_killShoePressure wsX3_volumeOf := goodIn_r _ [15, 1, 67, 68, 69, 70, 71, 72] rfl (by decide +kernel)
set_option maxRecDepth 20000 in
theorem gX3_killShoePressure_X3_volumeOf : GoodIn wsX3_killShoePressure (wsV RX3 37 RX3 yX3_volumeOf wsX3_volumeOf) := goodIn_app (goodIn_of _ (by decide +kernel)) ggX3_killShoePressure_X3_volumeOf
set_option maxRecDepth 20000 in
theorem ggX3_killShoePressure_X3_leastDensity : GoodIn wsX3_killShoePressure wsX3_leastDensity := goodIn_r _ [19, 20, 21, 1, 12, 13, 14, 5, 15, 67, 68, 69, 70, 71, 72] rfl (by decide +kernel)
set_option maxRecDepth 20000 in
theorem gX3_killShoePressure_X3_leastDensity : GoodIn wsX3_killShoePressure (wsV RX3 97 RX3 yX3_leastDensity wsX3_leastDensity) := goodIn_app (goodIn_of _ (by decide +kernel)) ggX3_killShoePressure_X3_leastDensity
set_option maxRecDepth 20000 in
theorem ggX3_killShoePressure_X3_copy : GoodIn wsX3_killShoePressure wsX3_copy := goodIn_r _ [24] rfl (by decide +kernel)
set_option maxRecDepth 20000 in
theorem gX3_killShoePressure_X3_copy : GoodIn wsX3_killShoePressure (va_wsS RX3 29 yX3_copy wsX3_copy) := goodIn_app (goodIn_of _ (by decide +kernel)) ggX3_killShoePressure_X3_copy
set_option maxRecDepth 20000 in
theorem ggX3_killShoePressure_X3_pumpAll : GoodIn wsX3_killShoePressure wsX3_pumpAll := goodIn_r _ [28, 29, 30, 31, 5, 32, 33, 34, 35, 36, 1, 37, 38, 39, 40, 41, 42, 43, 44, 45, 46, 47, 48, 49, 50, 51, 52, 53, 54, 55, 56, 57, 58, 59, 60, 61, 62, 63, 64, 65, 66, 20, 21, 67, 68, 69, 70, 71, 72] rfl (by decide +kernel)
set_option maxRecDepth 20000 in
theorem gX3_killShoePressure_X3_pumpAll : GoodIn wsX3_killShoePressure (wsV RX3 100 RX3 yX3_pumpAll wsX3_pumpAll) := goodIn_app (goodIn_of _ (by decide +kernel)) ggX3_killShoePressure_X3_pumpAll
set_option maxRecDepth 20000 in
theorem ggX3_schedule_X3_in : GoodIn wsX3_schedule wsX3_in := goodIn_r _ [6] rfl (by decide +kernel)
set_option maxRecDepth 20000 in
theorem gX3_schedule_X3_in : GoodIn wsX3_schedule (va_wsS RX3 72 yX3_in wsX3_in) := goodIn_app (goodIn_of _ (by decide +kernel)) ggX3_schedule_X3_in
set_option maxRecDepth 20000 in
theorem ggX3_schedule_X3_error : GoodIn wsX3_schedule wsX3_error := goodIn_r _ [10, 11, 36, 37, 38, 39, 40, 41] rfl (by decide +kernel)
set_option maxRecDepth 20000 in
theorem gX3_schedule_X3_error : GoodIn wsX3_schedule (wsV RX3 76 RX3 yX3_error wsX3_error) := goodIn_app (goodIn_of _ (by decide +kernel)) ggX3_schedule_X3_error
set_option maxRecDepth 20000 in
theorem ggX3_schedule_X3_leastDensity : GoodIn wsX3_schedule wsX3_leastDensity := goodIn_r _ [15, 16, 17, 1, 18, 19, 20, 5, 21, 36, 37, 38, 39, 40, 41] rfl (by decide +kernel)
set_option maxRecDepth 20000 in
theorem gX3_schedule_X3_leastDensity : GoodIn wsX3_schedule (wsV RX3 97 RX3 yX3_leastDensity wsX3_leastDensity) := goodIn_app (goodIn_of _ (by decide +kernel)) ggX3_schedule_X3_leastDensity
set_option maxRecDepth 20000 in
theorem ggX3_schedule_X3_lacking : GoodIn wsX3_schedule wsX3_lacking := goodIn_r _ [25, 1, 26, 27, 28, 5, 29, 16, 17, 30, 31, 32, 33, 34, 35, 36, 37, 38, 39, 40, 41] rfl (by decide +kernel)
set_option maxRecDepth 20000 in
theorem gX3_schedule_X3_lacking : GoodIn wsX3_schedule (wsV RX3 65 RX3 yX3_lacking wsX3_lacking) := goodIn_app (goodIn_of _ (by decide +kernel)) ggX3_schedule_X3_lacking
set_option maxRecDepth 20000 in
theorem ggX3_strokesToBit_X3_in : GoodIn wsX3_strokesToBit wsX3_in := goodIn_r _ [4] rfl (by decide +kernel)
set_option maxRecDepth 20000 in
theorem gX3_strokesToBit_X3_in : GoodIn wsX3_strokesToBit (va_wsS RX3 72 yX3_in wsX3_in) := goodIn_app (goodIn_of _ (by decide +kernel)) ggX3_strokesToBit_X3_in
set_option maxRecDepth 20000 in
theorem ggX3_strokesToBit_X3_volumeOf : GoodIn wsX3_strokesToBit wsX3_volumeOf := goodIn_r _ [8, 9, 15, 16, 17, 18, 19, 20] rfl (by decide +kernel)
set_option maxRecDepth 20000 in
theorem gX3_strokesToBit_X3_volumeOf : GoodIn wsX3_strokesToBit (wsV RX3 37 RX3 yX3_volumeOf wsX3_volumeOf) := goodIn_app (goodIn_of _ (by decide +kernel)) ggX3_strokesToBit_X3_volumeOf
set_option maxRecDepth 20000 in
theorem ggX3_strokesToBit_X3_error : GoodIn wsX3_strokesToBit wsX3_error := goodIn_r _ [13, 14, 15, 16, 17, 18, 19, 20] rfl (by decide +kernel)
set_option maxRecDepth 20000 in
theorem gX3_strokesToBit_X3_error : GoodIn wsX3_strokesToBit (wsV RX3 76 RX3 yX3_error wsX3_error) := goodIn_app (goodIn_of _ (by decide +kernel)) ggX3_strokesToBit_X3_error
set_option maxRecDepth 20000 in
theorem ggX3_layers_X3_isColumn : GoodIn wsX3_layers wsX3_isColumn := goodIn_r _ [5, 6, 7, 4, 8] rfl (by decide +kernel)
set_option maxRecDepth 20000 in
theorem gX3_layers_X3_isColumn : GoodIn wsX3_layers (va_wsS RX3 93 yX3_isColumn wsX3_isColumn) := goodIn_app (goodIn_of _ (by decide +kernel)) ggX3_layers_X3_isColumn
set_option maxRecDepth 20000 in
theorem ggX3_layers_X3_error : GoodIn wsX3_layers wsX3_error := goodIn_r _ [12, 13, 14, 15, 16, 17, 18, 19] rfl (by decide +kernel)
set_option maxRecDepth 20000 in
theorem gX3_layers_X3_error : GoodIn wsX3_layers (wsV RX3 76 RX3 yX3_error wsX3_error) := goodIn_app (goodIn_of _ (by decide +kernel)) ggX3_layers_X3_error
set_option maxRecDepth 20000 in
theorem ggX3_ofLayer_X3_isColumn : GoodIn wsX3_ofLayer wsX3_isColumn := goodIn_r _ [5, 6, 7, 4, 8] rfl (by decide +kernel)
set_option maxRecDepth 20000 in
theorem gX3_ofLayer_X3_isColumn : GoodIn wsX3_ofLayer (va_wsS RX3 93 yX3_isColumn wsX3_isColumn) := goodIn_app (goodIn_of _ (by decide +kernel)) ggX3_ofLayer_X3_isColumn
set_option maxRecDepth 20000 in
theorem ggX3_ofLayer_X3_error : GoodIn wsX3_ofLayer wsX3_error := goodIn_r _ [12, 13, 17, 18, 19, 20, 21, 22] rfl (by decide +kernel)
set_option maxRecDepth 20000 in
theorem gX3_ofLayer_X3_error : GoodIn wsX3_ofLayer (wsV RX3 76 RX3 yX3_error wsX3_error) := goodIn_app (goodIn_of _ (by decide +kernel)) ggX3_ofLayer_X3_error
set_option maxRecDepth 20000 in
theorem ggX3_ofLayer_X3_volumeAt : GoodIn wsX3_ofLayer wsX3_volumeAt := goodIn_r _ [16] rfl (by decide +kernel)
set_option maxRecDepth 20000 in
theorem gX3_ofLayer_X3_volumeAt : GoodIn wsX3_ofLayer (va_wsS RX3 33 yX3_volumeAt wsX3_volumeAt) := goodIn_app (goodIn_of _ (by decide +kernel)) ggX3_ofLayer_X3_volumeAt
set_option maxRecDepth 20000 in
theorem ggX3_layerVolume_X3_ofLayer : GoodIn wsX3_layerVolume wsX3_ofLayer := goodIn_r _ [5, 6, 7, 8, 4, 9, 10, 11, 12, 13, 14, 15, 16, 17, 18, 19, 20, 21, 22, 23, 24, 25, 26] rfl (by decide +kernel)
set_option maxRecDepth 20000 in
theorem gX3_layerVolume_X3_ofLayer : GoodIn wsX3_layerVolume (wsV RX3 105 RX3 yX3_ofLayer wsX3_ofLayer) := goodIn_app (goodIn_of _ (by decide +kernel)) ggX3_layerVolume_X3_ofLayer
set_option maxRecDepth 20000 in
theorem ggX3_layerDensity_X3_ofLayer : GoodIn wsX3_layerDensity wsX3_ofLayer := goodIn_r _ [5, 6, 7, 8, 4, 9, 10, 11, 12, 13, 14, 15, 16, 17, 18, 19, 20, 21, 22, 23, 24, 25, 26] rfl (by decide +kernel)
set_option maxRecDepth 20000 in
theorem gX3_layerDensity_X3_ofLayer : GoodIn wsX3_layerDensity (wsV RX3 105 RX3 yX3_ofLayer wsX3_ofLayer) := goodIn_app (goodIn_of _ (by decide +kernel)) ggX3_layerDensity_X3_ofLayer
set_option maxRecDepth 20000 in
theorem ggX3_undo_X3_error : GoodIn wsX3_undo wsX3_error := goodIn_r _ [8, 9, 13, 14, 15, 16, 17, 18] rfl (by decide +kernel)
set_option maxRecDepth 20000 in
theorem gX3_undo_X3_error : GoodIn wsX3_undo (wsV RX3 76 RX3 yX3_error wsX3_error) := goodIn_app (goodIn_of _ (by decide +kernel)) ggX3_undo_X3_error
set_option maxRecDepth 20000 in
theorem ggX3_undo_X3_copy : GoodIn wsX3_undo wsX3_copy := goodIn_r _ [12] rfl (by decide +kernel)
set_option maxRecDepth 20000 in
theorem gX3_undo_X3_copy : GoodIn wsX3_undo (va_wsS RX3 29 yX3_copy wsX3_copy) := goodIn_app (goodIn_of _ (by decide +kernel)) ggX3_undo_X3_copy
set_option maxRecDepth 20000 in
theorem ggX3_errorCount_X3_in : GoodIn wsX3_errorCount wsX3_in := goodIn_r _ [5] rfl (by decide +kernel)
set_option maxRecDepth 20000 in
theorem gX3_errorCount_X3_in : GoodIn wsX3_errorCount (va_wsS RX3 72 yX3_in wsX3_in) := goodIn_app (goodIn_of _ (by decide +kernel)) ggX3_errorCount_X3_in
set_option maxRecDepth 20000 in
theorem ggX3_errorCount_X3_error : GoodIn wsX3_errorCount wsX3_error := goodIn_r _ [9, 1, 10, 11, 12, 13, 14, 15] rfl (by decide +kernel)
set_option maxRecDepth 20000 in
theorem gX3_errorCount_X3_error : GoodIn wsX3_errorCount (wsV RX3 76 RX3 yX3_error wsX3_error) := goodIn_app (goodIn_of _ (by decide +kernel)) ggX3_errorCount_X3_error
set_option maxRecDepth 20000 in
theorem ggX3_digest_X3_mix : GoodIn wsX3_digest wsX3_mix := goodIn_r _ [10, 11, 2, 32, 33, 34, 35, 36, 37] rfl (by decide +kernel)
set_option maxRecDepth 20000 in
theorem gX3_digest_X3_mix : GoodIn wsX3_digest (wsV RX3 117 RX3 yX3_mix wsX3_mix) := goodIn_app (goodIn_of _ (by decide +kernel)) ggX3_digest_X3_mix
set_option maxRecDepth 20000 in
theorem ggX3_digest_X3_volumeAt : GoodIn wsX3_digest wsX3_volumeAt := goodIn_r _ [14] rfl (by decide +kernel)
set_option maxRecDepth 20000 in
theorem gX3_digest_X3_volumeAt : GoodIn wsX3_digest (va_wsS RX3 33 yX3_volumeAt wsX3_volumeAt) := goodIn_app (goodIn_of _ (by decide +kernel)) ggX3_digest_X3_volumeAt
set_option maxRecDepth 20000 in
theorem ggX3_digest_X3_densityAt : GoodIn wsX3_digest wsX3_densityAt := goodIn_r _ [17, 12, 13, 9, 14] rfl (by decide +kernel)
set_option maxRecDepth 20000 in
theorem gX3_digest_X3_densityAt : GoodIn wsX3_digest (va_wsS RX3 41 yX3_densityAt wsX3_densityAt) := goodIn_app (goodIn_of _ (by decide +kernel)) ggX3_digest_X3_densityAt
set_option maxRecDepth 20000 in
theorem ggX3_digest_X3_lacking : GoodIn wsX3_digest wsX3_lacking := goodIn_r _ [21, 4, 22, 23, 24, 9, 25, 26, 27, 12, 13, 14, 15, 16, 17, 32, 33, 34, 35, 36, 37] rfl (by decide +kernel)
set_option maxRecDepth 20000 in
theorem gX3_digest_X3_lacking : GoodIn wsX3_digest (wsV RX3 65 RX3 yX3_lacking wsX3_lacking) := goodIn_app (goodIn_of _ (by decide +kernel)) ggX3_digest_X3_lacking
set_option maxRecDepth 20000 in
theorem ggX3_digest_X3_atShoe : GoodIn wsX3_digest wsX3_atShoe := goodIn_r _ [31, 4, 18, 19, 20, 9, 21, 22, 23, 24, 25, 26, 27, 12, 13, 14, 15, 16, 17, 32, 33, 34, 35, 36, 37] rfl (by decide +kernel)
set_option maxRecDepth 20000 in
theorem gX3_digest_X3_atShoe : GoodIn wsX3_digest (wsV RX3 68 RX3 yX3_atShoe wsX3_atShoe) := goodIn_app (goodIn_of _ (by decide +kernel)) ggX3_digest_X3_atShoe
