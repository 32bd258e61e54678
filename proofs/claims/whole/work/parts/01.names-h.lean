set_option maxRecDepth 20000 in
theorem ggL_law_X2_init : GoodIn wsL_law wsX2_init := goodIn_r _ [8, 9, 10, 11, 12, 13, 14, 15, 16, 17, 18, 19, 20, 21, 22, 23, 24, 25, 26, 27, 28, 29, 30, 31, 32, 33, 34, 35, 36, 37, 38, 39, 40, 41, 42, 43, 44, 45, 46, 47, 48, 49, 50, 51, 52, 53, 54, 55, 56, 57, 58, 59, 60, 61, 62, 63, 64, 65, 66, 67, 68, 69, 70, 71, 72, 73, 74, 75, 76, 77, 78, 79, 80, 81, 82, 592, 593, 594, 595, 596, 597, 598, 599, 600, 601, 602, 603, 604, 581, 582, 583, 584, 585, 605, 606, 607, 608, 609, 610] rfl (by decide +kernel)
set_option maxRecDepth 20000 in
theorem gL_law_X2_init : GoodIn wsL_law (wsX2_init) := ggL_law_X2_init
set_option maxRecDepth 20000 in
theorem ggL_law_X3_init : GoodIn wsL_law wsX3_init := goodIn_r _ [85, 86, 10, 11, 19, 87, 88, 89, 90, 91, 92, 93, 5, 94, 95, 96, 97, 98, 99, 100, 101, 102, 103, 104, 586, 587, 588, 589, 590, 591] rfl (by decide +kernel)
set_option maxRecDepth 20000 in
theorem gL_law_X3_init : GoodIn wsL_law (wsX3_init) := ggL_law_X3_init
set_option maxRecDepth 20000 in
theorem ggL_law_X2_setGeometry : GoodIn wsL_law wsX2_setGeometry := goodIn_r _ [108, 15, 109, 110, 111, 112, 113, 114, 2, 115, 116, 117, 118, 119, 20, 120, 121, 122, 123, 18, 17, 124, 125, 126, 127, 128, 129, 130, 14, 131, 25, 26, 27, 28, 29, 30, 31, 32, 49, 50, 51, 36, 37, 132, 133, 134, 35, 135, 57, 42, 43, 136, 53, 54, 55, 56, 58, 71, 72, 73, 74, 75, 76, 77, 78, 137, 64, 65, 66, 67, 68, 69, 70, 138, 46, 47, 48, 52, 59, 60, 61, 62, 63, 79, 80, 81, 82, 139, 140, 581, 582, 583, 584, 585, 592, 593, 594, 595, 596, 597, 598, 599, 600, 601, 602, 603, 604, 605, 606, 607, 608, 609, 610] rfl (by decide +kernel)
set_option maxRecDepth 20000 in
theorem gL_law_X2_setGeometry : GoodIn wsL_law (wsV RL 13 RX2 yX2_setGeometry wsX2_setGeometry) := goodIn_app (goodIn_of _ (by decide +kernel)) ggL_law_X2_setGeometry
set_option maxRecDepth 20000 in
theorem ggL_law_X3_setGeometry : GoodIn wsL_law wsX3_setGeometry := goodIn_r _ [144, 87, 145, 146, 5, 147, 148, 149, 150, 151, 90, 152, 153, 154, 155, 156, 89, 157, 158, 159, 91, 92, 93, 94, 95, 96, 97, 98, 99, 100, 101, 102, 103, 104, 586, 587, 588, 589, 590, 591] rfl (by decide +kernel)
set_option maxRecDepth 20000 in
theorem gL_law_X3_setGeometry : GoodIn wsL_law (wsV RL 17 RX3 yX3_setGeometry wsX3_setGeometry) := goodIn_app (goodIn_of _ (by decide +kernel)) ggL_law_X3_setGeometry
set_option maxRecDepth 20000 in
theorem ggL_law_X2_setMud : GoodIn wsL_law wsX2_setMud := goodIn_r _ [163, 15, 164, 113, 114, 2, 115, 116, 117, 118, 119, 20, 120, 121, 122, 123, 18, 17, 124, 125, 126, 127, 128, 129, 130, 14, 131, 25, 26, 27, 28, 29, 30, 31, 32, 49, 50, 51, 36, 37, 132, 133, 134, 35, 135, 57, 42, 43, 136, 53, 54, 55, 56, 58, 71, 72, 73, 74, 75, 76, 77, 78, 137, 64, 65, 66, 67, 68, 69, 70, 581, 582, 583, 584, 585, 592, 593, 594, 595, 596, 597, 598, 599, 600, 601, 602, 603, 604, 605, 606, 607, 608, 609, 610] rfl (by decide +kernel)
set_option maxRecDepth 20000 in
theorem gL_law_X2_setMud : GoodIn wsL_law (wsV RL 18 RX2 yX2_setMud wsX2_setMud) := goodIn_app (goodIn_of _ (by decide +kernel)) ggL_law_X2_setMud
set_option maxRecDepth 20000 in
theorem ggL_law_X3_setMud : GoodIn wsL_law wsX3_setMud := goodIn_r _ [168, 169, 170, 171, 5, 172, 87, 145, 146, 147, 148, 149, 150, 151, 90, 152, 153, 154, 155, 156, 89, 157, 158, 159, 586, 587, 588, 589, 590, 591] rfl (by decide +kernel)
set_option maxRecDepth 20000 in
theorem gL_law_X3_setMud : GoodIn wsL_law (wsV RL 22 RX3 yX3_setMud wsX3_setMud) := goodIn_app (goodIn_of _ (by decide +kernel)) ggL_law_X3_setMud
set_option maxRecDepth 20000 in
theorem ggL_law_X2_setFormation : GoodIn wsL_law wsX2_setFormation := goodIn_r _ [176, 177, 15, 178, 113, 114, 2, 115, 116, 117, 118, 119, 20, 120, 121, 122, 123, 18, 17, 124, 125, 126, 127, 128, 129, 130, 14, 131, 25, 26, 27, 28, 29, 30, 31, 32, 49, 50, 51, 36, 37, 132, 133, 134, 35, 135, 57, 42, 43, 136, 53, 54, 55, 56, 58, 71, 72, 73, 74, 75, 76, 77, 78, 137, 64, 65, 66, 67, 68, 69, 70, 581, 582, 583, 584, 585, 592, 593, 594, 595, 596, 597, 598, 599, 600, 601, 602, 603, 604, 605, 606, 607, 608, 609, 610] rfl (by decide +kernel)
set_option maxRecDepth 20000 in
theorem gL_law_X2_setFormation : GoodIn wsL_law (wsV RL 23 RX2 yX2_setFormation wsX2_setFormation) := goodIn_app (goodIn_of _ (by decide +kernel)) ggL_law_X2_setFormation
set_option maxRecDepth 20000 in
theorem ggL_law_X3_setFormation : GoodIn wsL_law wsX3_setFormation := goodIn_r _ [182, 183, 169, 170, 171, 5, 172, 87, 145, 146, 147, 148, 149, 150, 151, 90, 152, 153, 154, 155, 156, 89, 157, 158, 159, 586, 587, 588, 589, 590, 591] rfl (by decide +kernel)
set_option maxRecDepth 20000 in
theorem gL_law_X3_setFormation : GoodIn wsL_law (wsV RL 26 RX3 yX3_setFormation wsX3_setFormation) := goodIn_app (goodIn_of _ (by decide +kernel)) ggL_law_X3_setFormation
set_option maxRecDepth 20000 in
theorem ggL_law_X2_setSlowPump : GoodIn wsL_law wsX2_setSlowPump := goodIn_r _ [187, 15, 188, 113, 114, 2, 115, 116, 117, 118, 119, 20, 120, 121, 122, 123, 18, 17, 124, 125, 126, 127, 128, 129, 130, 14, 131, 25, 26, 27, 28, 29, 30, 31, 32, 49, 50, 51, 36, 37, 132, 133, 134, 35, 135, 57, 42, 43, 136, 53, 54, 55, 56, 58, 71, 72, 73, 74, 75, 76, 77, 78, 137, 64, 65, 66, 67, 68, 69, 70, 581, 582, 583, 584, 585, 592, 593, 594, 595, 596, 597, 598, 599, 600, 601, 602, 603, 604, 605, 606, 607, 608, 609, 610] rfl (by decide +kernel)
set_option maxRecDepth 20000 in
theorem gL_law_X2_setSlowPump : GoodIn wsL_law (wsV RL 27 RX2 yX2_setSlowPump wsX2_setSlowPump) := goodIn_app (goodIn_of _ (by decide +kernel)) ggL_law_X2_setSlowPump
set_option maxRecDepth 20000 in
theorem ggL_law_X3_setSlowPump : GoodIn wsL_law wsX3_setSlowPump := goodIn_r _ [192, 169, 170, 171, 5, 172, 87, 145, 146, 147, 148, 149, 150, 151, 90, 152, 153, 154, 155, 156, 89, 157, 158, 159, 586, 587, 588, 589, 590, 591] rfl (by decide +kernel)
set_option maxRecDepth 20000 in
theorem gL_law_X3_setSlowPump : GoodIn wsL_law (wsV RL 30 RX3 yX3_setSlowPump wsX3_setSlowPump) := goodIn_app (goodIn_of _ (by decide +kernel)) ggL_law_X3_setSlowPump
set_option maxRecDepth 20000 in
theorem ggL_law_X2_setFracture : GoodIn wsL_law wsX2_setFracture := goodIn_r _ [196, 177, 15, 197, 113, 114, 2, 115, 116, 117, 118, 119, 20, 120, 121, 122, 123, 18, 17, 124, 125, 126, 127, 128, 129, 130, 14, 131, 25, 26, 27, 28, 29, 30, 31, 32, 49, 50, 51, 36, 37, 132, 133, 134, 35, 135, 57, 42, 43, 136, 53, 54, 55, 56, 58, 71, 72, 73, 74, 75, 76, 77, 78, 137, 64, 65, 66, 67, 68, 69, 70, 581, 582, 583, 584, 585, 592, 593, 594, 595, 596, 597, 598, 599, 600, 601, 602, 603, 604, 605, 606, 607, 608, 609, 610] rfl (by decide +kernel)
set_option maxRecDepth 20000 in
theorem gL_law_X2_setFracture : GoodIn wsL_law (wsV RL 31 RX2 yX2_setFracture wsX2_setFracture) := goodIn_app (goodIn_of _ (by decide +kernel)) ggL_law_X2_setFracture
set_option maxRecDepth 20000 in
theorem ggL_law_X3_setFracture : GoodIn wsL_law wsX3_setFracture := goodIn_r _ [201, 183, 169, 170, 171, 5, 172, 87, 145, 146, 147, 148, 149, 150, 151, 90, 152, 153, 154, 155, 156, 89, 157, 158, 159, 586, 587, 588, 589, 590, 591] rfl (by decide +kernel)
set_option maxRecDepth 20000 in
theorem gL_law_X3_setFracture : GoodIn wsL_law (wsV RL 34 RX3 yX3_setFracture wsX3_setFracture) := goodIn_app (goodIn_of _ (by decide +kernel)) ggL_law_X3_setFracture
set_option maxRecDepth 20000 in
theorem ggL_law_X2_pump : GoodIn wsL_law wsX2_pump := goodIn_r _ [205, 15, 164, 116, 117, 118, 2, 119, 20, 113, 114, 115, 206, 207, 208, 14, 209, 59, 60, 61, 62, 25, 26, 79, 80, 81, 82, 27, 120, 121, 122, 123, 18, 17, 124, 125, 126, 127, 128, 129, 130, 131, 28, 29, 30, 31, 32, 49, 50, 51, 36, 37, 132, 133, 134, 35, 135, 57, 42, 43, 136, 53, 54, 55, 56, 58, 71, 72, 73, 74, 75, 76, 77, 78, 137, 64, 65, 66, 67, 68, 69, 70, 210, 211, 212, 213, 214, 215, 216, 217, 218, 219, 220, 221, 222, 223, 224, 225, 226, 227, 228, 229, 63, 230, 231, 232, 233, 234, 235, 236, 237, 238, 239, 240, 241, 242, 243, 244, 245, 246, 247, 248, 249, 250, 251, 252, 253, 254, 255, 256, 257, 258, 259, 260, 261, 262, 263, 264, 265, 266, 267, 268, 269, 270, 271, 272, 273, 274, 44, 275, 581, 582, 583, 584, 585, 592, 593, 594, 595, 596, 597, 598, 599, 600, 601, 602, 603, 604, 605, 606, 607, 608, 609, 610] rfl (by decide +kernel)
set_option maxRecDepth 20000 in
theorem gL_law_X2_pump : GoodIn wsL_law (wsV RL 35 RX2 yX2_pump wsX2_pump) := goodIn_app (goodIn_of _ (by decide +kernel)) ggL_law_X2_pump
set_option maxRecDepth 20000 in
theorem ggL_law_X3_pump : GoodIn wsL_law wsX3_pump := goodIn_r _ [279, 87, 148, 149, 150, 5, 151, 90, 98, 99, 100, 101, 152, 153, 154, 155, 156, 89, 157, 158, 159, 280, 281, 282, 283, 284, 285, 286, 287, 102, 103, 104, 95, 96, 97, 288, 289, 290, 291, 292, 293, 294, 295, 296, 297, 298, 299, 300, 301, 302, 303, 304, 305, 306, 307, 308, 309, 310, 311, 312, 313, 314, 315, 316, 317, 586, 587, 588, 589, 590, 591] rfl (by decide +kernel)
set_option maxRecDepth 20000 in
theorem gL_law_X3_pump : GoodIn wsL_law (wsV RL 38 RX3 yX3_pump wsX3_pump) := goodIn_app (goodIn_of _ (by decide +kernel)) ggL_law_X3_pump
set_option maxRecDepth 20000 in
theorem ggL_law_X2_influx : GoodIn wsL_law wsX2_influx := goodIn_r _ [321, 15, 113, 114, 2, 115, 116, 117, 118, 119, 20, 140, 80, 81, 14, 82, 25, 27, 120, 121, 122, 123, 18, 17, 124, 125, 126, 127, 128, 129, 130, 131, 26, 28, 29, 30, 31, 32, 49, 50, 51, 36, 37, 132, 133, 134, 35, 135, 57, 42, 43, 136, 53, 54, 55, 56, 58, 71, 72, 73, 74, 75, 76, 77, 78, 137, 64, 65, 66, 67, 68, 69, 70, 322, 323, 324, 325, 214, 215, 216, 217, 218, 219, 220, 221, 222, 223, 224, 225, 63, 230, 231, 232, 233, 234, 235, 236, 237, 238, 239, 240, 241, 242, 243, 244, 245, 246, 247, 248, 249, 250, 251, 252, 253, 254, 255, 256, 257, 258, 259, 260, 261, 262, 263, 264, 265, 266, 267, 268, 269, 270, 271, 272, 273, 274, 44, 275, 581, 582, 583, 584, 585, 592, 593, 594, 595, 596, 597, 598, 599, 600, 601, 602, 603, 604, 605, 606, 607, 608, 609, 610] rfl (by decide +kernel)
set_option maxRecDepth 20000 in
theorem gL_law_X2_influx : GoodIn wsL_law (wsV RL 39 RX2 yX2_influx wsX2_influx) := goodIn_app (goodIn_of _ (by decide +kernel)) ggL_law_X2_influx
set_option maxRecDepth 20000 in
theorem ggL_law_X3_influx : GoodIn wsL_law wsX3_influx := goodIn_r _ [329, 87, 145, 146, 5, 147, 148, 149, 150, 151, 90, 98, 99, 100, 101, 152, 153, 154, 155, 156, 89, 157, 158, 159, 292, 293, 294, 295, 102, 103, 104, 95, 96, 97, 296, 297, 298, 299, 300, 301, 302, 303, 304, 305, 306, 307, 308, 309, 310, 311, 312, 313, 314, 315, 316, 317, 586, 587, 588, 589, 590, 591] rfl (by decide +kernel)
set_option maxRecDepth 20000 in
theorem gL_law_X3_influx : GoodIn wsL_law (wsV RL 43 RX3 yX3_influx wsX3_influx) := goodIn_app (goodIn_of _ (by decide +kernel)) ggL_law_X3_influx
set_option maxRecDepth 20000 in
theorem ggL_law_X2_hydrostatic : GoodIn wsL_law wsX2_hydrostatic := goodIn_r _ [333, 15, 113, 114, 2, 115, 116, 117, 118, 119, 20, 334, 246, 247, 14, 248, 249, 250, 251, 252, 253, 36, 37, 254, 255, 256, 257, 26, 27, 258, 259, 260, 261, 262, 234, 235, 224, 236, 581, 582, 583, 584, 585, 605, 606, 607, 608, 609, 610, 592, 593, 594, 595, 596, 597, 598, 599, 600, 601, 602, 603, 604] rfl (by decide +kernel)
set_option maxRecDepth 20000 in
theorem gL_law_X2_hydrostatic : GoodIn wsL_law (wsV RL 44 RX2 yX2_hydrostatic wsX2_hydrostatic) := goodIn_app (goodIn_of _ (by decide +kernel)) ggL_law_X2_hydrostatic
set_option maxRecDepth 20000 in
theorem ggL_law_X3_hydrostatic : GoodIn wsL_law wsX3_hydrostatic := goodIn_r _ [338, 87, 339, 340, 5, 341, 145, 146, 147, 312, 313, 314, 315, 316, 317, 95, 96, 97, 102, 103, 104, 148, 149, 150, 151, 90, 586, 587, 588, 589, 590, 591] rfl (by decide +kernel)
set_option maxRecDepth 20000 in
theorem gL_law_X3_hydrostatic : GoodIn wsL_law (wsV RL 47 RX3 yX3_hydrostatic wsX3_hydrostatic) := goodIn_app (goodIn_of _ (by decide +kernel)) ggL_law_X3_hydrostatic
set_option maxRecDepth 20000 in
theorem ggL_law_X2_hydrostaticAbove : GoodIn wsL_law wsX2_hydrostaticAbove := goodIn_r _ [345, 15, 109, 113, 114, 2, 115, 116, 117, 118, 119, 20, 346, 264, 265, 14, 266, 254, 255, 256, 257, 26, 27, 250, 251, 252, 253, 36, 37, 267, 268, 269, 35, 270, 57, 42, 222, 223, 224, 225, 43, 271, 272, 273, 274, 44, 56, 75, 76, 77, 78, 258, 259, 260, 261, 262, 234, 235, 236, 581, 582, 583, 584, 585, 592, 593, 594, 595, 596, 597, 598, 599, 600, 601, 602, 603, 604, 605, 606, 607, 608, 609, 610] rfl (by decide +kernel)
set_option maxRecDepth 20000 in
theorem gL_law_X2_hydrostaticAbove : GoodIn wsL_law (wsV RL 48 RX2 yX2_hydrostaticAbove wsX2_hydrostaticAbove) := goodIn_app (goodIn_of _ (by decide +kernel)) ggL_law_X2_hydrostaticAbove
set_option maxRecDepth 20000 in
theorem ggL_law_X3_hydrostaticAbove : GoodIn wsL_law wsX3_hydrostaticAbove := goodIn_r _ [350, 87, 339, 340, 5, 341, 145, 146, 147, 312, 313, 314, 315, 316, 317, 95, 96, 97, 102, 103, 104, 148, 149, 150, 151, 90, 586, 587, 588, 589, 590, 591] rfl (by decide +kernel)
set_option maxRecDepth 20000 in
theorem gL_law_X3_hydrostaticAbove : GoodIn wsL_law (wsV RL 51 RX3 yX3_hydrostaticAbove wsX3_hydrostaticAbove) := goodIn_app (goodIn_of _ (by decide +kernel)) ggL_law_X3_hydrostaticAbove
set_option maxRecDepth 20000 in
theorem ggL_law_X2_drillPipePressure : GoodIn wsL_law wsX2_drillPipePressure := goodIn_r _ [354, 15, 355, 356, 357, 14, 358, 30, 234, 235, 224, 236, 245, 246, 247, 248, 249, 250, 251, 252, 253, 36, 37, 254, 255, 256, 257, 26, 27, 258, 259, 260, 261, 262, 581, 582, 583, 584, 585, 592, 593, 594, 595, 596, 597, 598, 599, 600, 601, 602, 603, 604, 605, 606, 607, 608, 609, 610] rfl (by decide +kernel)
set_option maxRecDepth 20000 in
theorem gL_law_X2_drillPipePressure : GoodIn wsL_law (wsV RL 52 RX2 yX2_drillPipePressure wsX2_drillPipePressure) := goodIn_app (goodIn_of _ (by decide +kernel)) ggL_law_X2_drillPipePressure
set_option maxRecDepth 20000 in
theorem ggL_law_X3_drillPipePressure : GoodIn wsL_law wsX3_drillPipePressure := goodIn_r _ [362, 308, 309, 310, 5, 311, 87, 312, 313, 314, 315, 316, 317, 95, 96, 97, 102, 103, 104, 586, 587, 588, 589, 590, 591] rfl (by decide +kernel)
set_option maxRecDepth 20000 in
theorem gL_law_X3_drillPipePressure : GoodIn wsL_law (wsV RL 56 RX3 yX3_drillPipePressure wsX3_drillPipePressure) := goodIn_app (goodIn_of _ (by decide +kernel)) ggL_law_X3_drillPipePressure
set_option maxRecDepth 20000 in
theorem ggL_law_X2_casingPressure : GoodIn wsL_law wsX2_casingPressure := goodIn_r _ [366, 15, 275, 242, 243, 14, 244, 30, 234, 235, 224, 236, 245, 246, 247, 248, 249, 250, 251, 252, 253, 36, 37, 254, 255, 256, 257, 26, 27, 258, 259, 260, 261, 262, 581, 582, 583, 584, 585, 592, 593, 594, 595, 596, 597, 598, 599, 600, 601, 602, 603, 604, 605, 606, 607, 608, 609, 610] rfl (by decide +kernel)
set_option maxRecDepth 20000 in
theorem gL_law_X2_casingPressure : GoodIn wsL_law (wsV RL 57 RX2 yX2_casingPressure wsX2_casingPressure) := goodIn_app (goodIn_of _ (by decide +kernel)) ggL_law_X2_casingPressure
set_option maxRecDepth 20000 in
theorem ggL_law_X3_casingPressure : GoodIn wsL_law wsX3_casingPressure := goodIn_r _ [370, 308, 309, 310, 5, 311, 87, 312, 313, 314, 315, 316, 317, 95, 96, 97, 102, 103, 104, 586, 587, 588, 589, 590, 591] rfl (by decide +kernel)
set_option maxRecDepth 20000 in
theorem gL_law_X3_casingPressure : GoodIn wsL_law (wsV RL 60 RX3 yX3_casingPressure wsX3_casingPressure) := goodIn_app (goodIn_of _ (by decide +kernel)) ggL_law_X3_casingPressure
set_option maxRecDepth 20000 in
theorem ggL_law_X2_standpipePressure : GoodIn wsL_law wsX2_standpipePressure := goodIn_r _ [374, 15, 375, 376, 377, 14, 378, 31, 379, 356, 357, 358, 30, 234, 235, 224, 236, 245, 246, 247, 248, 249, 250, 251, 252, 253, 36, 37, 254, 255, 256, 257, 26, 27, 258, 259, 260, 261, 262, 581, 582, 583, 584, 585, 592, 593, 594, 595, 596, 597, 598, 599, 600, 601, 602, 603, 604, 605, 606, 607, 608, 609, 610] rfl (by decide +kernel)
set_option maxRecDepth 20000 in
theorem gL_law_X2_standpipePressure : GoodIn wsL_law (wsV RL 61 RX2 yX2_standpipePressure wsX2_standpipePressure) := goodIn_app (goodIn_of _ (by decide +kernel)) ggL_law_X2_standpipePressure
set_option maxRecDepth 20000 in
theorem ggL_law_X3_standpipePressure : GoodIn wsL_law wsX3_standpipePressure := goodIn_r _ [383, 87, 308, 309, 310, 5, 311, 312, 313, 314, 315, 316, 317, 95, 96, 97, 102, 103, 104, 586, 587, 588, 589, 590, 591] rfl (by decide +kernel)
set_option maxRecDepth 20000 in
theorem gL_law_X3_standpipePressure : GoodIn wsL_law (wsV RL 64 RX3 yX3_standpipePressure wsX3_standpipePressure) := goodIn_app (goodIn_of _ (by decide +kernel)) ggL_law_X3_standpipePressure
set_option maxRecDepth 20000 in
theorem ggL_law_X2_shoePressure : GoodIn wsL_law wsX2_shoePressure := goodIn_r _ [387, 15, 388, 238, 239, 14, 240, 28, 241, 242, 243, 244, 30, 234, 235, 224, 236, 245, 246, 247, 248, 249, 250, 251, 252, 253, 36, 37, 254, 255, 256, 257, 26, 27, 258, 259, 260, 261, 262, 263, 264, 265, 266, 267, 268, 269, 35, 270, 57, 42, 222, 223, 225, 43, 271, 272, 273, 274, 44, 56, 75, 76, 77, 78, 581, 582, 583, 584, 585, 592, 593, 594, 595, 596, 597, 598, 599, 600, 601, 602, 603, 604, 605, 606, 607, 608, 609, 610] rfl (by decide +kernel)
set_option maxRecDepth 20000 in
theorem gL_law_X2_shoePressure : GoodIn wsL_law (wsV RL 65 RX2 yX2_shoePressure wsX2_shoePressure) := goodIn_app (goodIn_of _ (by decide +kernel)) ggL_law_X2_shoePressure
set_option maxRecDepth 20000 in
theorem ggL_law_X3_shoePressure : GoodIn wsL_law wsX3_shoePressure := goodIn_r _ [392, 304, 305, 306, 5, 307, 87, 308, 309, 310, 311, 312, 313, 314, 315, 316, 317, 95, 96, 97, 102, 103, 104, 586, 587, 588, 589, 590, 591] rfl (by decide +kernel)
set_option maxRecDepth 20000 in
theorem gL_law_X3_shoePressure : GoodIn wsL_law (wsV RL 68 RX3 yX3_shoePressure wsX3_shoePressure) := goodIn_app (goodIn_of _ (by decide +kernel)) ggL_law_X3_shoePressure
set_option maxRecDepth 20000 in
theorem ggL_law_X2_allowedCasingPressure : GoodIn wsL_law wsX2_allowedCasingPressure := goodIn_r _ [396, 15, 197, 112, 346, 264, 265, 14, 266, 254, 255, 256, 257, 26, 27, 250, 251, 252, 253, 36, 37, 267, 268, 269, 35, 270, 57, 42, 222, 223, 224, 225, 43, 271, 272, 273, 274, 44, 56, 75, 76, 77, 78, 258, 259, 260, 261, 262, 234, 235, 236, 581, 582, 583, 584, 585, 592, 593, 594, 595, 596, 597, 598, 599, 600, 601, 602, 603, 604, 605, 606, 607, 608, 609, 610] rfl (by decide +kernel)
set_option maxRecDepth 20000 in
theorem gL_law_X2_allowedCasingPressure : GoodIn wsL_law (wsV RL 69 RX2 yX2_allowedCasingPressure wsX2_allowedCasingPressure) := goodIn_app (goodIn_of _ (by decide +kernel)) ggL_law_X2_allowedCasingPressure
set_option maxRecDepth 20000 in
theorem ggL_law_X3_allowedCasingPressure : GoodIn wsL_law wsX3_allowedCasingPressure := goodIn_r _ [400, 87, 312, 313, 314, 5, 315, 316, 317, 95, 96, 97, 102, 103, 104, 586, 587, 588, 589, 590, 591] rfl (by decide +kernel)
set_option maxRecDepth 20000 in
theorem gL_law_X3_allowedCasingPressure : GoodIn wsL_law (wsV RL 72 RX3 yX3_allowedCasingPressure wsX3_allowedCasingPressure) := goodIn_app (goodIn_of _ (by decide +kernel)) ggL_law_X3_allowedCasingPressure
set_option maxRecDepth 20000 in
theorem ggL_law_X2_killDensity : GoodIn wsL_law wsX2_killDensity := goodIn_r _ [404, 15, 405, 406, 407, 14, 408, 261, 25, 234, 235, 224, 236, 262, 30, 409, 410, 411, 412, 116, 117, 118, 2, 119, 20, 113, 114, 115, 581, 582, 583, 584, 585, 592, 593, 594, 595, 596, 597, 598, 599, 600, 601, 602, 603, 604] rfl (by decide +kernel)
set_option maxRecDepth 20000 in
theorem gL_law_X2_killDensity : GoodIn wsL_law (wsV RL 73 RX2 yX2_killDensity wsX2_killDensity) := goodIn_app (goodIn_of _ (by decide +kernel)) ggL_law_X2_killDensity
set_option maxRecDepth 20000 in
theorem ggL_law_X3_killDensity : GoodIn wsL_law wsX3_killDensity := goodIn_r _ [416, 417, 418, 419, 5, 420, 316, 317, 87, 98, 99, 100, 101, 148, 149, 150, 151, 90, 586, 587, 588, 589, 590, 591] rfl (by decide +kernel)
set_option maxRecDepth 20000 in
theorem gL_law_X3_killDensity : GoodIn wsL_law (wsV RL 76 RX3 yX3_killDensity wsX3_killDensity) := goodIn_app (goodIn_of _ (by decide +kernel)) ggL_law_X3_killDensity
set_option maxRecDepth 20000 in
theorem ggL_law_X2_killShoePressure : GoodIn wsL_law wsX2_killShoePressure := goodIn_r _ [424, 15, 16, 425, 164, 113, 114, 2, 115, 116, 117, 118, 119, 20, 206, 207, 208, 14, 209, 59, 60, 61, 62, 25, 26, 79, 80, 81, 82, 27, 405, 406, 407, 408, 261, 234, 235, 224, 236, 262, 30, 409, 410, 411, 412, 128, 129, 130, 131, 28, 29, 31, 32, 49, 50, 51, 36, 37, 132, 133, 134, 35, 135, 57, 42, 43, 136, 53, 54, 55, 56, 58, 71, 72, 73, 74, 75, 76, 77, 78, 137, 64, 65, 66, 67, 68, 69, 70, 140, 426, 427, 428, 429, 430, 431, 432, 433, 211, 212, 213, 214, 215, 216, 217, 218, 219, 220, 221, 222, 223, 225, 226, 227, 228, 229, 63, 434, 231, 232, 233, 237, 238, 239, 240, 241, 242, 243, 244, 245, 246, 247, 248, 249, 250, 251, 252, 253, 254, 255, 256, 257, 258, 259, 260, 263, 264, 265, 266, 267, 268, 269, 270, 271, 272, 273, 274, 44, 139, 581, 582, 583, 584, 585, 592, 593, 594, 595, 596, 597, 598, 599, 600, 601, 602, 603, 604, 605, 606, 607, 608, 609, 610] rfl (by decide +kernel)
set_option maxRecDepth 20000 in
theorem gL_law_X2_killShoePressure : GoodIn wsL_law (wsV RL 77 RX2 yX2_killShoePressure wsX2_killShoePressure) := goodIn_app (goodIn_of _ (by decide +kernel)) ggL_law_X2_killShoePressure
set_option maxRecDepth 20000 in
theorem ggL_law_X3_killShoePressure : GoodIn wsL_law wsX3_killShoePressure := goodIn_r _ [438, 87, 88, 145, 146, 5, 147, 148, 149, 150, 151, 90, 98, 99, 100, 101, 417, 418, 419, 420, 316, 317, 157, 158, 159, 439, 440, 441, 442, 280, 281, 282, 283, 284, 285, 286, 287, 102, 103, 104, 95, 96, 97, 288, 289, 290, 291, 292, 293, 294, 295, 296, 297, 298, 299, 304, 305, 306, 307, 308, 309, 310, 311, 312, 313, 314, 315, 586, 587, 588, 589, 590, 591] rfl (by decide +kernel)
set_option maxRecDepth 20000 in
theorem gL_law_X3_killShoePressure : GoodIn wsL_law (wsV RL 80 RX3 yX3_killShoePressure wsX3_killShoePressure) := goodIn_app (goodIn_of _ (by decide +kernel)) ggL_law_X3_killShoePressure
set_option maxRecDepth 20000 in
theorem ggL_law_X2_schedule : GoodIn wsL_law wsX2_schedule := goodIn_r _ [446, 15, 188, 164, 432, 235, 224, 236, 447, 113, 114, 2, 115, 116, 117, 118, 119, 20, 405, 406, 407, 14, 408, 261, 25, 234, 262, 30, 409, 410, 411, 412, 375, 376, 377, 378, 31, 379, 356, 357, 358, 245, 246, 247, 248, 249, 250, 251, 252, 253, 36, 37, 254, 255, 256, 257, 26, 27, 258, 259, 260, 581, 582, 583, 584, 585, 592, 593, 594, 595, 596, 597, 598, 599, 600, 601, 602, 603, 604, 605, 606, 607, 608, 609, 610] rfl (by decide +kernel)
set_option maxRecDepth 20000 in
theorem gL_law_X2_schedule : GoodIn wsL_law (wsV RL 81 RX2 yX2_schedule wsX2_schedule) := goodIn_app (goodIn_of _ (by decide +kernel)) ggL_law_X2_schedule
set_option maxRecDepth 20000 in
theorem ggL_law_X3_schedule : GoodIn wsL_law wsX3_schedule := goodIn_r _ [451, 87, 452, 145, 146, 5, 147, 148, 149, 150, 151, 90, 417, 418, 419, 420, 316, 317, 98, 99, 100, 101, 308, 309, 310, 311, 312, 313, 314, 315, 95, 96, 97, 102, 103, 104, 586, 587, 588, 589, 590, 591] rfl (by decide +kernel)
set_option maxRecDepth 20000 in
theorem gL_law_X3_schedule : GoodIn wsL_law (wsV RL 84 RX3 yX3_schedule wsX3_schedule) := goodIn_app (goodIn_of _ (by decide +kernel)) ggL_law_X3_schedule
set_option maxRecDepth 20000 in
theorem ggL_law_X2_strokesToBit : GoodIn wsL_law wsX2_strokesToBit := goodIn_r _ [456, 15, 113, 114, 2, 115, 116, 117, 118, 119, 20, 139, 60, 61, 14, 62, 25, 26, 457, 430, 431, 432, 235, 224, 236, 581, 582, 583, 584, 585, 592, 593, 594, 595, 596, 597, 598, 599, 600, 601, 602, 603, 604] rfl (by decide +kernel)
set_option maxRecDepth 20000 in
theorem gL_law_X2_strokesToBit : GoodIn wsL_law (wsV RL 85 RX2 yX2_strokesToBit wsX2_strokesToBit) := goodIn_app (goodIn_of _ (by decide +kernel)) ggL_law_X2_strokesToBit
set_option maxRecDepth 20000 in
theorem ggL_law_X3_strokesToBit : GoodIn wsL_law wsX3_strokesToBit := goodIn_r _ [461, 145, 146, 5, 147, 98, 99, 100, 101, 87, 148, 149, 150, 151, 90, 586, 587, 588, 589, 590, 591] rfl (by decide +kernel)
set_option maxRecDepth 20000 in
theorem gL_law_X3_strokesToBit : GoodIn wsL_law (wsV RL 88 RX3 yX3_strokesToBit wsX3_strokesToBit) := goodIn_app (goodIn_of _ (by decide +kernel)) ggL_law_X3_strokesToBit
set_option maxRecDepth 20000 in
theorem ggL_law_X2_layers : GoodIn wsL_law wsX2_layers := goodIn_r _ [465, 15, 466, 113, 114, 2, 115, 116, 117, 118, 119, 20, 467, 251, 252, 14, 253, 36, 37, 581, 582, 583, 584, 585, 605, 606, 607, 608, 609, 610, 592, 593, 594, 595, 596, 597, 598, 599, 600, 601, 602, 603, 604] rfl (by decide +kernel)
set_option maxRecDepth 20000 in
theorem gL_law_X2_layers : GoodIn wsL_law (wsV RL 89 RX2 yX2_layers wsX2_layers) := goodIn_app (goodIn_of _ (by decide +kernel)) ggL_law_X2_layers
set_option maxRecDepth 20000 in
theorem ggL_law_X3_layers : GoodIn wsL_law wsX3_layers := goodIn_r _ [471, 87, 339, 340, 5, 341, 145, 146, 147, 148, 149, 150, 151, 90, 586, 587, 588, 589, 590, 591] rfl (by decide +kernel)
set_option maxRecDepth 20000 in
theorem gL_law_X3_layers : GoodIn wsL_law (wsV RL 92 RX3 yX3_layers wsX3_layers) := goodIn_app (goodIn_of _ (by decide +kernel)) ggL_law_X3_layers
set_option maxRecDepth 20000 in
theorem ggL_law_X2_layerVolume : GoodIn wsL_law wsX2_layerVolume := goodIn_r _ [475, 15, 476, 477, 478, 2, 479, 466, 113, 114, 115, 467, 251, 252, 14, 253, 36, 37, 116, 117, 118, 119, 20, 480, 481, 482, 35, 483, 42, 271, 272, 273, 274, 44, 57, 56, 75, 76, 77, 78, 581, 582, 583, 584, 585, 605, 606, 607, 608, 609, 610, 592, 593, 594, 595, 596, 597, 598, 599, 600, 601, 602, 603, 604] rfl (by decide +kernel)
set_option maxRecDepth 20000 in
theorem gL_law_X2_layerVolume : GoodIn wsL_law (wsV RL 93 RX2 yX2_layerVolume wsX2_layerVolume) := goodIn_app (goodIn_of _ (by decide +kernel)) ggL_law_X2_layerVolume
set_option maxRecDepth 20000 in
theorem ggL_law_X3_layerVolume : GoodIn wsL_law wsX3_layerVolume := goodIn_r _ [487, 488, 489, 490, 5, 491, 87, 339, 340, 341, 145, 146, 147, 148, 149, 150, 151, 90, 95, 96, 97, 586, 587, 588, 589, 590, 591] rfl (by decide +kernel)
set_option maxRecDepth 20000 in
theorem gL_law_X3_layerVolume : GoodIn wsL_law (wsV RL 96 RX3 yX3_layerVolume wsX3_layerVolume) := goodIn_app (goodIn_of _ (by decide +kernel)) ggL_law_X3_layerVolume
set_option maxRecDepth 20000 in
theorem ggL_law_X2_layerDensity : GoodIn wsL_law wsX2_layerDensity := goodIn_r _ [495, 15, 476, 477, 478, 2, 479, 466, 113, 114, 115, 467, 251, 252, 14, 253, 36, 37, 116, 117, 118, 119, 20, 496, 497, 498, 35, 499, 43, 271, 272, 273, 274, 44, 57, 56, 75, 76, 77, 78, 581, 582, 583, 584, 585, 605, 606, 607, 608, 609, 610, 592, 593, 594, 595, 596, 597, 598, 599, 600, 601, 602, 603, 604] rfl (by decide +kernel)
set_option maxRecDepth 20000 in
theorem gL_law_X2_layerDensity : GoodIn wsL_law (wsV RL 97 RX2 yX2_layerDensity wsX2_layerDensity) := goodIn_app (goodIn_of _ (by decide +kernel)) ggL_law_X2_layerDensity
set_option maxRecDepth 20000 in
theorem ggL_law_X3_layerDensity : GoodIn wsL_law wsX3_layerDensity := goodIn_r _ [503, 488, 489, 490, 5, 491, 87, 339, 340, 341, 145, 146, 147, 148, 149, 150, 151, 90, 95, 96, 97, 586, 587, 588, 589, 590, 591] rfl (by decide +kernel)
set_option maxRecDepth 20000 in
theorem gL_law_X3_layerDensity : GoodIn wsL_law (wsV RL 100 RX3 yX3_layerDensity wsX3_layerDensity) := goodIn_app (goodIn_of _ (by decide +kernel)) ggL_law_X3_layerDensity
set_option maxRecDepth 20000 in
theorem ggL_law_X2_gain : GoodIn wsL_law wsX2_gain := goodIn_r _ [507, 15, 508, 581, 582, 583, 584, 585, 592, 593, 594, 595, 596, 597, 598, 599, 600, 601, 602, 603, 604] rfl (by decide +kernel)
set_option maxRecDepth 20000 in
theorem gL_law_X2_gain : GoodIn wsL_law (wsV RL 101 RX2 yX2_gain wsX2_gain) := goodIn_app (goodIn_of _ (by decide +kernel)) ggL_law_X2_gain
set_option maxRecDepth 20000 in
theorem ggL_law_X3_gain : GoodIn wsL_law wsX3_gain := goodIn_r _ [512, 87, 586, 587, 588, 589, 590, 591] rfl (by decide +kernel)
set_option maxRecDepth 20000 in
theorem gL_law_X3_gain : GoodIn wsL_law (wsV RL 104 RX3 yX3_gain wsX3_gain) := goodIn_app (goodIn_of _ (by decide +kernel)) ggL_law_X3_gain
set_option maxRecDepth 20000 in
theorem ggL_law_X2_breaks : GoodIn wsL_law wsX2_breaks := goodIn_r _ [516, 15, 517, 581, 582, 583, 584, 585, 592, 593, 594, 595, 596, 597, 598, 599, 600, 601, 602, 603, 604] rfl (by decide +kernel)
set_option maxRecDepth 20000 in
theorem gL_law_X2_breaks : GoodIn wsL_law (wsV RL 105 RX2 yX2_breaks wsX2_breaks) := goodIn_app (goodIn_of _ (by decide +kernel)) ggL_law_X2_breaks
set_option maxRecDepth 20000 in
theorem ggL_law_X3_breaks : GoodIn wsL_law wsX3_breaks := goodIn_r _ [521, 87, 586, 587, 588, 589, 590, 591] rfl (by decide +kernel)
set_option maxRecDepth 20000 in
theorem gL_law_X3_breaks : GoodIn wsL_law (wsV RL 108 RX3 yX3_breaks wsX3_breaks) := goodIn_app (goodIn_of _ (by decide +kernel)) ggL_law_X3_breaks
set_option maxRecDepth 20000 in
theorem ggL_law_X2_greatestShoePressure : GoodIn wsL_law wsX2_greatestShoePressure := goodIn_r _ [525, 15, 425, 581, 582, 583, 584, 585, 592, 593, 594, 595, 596, 597, 598, 599, 600, 601, 602, 603, 604] rfl (by decide +kernel)
set_option maxRecDepth 20000 in
theorem gL_law_X2_greatestShoePressure : GoodIn wsL_law (wsV RL 109 RX2 yX2_greatestShoePressure wsX2_greatestShoePressure) := goodIn_app (goodIn_of _ (by decide +kernel)) ggL_law_X2_greatestShoePressure
set_option maxRecDepth 20000 in
theorem ggL_law_X3_greatestShoePressure : GoodIn wsL_law wsX3_greatestShoePressure := goodIn_r _ [529, 87, 586, 587, 588, 589, 590, 591] rfl (by decide +kernel)
set_option maxRecDepth 20000 in
theorem gL_law_X3_greatestShoePressure : GoodIn wsL_law (wsV RL 112 RX3 yX3_greatestShoePressure wsX3_greatestShoePressure) := goodIn_app (goodIn_of _ (by decide +kernel)) ggL_law_X3_greatestShoePressure
set_option maxRecDepth 20000 in
theorem ggL_law_X2_undo : GoodIn wsL_law wsX2_undo := goodIn_r _ [533, 18, 17, 15, 116, 117, 118, 2, 119, 20, 113, 114, 115, 581, 582, 583, 584, 585] rfl (by decide +kernel)
set_option maxRecDepth 20000 in
theorem gL_law_X2_undo : GoodIn wsL_law (wsV RL 113 RX2 yX2_undo wsX2_undo) := goodIn_app (goodIn_of _ (by decide +kernel)) ggL_law_X2_undo
set_option maxRecDepth 20000 in
theorem ggL_law_X3_undo : GoodIn wsL_law wsX3_undo := goodIn_r _ [537, 156, 89, 87, 148, 149, 150, 5, 151, 90, 157, 158, 159, 586, 587, 588, 589, 590, 591] rfl (by decide +kernel)
set_option maxRecDepth 20000 in
theorem gL_law_X3_undo : GoodIn wsL_law (wsV RL 116 RX3 yX3_undo wsX3_undo) := goodIn_app (goodIn_of _ (by decide +kernel)) ggL_law_X3_undo
set_option maxRecDepth 20000 in
theorem ggL_law_X2_errorCount : GoodIn wsL_law wsX2_errorCount := goodIn_r _ [541, 20, 113, 114, 2, 115, 116, 117, 118, 119, 581, 582, 583, 584, 585] rfl (by decide +kernel)
set_option maxRecDepth 20000 in
theorem gL_law_X2_errorCount : GoodIn wsL_law (wsV RL 117 RX2 yX2_errorCount wsX2_errorCount) := goodIn_app (goodIn_of _ (by decide +kernel)) ggL_law_X2_errorCount
set_option maxRecDepth 20000 in
theorem ggL_law_X3_errorCount : GoodIn wsL_law wsX3_errorCount := goodIn_r _ [545, 90, 145, 146, 5, 147, 148, 149, 150, 151, 586, 587, 588, 589, 590, 591] rfl (by decide +kernel)
set_option maxRecDepth 20000 in
theorem gL_law_X3_errorCount : GoodIn wsL_law (wsV RL 120 RX3 yX3_errorCount wsX3_errorCount) := goodIn_app (goodIn_of _ (by decide +kernel)) ggL_law_X3_errorCount
set_option maxRecDepth 20000 in
theorem ggL_law_X2_digest : GoodIn wsL_law wsX2_digest := goodIn_r _ [549, 550, 20, 15, 551, 552, 18, 553, 554, 2, 555, 556, 557, 558, 559, 14, 560, 25, 26, 27, 28, 29, 30, 31, 32, 561, 562, 563, 35, 564, 57, 42, 43, 271, 272, 273, 274, 44, 56, 75, 76, 77, 78, 565, 566, 567, 568, 49, 50, 51, 379, 356, 357, 358, 234, 235, 224, 236, 245, 246, 247, 248, 249, 250, 251, 252, 253, 36, 37, 254, 255, 256, 257, 258, 259, 260, 261, 262, 241, 242, 243, 244, 569, 376, 377, 378, 237, 238, 239, 240, 263, 264, 265, 266, 267, 268, 269, 270, 222, 223, 225, 581, 582, 583, 584, 585, 592, 593, 594, 595, 596, 597, 598, 599, 600, 601, 602, 603, 604, 605, 606, 607, 608, 609, 610] rfl (by decide +kernel)
set_option maxRecDepth 20000 in
theorem gL_law_X2_digest : GoodIn wsL_law (wsV RL 121 RX2 yX2_digest wsX2_digest) := goodIn_app (goodIn_of _ (by decide +kernel)) ggL_law_X2_digest
set_option maxRecDepth 20000 in
theorem ggL_law_X3_digest : GoodIn wsL_law wsX3_digest := goodIn_r _ [573, 574, 575, 90, 87, 156, 576, 577, 578, 5, 579, 580, 95, 96, 97, 102, 103, 104, 308, 309, 310, 311, 312, 313, 314, 315, 316, 317, 304, 305, 306, 307, 586, 587, 588, 589, 590, 591] rfl (by decide +kernel)
set_option maxRecDepth 20000 in
theorem gL_law_X3_digest : GoodIn wsL_law (wsV RL 125 RX3 yX3_digest wsX3_digest) := goodIn_app (goodIn_of _ (by decide +kernel)) ggL_law_X3_digest
