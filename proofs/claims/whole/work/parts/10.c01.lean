/-! printed by wip/whole/gen2.py: code rows are checked -/
set_option maxRecDepth 20000 in
theorem ckX0_addLetter : zCb (yX0_addLetter, cX0_addLetter, 2, none, 0, 1, 1, kX0_addLetter) = true := by decide +kernel
set_option maxRecDepth 20000 in
theorem ckX0_addFigure : zCb (yX0_addFigure, cX0_addFigure, 2, none, 0, 1, 1, kX0_addFigure) = true := by decide +kernel
set_option maxRecDepth 20000 in
theorem ckX1_restart : zCb (yX1_restart, cX1_restart, 1, none, 0, 0, 2, kX1_restart) = true := by decide +kernel
set_option maxRecDepth 20000 in
theorem ckX1_reasonAgainst : zCb (yX1_reasonAgainst, cX1_reasonAgainst, 2, (some .int), 1, 1, 2, kX1_reasonAgainst) = true := by decide +kernel
set_option maxRecDepth 20000 in
theorem ckX1_isSign : zCb (yX1_isSign, cX1_isSign, 1, (some .boolean), 2, 1, 0, kX1_isSign) = true := by decide +kernel
set_option maxRecDepth 20000 in
theorem ckX1_fitsBehindPart : zCb (yX1_fitsBehindPart, cX1_fitsBehindPart, 3, (some .boolean), 2, 1, 2, kX1_fitsBehindPart) = true := by decide +kernel
set_option maxRecDepth 20000 in
theorem ckX1_accept : zCb (yX1_accept, cX1_accept, 3, none, 0, 2, 2, kX1_accept) = true := by decide +kernel
set_option maxRecDepth 20000 in
theorem ckX1_mayEnd : zCb (yX1_mayEnd, cX1_mayEnd, 1, (some .boolean), 2, 0, 2, kX1_mayEnd) = true := by decide +kernel
set_option maxRecDepth 20000 in
theorem ckX2_seek : zCb (yX2_seek, cX2_seek, 6, none, 0, 2, 3, kX2_seek) = true := by decide +kernel
set_option maxRecDepth 20000 in
theorem ckX2_seekFromSign : zCb (yX2_seekFromSign, cX2_seekFromSign, 7, none, 0, 3, 3, kX2_seekFromSign) = true := by decide +kernel
set_option maxRecDepth 20000 in
theorem ckX2_offer : zCb (yX2_offer, cX2_offer, 5, none, 0, 4, 3, kX2_offer) = true := by decide +kernel
set_option maxRecDepth 20000 in
theorem ckX3_seek : zCb (yX3_seek, cX3_seek, 5, none, 0, 3, 4, kX3_seek) = true := by decide +kernel
set_option maxRecDepth 20000 in
theorem ckX4_restart : zCb (yX4_restart, cX4_restart, 1, none, 0, 0, 5, kX4_restart) = true := by decide +kernel
set_option maxRecDepth 20000 in
theorem ckX4_playBar : zCb (yX4_playBar, cX4_playBar, 2, none, 0, 1, 5, kX4_playBar) = true := by decide +kernel
