/-! printed by wip/whole/gen2.py: code rows are checked -/
set_option maxRecDepth 20000 in
theorem ckX4_obey : zCb (yX4_obey, cX4_obey, 4, none, 0, 1, 5, kX4_obey) = true := by decide +kernel
set_option maxRecDepth 20000 in
theorem ckX4_openRepeat : zCb (yX4_openRepeat, cX4_openRepeat, 1, none, 0, 0, 5, kX4_openRepeat) = true := by decide +kernel
set_option maxRecDepth 20000 in
theorem ckX4_playOnceMore : zCb (yX4_playOnceMore, cX4_playOnceMore, 3, none, 0, 2, 5, kX4_playOnceMore) = true := by decide +kernel
set_option maxRecDepth 20000 in
theorem ckX5_print : zCb (yX5_print, cX5_print, 7, none, 0, 3, 6, kX5_print) = true := by decide +kernel
set_option maxRecDepth 20000 in
theorem ckX5_printSpan : zCb (yX5_printSpan, cX5_printSpan, 7, none, 0, 5, 6, kX5_printSpan) = true := by decide +kernel
set_option maxRecDepth 20000 in
theorem ckX5_printEndings : zCb (yX5_printEndings, cX5_printEndings, 10, none, 0, 5, 6, kX5_printEndings) = true := by decide +kernel
set_option maxRecDepth 20000 in
theorem ckX5_printBar : zCb (yX5_printBar, cX5_printBar, 3, none, 0, 2, 6, kX5_printBar) = true := by decide +kernel
set_option maxRecDepth 20000 in
theorem ckX5_put : zCb (yX5_put, cX5_put, 2, none, 0, 1, 6, kX5_put) = true := by decide +kernel
set_option maxRecDepth 20000 in
theorem ckX6_take : zCb (yX6_take, cX6_take, 5, none, 0, 1, 7, kX6_take) = true := by decide +kernel
set_option maxRecDepth 20000 in
theorem ckX6_giveNumbers : zCb (yX6_giveNumbers, cX6_giveNumbers, 3, none, 0, 0, 7, kX6_giveNumbers) = true := by decide +kernel
