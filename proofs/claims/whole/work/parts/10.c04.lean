/-! printed by wip/whole/gen2.py: code rows are checked -/
set_option maxRecDepth 20000 in
theorem ckX9_mayRepeat : zCb (yX9_mayRepeat, cX9_mayRepeat, 5, (some .boolean), 2, 3, 10, kX9_mayRepeat) = true := by decide +kernel
set_option maxRecDepth 20000 in
theorem ckX9_cheapest : zCb (yX9_cheapest, cX9_cheapest, 8, (some .int), 1, 3, 10, kX9_cheapest) = true := by decide +kernel
set_option maxRecDepth 20000 in
theorem ckX9_cheapestEndings : zCb (yX9_cheapestEndings, cX9_cheapestEndings, 10, (some .int), 1, 3, 10, kX9_cheapestEndings) = true := by decide +kernel
set_option maxRecDepth 20000 in
theorem ckX9_endingsCost : zCb (yX9_endingsCost, cX9_endingsCost, 7, (some .int), 1, 5, 10, kX9_endingsCost) = true := by decide +kernel
set_option maxRecDepth 20000 in
theorem ckX10_isFull : zCb (yX10_isFull, cX10_isFull, 1, (some .boolean), 2, 0, 11, kX10_isFull) = true := by decide +kernel
set_option maxRecDepth 20000 in
theorem ckX10_add : zCb (yX10_add, cX10_add, 2, none, 0, 1, 11, kX10_add) = true := by decide +kernel
set_option maxRecDepth 20000 in
theorem ckX11_type : zCb (yX11_type, cX11_type, 3, (some .int), 1, 2, 12, kX11_type) = true := by decide +kernel
set_option maxRecDepth 20000 in
theorem ckX11_wipe : zCb (yX11_wipe, cX11_wipe, 3, (some .int), 1, 1, 12, kX11_wipe) = true := by decide +kernel
set_option maxRecDepth 20000 in
theorem ckX11_undo : zCb (yX11_undo, cX11_undo, 2, (some .int), 1, 1, 12, kX11_undo) = true := by decide +kernel
set_option maxRecDepth 20000 in
theorem ckX11_read : zCb (yX11_read, cX11_read, 6, (some .int), 1, 2, 12, kX11_read) = true := by decide +kernel
set_option maxRecDepth 20000 in
theorem ckX11_depth : zCb (yX11_depth, cX11_depth, 3, (some .int), 1, 1, 12, kX11_depth) = true := by decide +kernel
set_option maxRecDepth 20000 in
theorem ckX11_fault : zCb (yX11_fault, cX11_fault, 4, (some .int), 1, 2, 12, kX11_fault) = true := by decide +kernel
set_option maxRecDepth 20000 in
theorem ckX11_within : zCb (yX11_within, cX11_within, 3, (some .int), 1, 1, 12, kX11_within) = true := by decide +kernel
set_option maxRecDepth 20000 in
theorem ckX11_bar : zCb (yX11_bar, cX11_bar, 3, (some .int), 1, 1, 12, kX11_bar) = true := by decide +kernel
set_option maxRecDepth 20000 in
theorem ckX11_alike : zCb (yX11_alike, cX11_alike, 3, (some .int), 1, 2, 12, kX11_alike) = true := by decide +kernel
set_option maxRecDepth 20000 in
theorem ckX11_again : zCb (yX11_again, cX11_again, 4, (some .int), 1, 2, 12, kX11_again) = true := by decide +kernel
