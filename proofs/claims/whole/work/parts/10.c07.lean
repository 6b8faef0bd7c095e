/-! printed by wip/whole/gen2.py: code rows are checked -/
set_option maxRecDepth 20000 in
theorem ckX12_type : zCb (yX12_type, cX12_type, 3, (some .int), 1, 2, 13, kX12_type) = true := by decide +kernel
set_option maxRecDepth 20000 in
theorem ckX12_wipe : zCb (yX12_wipe, cX12_wipe, 3, (some .int), 1, 1, 13, kX12_wipe) = true := by decide +kernel
set_option maxRecDepth 20000 in
theorem ckX12_undo : zCb (yX12_undo, cX12_undo, 2, (some .int), 1, 1, 13, kX12_undo) = true := by decide +kernel
set_option maxRecDepth 20000 in
theorem ckX12_read : zCb (yX12_read, cX12_read, 4, (some .int), 1, 2, 13, kX12_read) = true := by decide +kernel
set_option maxRecDepth 20000 in
theorem ckX12_depth : zCb (yX12_depth, cX12_depth, 3, (some .int), 1, 1, 13, kX12_depth) = true := by decide +kernel
set_option maxRecDepth 20000 in
theorem ckX12_isLetter : zCb (yX12_isLetter, cX12_isLetter, 1, (some .boolean), 2, 1, 0, kX12_isLetter) = true := by decide +kernel
set_option maxRecDepth 20000 in
theorem ckX12_isFigure : zCb (yX12_isFigure, cX12_isFigure, 1, (some .boolean), 2, 1, 0, kX12_isFigure) = true := by decide +kernel
set_option maxRecDepth 20000 in
theorem ckX12_readsRun : zCb (yX12_readsRun, cX12_readsRun, 4, (some .int), 1, 0, 13, kX12_readsRun) = true := by decide +kernel
set_option maxRecDepth 20000 in
theorem ckX12_numbers : zCb (yX12_numbers, cX12_numbers, 3, none, 0, 0, 13, kX12_numbers) = true := by decide +kernel
set_option maxRecDepth 20000 in
theorem ckX12_isSign : zCb (yX12_isSign, cX12_isSign, 1, (some .boolean), 2, 1, 0, kX12_isSign) = true := by decide +kernel
set_option maxRecDepth 20000 in
theorem ckX12_isOpen : zCb (yX12_isOpen, cX12_isOpen, 2, (some .boolean), 2, 1, 13, kX12_isOpen) = true := by decide +kernel
set_option maxRecDepth 20000 in
theorem ckX12_closes : zCb (yX12_closes, cX12_closes, 2, (some .boolean), 2, 1, 13, kX12_closes) = true := by decide +kernel
set_option maxRecDepth 20000 in
theorem ckX12_goesOn : zCb (yX12_goesOn, cX12_goesOn, 3, (some .boolean), 2, 2, 13, kX12_goesOn) = true := by decide +kernel
set_option maxRecDepth 20000 in
theorem ckX12_marks : zCb (yX12_marks, cX12_marks, 4, (some .boolean), 2, 2, 13, kX12_marks) = true := by decide +kernel
set_option maxRecDepth 20000 in
theorem ckX12_signed : zCb (yX12_signed, cX12_signed, 3, (some .boolean), 2, 2, 13, kX12_signed) = true := by decide +kernel
set_option maxRecDepth 20000 in
theorem ckX12_opensOne : zCb (yX12_opensOne, cX12_opensOne, 2, none, 0, 1, 13, kX12_opensOne) = true := by decide +kernel
