/-! printed by wip/whole/gen2.py: code rows are checked -/
set_option maxRecDepth 20000 in
theorem ckX7_take : zCb (yX7_take, cX7_take, 4, none, 0, 1, 8, kX7_take) = true := by decide +kernel
set_option maxRecDepth 20000 in
theorem ckX7_playedCode : zCb (yX7_playedCode, cX7_playedCode, 3, (some .int), 1, 1, 8, kX7_playedCode) = true := by decide +kernel
set_option maxRecDepth 20000 in
theorem ckX7_becomeEmpty : zCb (yX7_becomeEmpty, cX7_becomeEmpty, 1, none, 0, 0, 8, kX7_becomeEmpty) = true := by decide +kernel
set_option maxRecDepth 20000 in
theorem ckX7_blame : zCb (yX7_blame, cX7_blame, 3, none, 0, 2, 8, kX7_blame) = true := by decide +kernel
set_option maxRecDepth 20000 in
theorem ckX7_accept : zCb (yX7_accept, cX7_accept, 3, none, 0, 2, 8, kX7_accept) = true := by decide +kernel
set_option maxRecDepth 20000 in
theorem ckX8_renew : zCb (yX8_renew, cX8_renew, 4, none, 0, 2, 9, kX8_renew) = true := by decide +kernel
set_option maxRecDepth 20000 in
theorem ckX8_holds : zCb (yX8_holds, cX8_holds, 3, (some .boolean), 2, 2, 9, kX8_holds) = true := by decide +kernel
set_option maxRecDepth 20000 in
theorem ckX8_put : zCb (yX8_put, cX8_put, 3, none, 0, 2, 9, kX8_put) = true := by decide +kernel
set_option maxRecDepth 20000 in
theorem ckX9_take : zCb (yX9_take, cX9_take, 6, none, 0, 2, 10, kX9_take) = true := by decide +kernel
set_option maxRecDepth 20000 in
theorem ckX9_settle : zCb (yX9_settle, cX9_settle, 11, none, 0, 3, 10, kX9_settle) = true := by decide +kernel
set_option maxRecDepth 20000 in
theorem ckX9_has : zCb (yX9_has, cX9_has, 2, (some .boolean), 2, 1, 10, kX9_has) = true := by decide +kernel
set_option maxRecDepth 20000 in
theorem ckX9_alikeFrom : zCb (yX9_alikeFrom, cX9_alikeFrom, 3, (some .int), 1, 2, 10, kX9_alikeFrom) = true := by decide +kernel
set_option maxRecDepth 20000 in
theorem ckX9_cost : zCb (yX9_cost, cX9_cost, 4, (some .int), 1, 3, 10, kX9_cost) = true := by decide +kernel
set_option maxRecDepth 20000 in
theorem ckX9_cut : zCb (yX9_cut, cX9_cut, 6, (some .int), 1, 3, 10, kX9_cut) = true := by decide +kernel
set_option maxRecDepth 20000 in
theorem ckX9_isRepeat : zCb (yX9_isRepeat, cX9_isRepeat, 5, (some .boolean), 2, 3, 10, kX9_isRepeat) = true := by decide +kernel
set_option maxRecDepth 20000 in
theorem ckX9_endings : zCb (yX9_endings, cX9_endings, 8, (some .int), 1, 3, 10, kX9_endings) = true := by decide +kernel
