/-! printed by wip/whole/gen2.py: code rows are checked -/
set_option maxRecDepth 20000 in
theorem ckX12_fails : zCb (yX12_fails, cX12_fails, 3, none, 0, 2, 13, kX12_fails) = true := by decide +kernel
set_option maxRecDepth 20000 in
theorem ckX12_takes : zCb (yX12_takes, cX12_takes, 6, (some .int), 1, 2, 13, kX12_takes) = true := by decide +kernel
set_option maxRecDepth 20000 in
theorem ckX12_readsScore : zCb (yX12_readsScore, cX12_readsScore, 6, none, 0, 0, 13, kX12_readsScore) = true := by decide +kernel
set_option maxRecDepth 20000 in
theorem ckX12_look : zCb (yX12_look, cX12_look, 1, none, 0, 0, 13, kX12_look) = true := by decide +kernel
set_option maxRecDepth 20000 in
theorem ckX12_faultBy : zCb (yX12_faultBy, cX12_faultBy, 4, (some .int), 1, 2, 13, kX12_faultBy) = true := by decide +kernel
set_option maxRecDepth 20000 in
theorem ckX12_fault : zCb (yX12_fault, cX12_fault, 3, (some .int), 1, 2, 13, kX12_fault) = true := by decide +kernel
set_option maxRecDepth 20000 in
theorem ckX12_withinBy : zCb (yX12_withinBy, cX12_withinBy, 2, (some .int), 1, 1, 13, kX12_withinBy) = true := by decide +kernel
set_option maxRecDepth 20000 in
theorem ckX12_within : zCb (yX12_within, cX12_within, 2, (some .int), 1, 1, 13, kX12_within) = true := by decide +kernel
set_option maxRecDepth 20000 in
theorem ckX12_orders : zCb (yX12_orders, cX12_orders, 5, none, 0, 1, 13, kX12_orders) = true := by decide +kernel
set_option maxRecDepth 20000 in
theorem ckX12_find : zCb (yX12_find, cX12_find, 1, none, 0, 0, 13, kX12_find) = true := by decide +kernel
set_option maxRecDepth 20000 in
theorem ckX12_isBar : zCb (yX12_isBar, cX12_isBar, 2, (some .boolean), 2, 1, 13, kX12_isBar) = true := by decide +kernel
set_option maxRecDepth 20000 in
theorem ckX12_bar : zCb (yX12_bar, cX12_bar, 2, (some .int), 1, 1, 13, kX12_bar) = true := by decide +kernel
set_option maxRecDepth 20000 in
theorem ckX12_alike : zCb (yX12_alike, cX12_alike, 3, (some .int), 1, 2, 13, kX12_alike) = true := by decide +kernel
set_option maxRecDepth 20000 in
theorem ckX12_againBy : zCb (yX12_againBy, cX12_againBy, 4, (some .int), 1, 2, 13, kX12_againBy) = true := by decide +kernel
set_option maxRecDepth 20000 in
theorem ckX12_isPlace : zCb (yX12_isPlace, cX12_isPlace, 2, (some .boolean), 2, 1, 13, kX12_isPlace) = true := by decide +kernel
