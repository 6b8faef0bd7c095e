/-! printed by wip/whole/gen2.py: code rows are checked -/
set_option maxRecDepth 20000 in
theorem ckX12_tables : zCb (yX12_tables, cX12_tables, 4, none, 0, 0, 13, kX12_tables) = true := by decide +kernel
set_option maxRecDepth 20000 in
theorem ckX12_spanBy : zCb (yX12_spanBy, cX12_spanBy, 6, (some .int), 1, 4, 13, kX12_spanBy) = true := by decide +kernel
set_option maxRecDepth 20000 in
theorem ckX12_span : zCb (yX12_span, cX12_span, 5, (some .int), 1, 4, 13, kX12_span) = true := by decide +kernel
set_option maxRecDepth 20000 in
theorem ckX12_offersFound : zCb (yX12_offersFound, cX12_offersFound, 5, none, 0, 4, 13, kX12_offersFound) = true := by decide +kernel
set_option maxRecDepth 20000 in
theorem ckX12_costOf : zCb (yX12_costOf, cX12_costOf, 3, (some .int), 1, 2, 13, kX12_costOf) = true := by decide +kernel
set_option maxRecDepth 20000 in
theorem ckX12_finding : zCb (yX12_finding, cX12_finding, 4, none, 0, 0, 13, kX12_finding) = true := by decide +kernel
set_option maxRecDepth 20000 in
theorem ckX12_later : zCb (yX12_later, cX12_later, 2, none, 0, 1, 13, kX12_later) = true := by decide +kernel
set_option maxRecDepth 20000 in
theorem ckX12_laterSpan : zCb (yX12_laterSpan, cX12_laterSpan, 4, none, 0, 3, 13, kX12_laterSpan) = true := by decide +kernel
set_option maxRecDepth 20000 in
theorem ckX12_tellsByte : zCb (yX12_tellsByte, cX12_tellsByte, 2, none, 0, 1, 13, kX12_tellsByte) = true := by decide +kernel
set_option maxRecDepth 20000 in
theorem ckX12_tellsBar : zCb (yX12_tellsBar, cX12_tellsBar, 3, none, 0, 1, 13, kX12_tellsBar) = true := by decide +kernel
set_option maxRecDepth 20000 in
theorem ckX12_opensSpan : zCb (yX12_opensSpan, cX12_opensSpan, 8, none, 0, 1, 13, kX12_opensSpan) = true := by decide +kernel
set_option maxRecDepth 20000 in
theorem ckX12_shows : zCb (yX12_shows, cX12_shows, 5, none, 0, 0, 13, kX12_shows) = true := by decide +kernel
set_option maxRecDepth 20000 in
theorem ckX12_findAll : zCb (yX12_findAll, cX12_findAll, 1, none, 0, 0, 13, kX12_findAll) = true := by decide +kernel
