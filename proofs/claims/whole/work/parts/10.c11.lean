/-! printed by wip/whole/gen2.py: code rows are checked -/
set_option maxRecDepth 20000 in
theorem ckX12_foundBy : zCb (yX12_foundBy, cX12_foundBy, 2, (some .int), 1, 1, 13, kX12_foundBy) = true := by decide +kernel
set_option maxRecDepth 20000 in
theorem ckX12_found : zCb (yX12_found, cX12_found, 2, (some .int), 1, 1, 13, kX12_found) = true := by decide +kernel
set_option maxRecDepth 20000 in
theorem ckX12_shownBy : zCb (yX12_shownBy, cX12_shownBy, 2, (some .int), 1, 1, 13, kX12_shownBy) = true := by decide +kernel
set_option maxRecDepth 20000 in
theorem ckX12_shown : zCb (yX12_shown, cX12_shown, 2, (some .int), 1, 1, 13, kX12_shown) = true := by decide +kernel
set_option maxRecDepth 20000 in
theorem ckX12_mends : zCb (yX12_mends, cX12_mends, 2, none, 0, 0, 13, kX12_mends) = true := by decide +kernel
set_option maxRecDepth 20000 in
theorem ckX12_mendBy : zCb (yX12_mendBy, cX12_mendBy, 2, (some .int), 1, 1, 13, kX12_mendBy) = true := by decide +kernel
set_option maxRecDepth 20000 in
theorem ckX12_mend : zCb (yX12_mend, cX12_mend, 2, (some .int), 1, 1, 13, kX12_mend) = true := by decide +kernel
set_option maxRecDepth 20000 in
theorem ckX12_write : zCb (yX12_write, cX12_write, 4, (some .int), 1, 1, 13, kX12_write) = true := by decide +kernel
set_option maxRecDepth 20000 in
theorem ckX12_count : zCb (yX12_count, cX12_count, 2, (some .int), 1, 1, 13, kX12_count) = true := by decide +kernel
set_option maxRecDepth 20000 in
theorem ckX12_tellsBarOf : zCb (yX12_tellsBarOf, cX12_tellsBarOf, 6, (some .long), 3, 2, 13, kX12_tellsBarOf) = true := by decide +kernel
set_option maxRecDepth 20000 in
theorem ckX12_digest : zCb (yX12_digest, cX12_digest, 4, (some .long), 3, 0, 13, kX12_digest) = true := by decide +kernel
