/-! printed by wip/whole/gen2.py: code rows are checked -/
set_option maxRecDepth 20000 in
theorem ckX11_plays : zCb (yX11_plays, cX11_plays, 3, (some .int), 1, 1, 12, kX11_plays) = true := by decide +kernel
set_option maxRecDepth 20000 in
theorem ckX11_often : zCb (yX11_often, cX11_often, 5, (some .int), 1, 1, 12, kX11_often) = true := by decide +kernel
set_option maxRecDepth 20000 in
theorem ckX11_score : zCb (yX11_score, cX11_score, 3, (some .int), 1, 1, 12, kX11_score) = true := by decide +kernel
set_option maxRecDepth 20000 in
theorem ckX11_same : zCb (yX11_same, cX11_same, 1, (some .int), 1, 0, 12, kX11_same) = true := by decide +kernel
set_option maxRecDepth 20000 in
theorem ckX11_first : zCb (yX11_first, cX11_first, 5, (some .int), 1, 0, 12, kX11_first) = true := by decide +kernel
set_option maxRecDepth 20000 in
theorem ckX11_span : zCb (yX11_span, cX11_span, 7, (some .int), 1, 4, 12, kX11_span) = true := by decide +kernel
set_option maxRecDepth 20000 in
theorem ckX11_found : zCb (yX11_found, cX11_found, 3, (some .int), 1, 1, 12, kX11_found) = true := by decide +kernel
set_option maxRecDepth 20000 in
theorem ckX11_shown : zCb (yX11_shown, cX11_shown, 2, (some .int), 1, 1, 12, kX11_shown) = true := by decide +kernel
set_option maxRecDepth 20000 in
theorem ckX11_mend : zCb (yX11_mend, cX11_mend, 3, (some .int), 1, 1, 12, kX11_mend) = true := by decide +kernel
set_option maxRecDepth 20000 in
theorem ckX11_sheet : zCb (yX11_sheet, cX11_sheet, 4, (some .int), 1, 3, 12, kX11_sheet) = true := by decide +kernel
set_option maxRecDepth 20000 in
theorem ckX11_lose : zCb (yX11_lose, cX11_lose, 2, (some .int), 1, 1, 12, kX11_lose) = true := by decide +kernel
set_option maxRecDepth 20000 in
theorem ckX11_lay : zCb (yX11_lay, cX11_lay, 6, (some .int), 1, 4, 12, kX11_lay) = true := by decide +kernel
set_option maxRecDepth 20000 in
theorem ckX11_get : zCb (yX11_get, cX11_get, 5, (some .int), 1, 3, 12, kX11_get) = true := by decide +kernel
set_option maxRecDepth 20000 in
theorem ckX11_copy : zCb (yX11_copy, cX11_copy, 8, (some .int), 1, 5, 12, kX11_copy) = true := by decide +kernel
set_option maxRecDepth 20000 in
theorem ckX11_write : zCb (yX11_write, cX11_write, 4, (some .int), 1, 1, 12, kX11_write) = true := by decide +kernel
set_option maxRecDepth 20000 in
theorem ckX11_count : zCb (yX11_count, cX11_count, 2, (some .int), 1, 1, 12, kX11_count) = true := by decide +kernel
set_option maxRecDepth 20000 in
theorem ckX11_digest : zCb (yX11_digest, cX11_digest, 6, (some .long), 3, 0, 12, kX11_digest) = true := by decide +kernel
