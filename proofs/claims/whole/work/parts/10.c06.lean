/-! printed by wip/whole/gen2.py: code rows are checked -/
set_option maxRecDepth 20000 in
theorem ckX11_isText : zCb (yX11_isText, cX11_isText, 1, (some .boolean), 2, 1, 0, kX11_isText) = true := by decide +kernel
set_option maxRecDepth 20000 in
theorem ckX11_isByte : zCb (yX11_isByte, cX11_isByte, 1, (some .boolean), 2, 1, 0, kX11_isByte) = true := by decide +kernel
set_option maxRecDepth 20000 in
theorem ckX11_isDepth : zCb (yX11_isDepth, cX11_isDepth, 1, (some .boolean), 2, 1, 0, kX11_isDepth) = true := by decide +kernel
set_option maxRecDepth 20000 in
theorem ckX11_isSheet : zCb (yX11_isSheet, cX11_isSheet, 1, (some .boolean), 2, 1, 0, kX11_isSheet) = true := by decide +kernel
set_option maxRecDepth 20000 in
theorem ckX11_isForm : zCb (yX11_isForm, cX11_isForm, 1, (some .boolean), 2, 1, 0, kX11_isForm) = true := by decide +kernel
set_option maxRecDepth 20000 in
theorem ckX11_isLetter : zCb (yX11_isLetter, cX11_isLetter, 1, (some .boolean), 2, 1, 0, kX11_isLetter) = true := by decide +kernel
set_option maxRecDepth 20000 in
theorem ckX11_isFigure : zCb (yX11_isFigure, cX11_isFigure, 1, (some .boolean), 2, 1, 0, kX11_isFigure) = true := by decide +kernel
set_option maxRecDepth 20000 in
theorem ckX11_barsOf : zCb (yX11_barsOf, cX11_barsOf, 1, (some .int), 1, 1, 0, kX11_barsOf) = true := by decide +kernel
set_option maxRecDepth 20000 in
theorem ckX11_signsOf : zCb (yX11_signsOf, cX11_signsOf, 1, (some .int), 1, 1, 0, kX11_signsOf) = true := by decide +kernel
set_option maxRecDepth 20000 in
theorem ckX11_hindranceAt : zCb (yX11_hindranceAt, cX11_hindranceAt, 3, (some .int), 1, 3, 0, kX11_hindranceAt) = true := by decide +kernel
set_option maxRecDepth 20000 in
theorem ckX11_finding : zCb (yX11_finding, cX11_finding, 2, (some .int), 1, 1, 12, kX11_finding) = true := by decide +kernel
set_option maxRecDepth 20000 in
theorem ckX11_noteChange : zCb (yX11_noteChange, cX11_noteChange, 2, none, 0, 1, 12, kX11_noteChange) = true := by decide +kernel
set_option maxRecDepth 20000 in
theorem ckX11_freshRun : zCb (yX11_freshRun, cX11_freshRun, 1, (some (.object "ScoreForms$Run")), 4, 0, 12, kX11_freshRun) = true := by decide +kernel
set_option maxRecDepth 20000 in
theorem ckX11_freshScore : zCb (yX11_freshScore, cX11_freshScore, 1, (some (.object "ScoreForms$Score")), 4, 0, 12, kX11_freshScore) = true := by decide +kernel
set_option maxRecDepth 20000 in
theorem ckX11_freshSpans : zCb (yX11_freshSpans, cX11_freshSpans, 1, (some (.object "ScoreForms$Spans")), 4, 0, 12, kX11_freshSpans) = true := by decide +kernel
set_option maxRecDepth 20000 in
theorem ckX11_freshFound : zCb (yX11_freshFound, cX11_freshFound, 2, (some (.object "ScoreForms$Jumps")), 4, 0, 12, kX11_freshFound) = true := by decide +kernel
set_option maxRecDepth 20000 in
theorem ckX11_freshMending : zCb (yX11_freshMending, cX11_freshMending, 1, (some (.object "ScoreForms$Mending")), 4, 0, 12, kX11_freshMending) = true := by decide +kernel
set_option maxRecDepth 20000 in
theorem ckX12_in : zCb (yX12_in, cX12_in, 6, (some .boolean), 2, 3, 0, kX12_in) = true := by decide +kernel
set_option maxRecDepth 20000 in
theorem ckX12_isTwo : zCb (yX12_isTwo, cX12_isTwo, 1, (some .boolean), 2, 1, 0, kX12_isTwo) = true := by decide +kernel
set_option maxRecDepth 20000 in
theorem ckX12_lesser : zCb (yX12_lesser, cX12_lesser, 2, (some .int), 1, 2, 0, kX12_lesser) = true := by decide +kernel
set_option maxRecDepth 20000 in
theorem ckX12_greater : zCb (yX12_greater, cX12_greater, 2, (some .int), 1, 2, 0, kX12_greater) = true := by decide +kernel
set_option maxRecDepth 20000 in
theorem ckX12_finds : zCb (yX12_finds, cX12_finds, 2, (some .int), 1, 1, 13, kX12_finds) = true := by decide +kernel
set_option maxRecDepth 20000 in
theorem ckX12_isSheet : zCb (yX12_isSheet, cX12_isSheet, 1, (some .boolean), 2, 1, 0, kX12_isSheet) = true := by decide +kernel
set_option maxRecDepth 20000 in
theorem ckX12_sheet : zCb (yX12_sheet, cX12_sheet, 5, (some .int), 1, 3, 13, kX12_sheet) = true := by decide +kernel
set_option maxRecDepth 20000 in
theorem ckX12_lose : zCb (yX12_lose, cX12_lose, 2, (some .int), 1, 1, 13, kX12_lose) = true := by decide +kernel
set_option maxRecDepth 20000 in
theorem ckX12_lacks : zCb (yX12_lacks, cX12_lacks, 4, (some .int), 1, 3, 13, kX12_lacks) = true := by decide +kernel
set_option maxRecDepth 20000 in
theorem ckX12_cut : zCb (yX12_cut, cX12_cut, 2, (some .int), 1, 2, 0, kX12_cut) = true := by decide +kernel
set_option maxRecDepth 20000 in
theorem ckX12_lay : zCb (yX12_lay, cX12_lay, 6, (some .int), 1, 4, 13, kX12_lay) = true := by decide +kernel
set_option maxRecDepth 20000 in
theorem ckX12_get : zCb (yX12_get, cX12_get, 4, (some .int), 1, 3, 13, kX12_get) = true := by decide +kernel
set_option maxRecDepth 20000 in
theorem ckX12_copy : zCb (yX12_copy, cX12_copy, 7, (some .int), 1, 5, 13, kX12_copy) = true := by decide +kernel
