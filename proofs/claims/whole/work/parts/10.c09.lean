/-! printed by wip/whole/gen2.py: code rows are checked -/
set_option maxRecDepth 20000 in
theorem ckX12_again : zCb (yX12_again, cX12_again, 3, (some .int), 1, 2, 13, kX12_again) = true := by decide +kernel
set_option maxRecDepth 20000 in
theorem ckX12_after : zCb (yX12_after, cX12_after, 6, (some .int), 1, 2, 13, kX12_after) = true := by decide +kernel
set_option maxRecDepth 20000 in
theorem ckX12_playing : zCb (yX12_playing, cX12_playing, 7, none, 0, 2, 13, kX12_playing) = true := by decide +kernel
set_option maxRecDepth 20000 in
theorem ckX12_playsAll : zCb (yX12_playsAll, cX12_playsAll, 1, none, 0, 0, 13, kX12_playsAll) = true := by decide +kernel
set_option maxRecDepth 20000 in
theorem ckX12_playsBy : zCb (yX12_playsBy, cX12_playsBy, 2, (some .int), 1, 1, 13, kX12_playsBy) = true := by decide +kernel
set_option maxRecDepth 20000 in
theorem ckX12_plays : zCb (yX12_plays, cX12_plays, 2, (some .int), 1, 1, 13, kX12_plays) = true := by decide +kernel
set_option maxRecDepth 20000 in
theorem ckX12_oftenBy : zCb (yX12_oftenBy, cX12_oftenBy, 4, (some .int), 1, 1, 13, kX12_oftenBy) = true := by decide +kernel
set_option maxRecDepth 20000 in
theorem ckX12_often : zCb (yX12_often, cX12_often, 2, (some .int), 1, 1, 13, kX12_often) = true := by decide +kernel
set_option maxRecDepth 20000 in
theorem ckX12_scoreBy : zCb (yX12_scoreBy, cX12_scoreBy, 2, (some .int), 1, 1, 13, kX12_scoreBy) = true := by decide +kernel
set_option maxRecDepth 20000 in
theorem ckX12_score : zCb (yX12_score, cX12_score, 2, (some .int), 1, 1, 13, kX12_score) = true := by decide +kernel
set_option maxRecDepth 20000 in
theorem ckX12_firstNow : zCb (yX12_firstNow, cX12_firstNow, 2, (some .int), 1, 0, 13, kX12_firstNow) = true := by decide +kernel
set_option maxRecDepth 20000 in
theorem ckX12_same : zCb (yX12_same, cX12_same, 1, (some .int), 1, 0, 13, kX12_same) = true := by decide +kernel
set_option maxRecDepth 20000 in
theorem ckX12_first : zCb (yX12_first, cX12_first, 1, (some .int), 1, 0, 13, kX12_first) = true := by decide +kernel
set_option maxRecDepth 20000 in
theorem ckX12_offers : zCb (yX12_offers, cX12_offers, 4, none, 0, 3, 13, kX12_offers) = true := by decide +kernel
set_option maxRecDepth 20000 in
theorem ckX12_spans : zCb (yX12_spans, cX12_spans, 12, none, 0, 3, 13, kX12_spans) = true := by decide +kernel
