theorem lw_lc (x : Int64) : lg_cmp x x = 0 := by simp [lg_cmp]
section lawcases
variable {p : Program} {l : Launch} {e : Env} {s : State} {m : MethodId} {below : List Frame} {meth : Method} {c : Code} {b L : Nat} {xs : Nat → Int32} {D : va_G} {adC adM : Nat → Nat} {cAC cAM : Nat → ClassId} {SC SM : zS} {H : Heap} {locs : List Loc} {cells slots i : Nat} {ls : Array Slot} {Z : State → Prop}
theorem lw_in {i L : Nat} (v : Nat) (hi : i + 6 ≤ L) (hL : L ≤ 3072) (hv : v < 6 := by decide) : vp_in (nI i + nI v) L := by
  rw [nI_add]; exact vp_in_nI (by omega) (by omega)
set_option maxHeartbeats 1000000 in
set_option maxRecDepth 100000 in
theorem lw_case_0 (C0 : lw_At p s m meth c b L xs) (hB : lw_B D s adC adM cAC cAM) (hV : lw_V D adC adM cAC cAM SC SM H) (hS : va_S (fun q : Nat => s.heap.size ≤ q) s.heap H locs) (hR : RR SC SM) (hL : L ≤ 3072) (hi : i + 6 ≤ L) (hf : cells ≤ 600000 ∧ slots ≤ 7302250) (hl : lv_has ls 4 [(0, .ref b), (1, .ref (adC 0)), (2, .ref (adM 0)), (3, .int (nI i))]) (kk : ∀ (SC SM : zS) (H : Heap) (locs : List Loc), RR SC SM → lw_V D adC adM cAC cAM SC SM H → va_S (fun q : Nat => s.heap.size ≤ q) s.heap H locs → W p l e room_1 s m #[Value.ref b] below meth c H locs cells slots Z (F0 m 938 ls [])) : W p l e room_1 s m #[Value.ref b] below meth c H locs cells slots Z (F0 m 156 ls []) := by
  obtain ⟨hx, hb, hr, hml, hown, hts, hX, hbl, hlocks, hgv⟩ := id C0
  obtain ⟨bb, nn, dd, h⟩ := hR
  refine lv_aload_n hx hb dL_law_156 rfl (lv_at hl 1 rfl) ?_
  refine lv_aload_n hx hb dL_law_157 rfl (lv_at hl 0 rfl) ?_
  refine lv_iload_n hx hb dL_law_158 rfl (lv_at hl 3 rfl) ?_
  refine lv_iconst (v := 1) hx hb dL_law_159 (by decide) ?_
  refine lv_iadd hx hb dL_law_160 ?_
  refine va_sld (A := fun q : Nat => s.heap.size ≤ q) hx hb hX hbl (Nat.not_le.mpr hbl) hS (lw_in 1 hi hL) dL_law_161 ?_
  refine lv_aload_n hx hb dL_law_162 rfl (lv_at hl 0 rfl) ?_
  refine lv_iload_n hx hb dL_law_163 rfl (lv_at hl 3 rfl) ?_
  refine lv_iconst (v := 2) hx hb dL_law_164 (by decide) ?_
  refine lv_iadd hx hb dL_law_165 ?_
  refine va_sld (A := fun q : Nat => s.heap.size ≤ q) hx hb hX hbl (Nat.not_le.mpr hbl) hS (lw_in 2 hi hL) dL_law_166 ?_
  refine lw_ciC C0 hB hV hS (μ := mX11_type) (as := [.int (xs (nI i + 1).toNatClampNeg), .int (xs (nI i + 2).toNatClampNeg)]) (rest := []) rfl (o_type h _ _) rfl rfl rfl (by decide +kernel : Cond.methodLink R_law 13 yX11_type ∈ lw_tbl) rfl (Nat.le_of_ble_eq_true rfl) (lv_room (Nat.le_of_ble_eq_true rfl)) hl.1 hf dL_law_167 (fun r1 S1 H locs hz hV hS => ?_)
  refine lv_aload_n hx hb dL_law_170 rfl (lv_at hl 2 rfl) ?_
  refine lv_aload_n hx hb dL_law_171 rfl (lv_at hl 0 rfl) ?_
  refine lv_iload_n hx hb dL_law_172 rfl (lv_at hl 3 rfl) ?_
  refine lv_iconst (v := 1) hx hb dL_law_173 (by decide) ?_
  refine lv_iadd hx hb dL_law_174 ?_
  refine va_sld (A := fun q : Nat => s.heap.size ≤ q) hx hb hX hbl (Nat.not_le.mpr hbl) hS (lw_in 1 hi hL) dL_law_175 ?_
  refine lv_aload_n hx hb dL_law_176 rfl (lv_at hl 0 rfl) ?_
  refine lv_iload_n hx hb dL_law_177 rfl (lv_at hl 3 rfl) ?_
  refine lv_iconst (v := 2) hx hb dL_law_178 (by decide) ?_
  refine lv_iadd hx hb dL_law_179 ?_
  refine va_sld (A := fun q : Nat => s.heap.size ≤ q) hx hb hX hbl (Nat.not_le.mpr hbl) hS (lw_in 2 hi hL) dL_law_180 ?_
  refine lw_ciM C0 hB hV hS (μ := mX12_type) (as := [.int (xs (nI i + 1).toNatClampNeg), .int (xs (nI i + 2).toNatClampNeg)]) (rest := [.int r1]) rfl hz rfl rfl rfl (by decide +kernel : Cond.methodLink R_law 17 yX12_type ∈ lw_tbl) rfl (Nat.le_of_ble_eq_true rfl) (lv_room (Nat.le_of_ble_eq_true rfl)) hl.1 hf dL_law_181 (fun r2 S2 H locs hz hV hS => ?_)
  obtain ⟨e1, hR⟩ := hz
  cases e1
  exact lv_icmp_eq (tgt := 938) hx hb dL_law_184 (by decide) (fun _ => kk _ _ _ _ hR hV hS) (fun w => absurd rfl w)
set_option maxHeartbeats 1000000 in
set_option maxRecDepth 100000 in
theorem lw_case_1 (C0 : lw_At p s m meth c b L xs) (hB : lw_B D s adC adM cAC cAM) (hV : lw_V D adC adM cAC cAM SC SM H) (hS : va_S (fun q : Nat => s.heap.size ≤ q) s.heap H locs) (hR : RR SC SM) (hL : L ≤ 3072) (hi : i + 6 ≤ L) (hf : cells ≤ 600000 ∧ slots ≤ 7302250) (hl : lv_has ls 4 [(0, .ref b), (1, .ref (adC 0)), (2, .ref (adM 0)), (3, .int (nI i))]) (kk : ∀ (SC SM : zS) (H : Heap) (locs : List Loc), RR SC SM → lw_V D adC adM cAC cAM SC SM H → va_S (fun q : Nat => s.heap.size ≤ q) s.heap H locs → W p l e room_1 s m #[Value.ref b] below meth c H locs cells slots Z (F0 m 938 ls [])) : W p l e room_1 s m #[Value.ref b] below meth c H locs cells slots Z (F0 m 189 ls []) := by
  obtain ⟨hx, hb, hr, hml, hown, hts, hX, hbl, hlocks, hgv⟩ := id C0
  obtain ⟨bb, nn, dd, h⟩ := hR
  refine lv_aload_n hx hb dL_law_189 rfl (lv_at hl 1 rfl) ?_
  refine lv_aload_n hx hb dL_law_190 rfl (lv_at hl 0 rfl) ?_
  refine lv_iload_n hx hb dL_law_191 rfl (lv_at hl 3 rfl) ?_
  refine lv_iconst (v := 1) hx hb dL_law_192 (by decide) ?_
  refine lv_iadd hx hb dL_law_193 ?_
  refine va_sld (A := fun q : Nat => s.heap.size ≤ q) hx hb hX hbl (Nat.not_le.mpr hbl) hS (lw_in 1 hi hL) dL_law_194 ?_
  refine lw_ciC C0 hB hV hS (μ := mX11_wipe) (as := [.int (xs (nI i + 1).toNatClampNeg)]) (rest := []) rfl (o_wipe h _) rfl rfl rfl (by decide +kernel : Cond.methodLink R_law 18 yX11_wipe ∈ lw_tbl) rfl (Nat.le_of_ble_eq_true rfl) (lv_room (Nat.le_of_ble_eq_true rfl)) hl.1 hf dL_law_195 (fun r1 S1 H locs hz hV hS => ?_)
  refine lv_aload_n hx hb dL_law_198 rfl (lv_at hl 2 rfl) ?_
  refine lv_aload_n hx hb dL_law_199 rfl (lv_at hl 0 rfl) ?_
  refine lv_iload_n hx hb dL_law_200 rfl (lv_at hl 3 rfl) ?_
  refine lv_iconst (v := 1) hx hb dL_law_201 (by decide) ?_
  refine lv_iadd hx hb dL_law_202 ?_
  refine va_sld (A := fun q : Nat => s.heap.size ≤ q) hx hb hX hbl (Nat.not_le.mpr hbl) hS (lw_in 1 hi hL) dL_law_203 ?_
  refine lw_ciM C0 hB hV hS (μ := mX12_wipe) (as := [.int (xs (nI i + 1).toNatClampNeg)]) (rest := [.int r1]) rfl hz rfl rfl rfl (by decide +kernel : Cond.methodLink R_law 22 yX12_wipe ∈ lw_tbl) rfl (Nat.le_of_ble_eq_true rfl) (lv_room (Nat.le_of_ble_eq_true rfl)) hl.1 hf dL_law_204 (fun r2 S2 H locs hz hV hS => ?_)
  obtain ⟨e1, hR⟩ := hz
  cases e1
  exact lv_icmp_eq (tgt := 938) hx hb dL_law_207 (by decide) (fun _ => kk _ _ _ _ hR hV hS) (fun w => absurd rfl w)
set_option maxHeartbeats 1000000 in
set_option maxRecDepth 100000 in
theorem lw_case_2 (C0 : lw_At p s m meth c b L xs) (hB : lw_B D s adC adM cAC cAM) (hV : lw_V D adC adM cAC cAM SC SM H) (hS : va_S (fun q : Nat => s.heap.size ≤ q) s.heap H locs) (hR : RR SC SM) (hL : L ≤ 3072) (hi : i + 6 ≤ L) (hf : cells ≤ 600000 ∧ slots ≤ 7302250) (hl : lv_has ls 4 [(0, .ref b), (1, .ref (adC 0)), (2, .ref (adM 0)), (3, .int (nI i))]) (kk : ∀ (SC SM : zS) (H : Heap) (locs : List Loc), RR SC SM → lw_V D adC adM cAC cAM SC SM H → va_S (fun q : Nat => s.heap.size ≤ q) s.heap H locs → W p l e room_1 s m #[Value.ref b] below meth c H locs cells slots Z (F0 m 938 ls [])) : W p l e room_1 s m #[Value.ref b] below meth c H locs cells slots Z (F0 m 212 ls []) := by
  obtain ⟨hx, hb, hr, hml, hown, hts, hX, hbl, hlocks, hgv⟩ := id C0
  obtain ⟨bb, nn, dd, h⟩ := hR
  refine lv_aload_n hx hb dL_law_212 rfl (lv_at hl 1 rfl) ?_
  refine lv_aload_n hx hb dL_law_213 rfl (lv_at hl 0 rfl) ?_
  refine lv_iload_n hx hb dL_law_214 rfl (lv_at hl 3 rfl) ?_
  refine lv_iconst (v := 1) hx hb dL_law_215 (by decide) ?_
  refine lv_iadd hx hb dL_law_216 ?_
  refine va_sld (A := fun q : Nat => s.heap.size ≤ q) hx hb hX hbl (Nat.not_le.mpr hbl) hS (lw_in 1 hi hL) dL_law_217 ?_
  refine lw_ciC C0 hB hV hS (μ := mX11_undo) (as := [.int (xs (nI i + 1).toNatClampNeg)]) (rest := []) rfl (o_undo h _) rfl rfl rfl (by decide +kernel : Cond.methodLink R_law 23 yX11_undo ∈ lw_tbl) rfl (Nat.le_of_ble_eq_true rfl) (lv_room (Nat.le_of_ble_eq_true rfl)) hl.1 hf dL_law_218 (fun r1 S1 H locs hz hV hS => ?_)
  refine lv_aload_n hx hb dL_law_221 rfl (lv_at hl 2 rfl) ?_
  refine lv_aload_n hx hb dL_law_222 rfl (lv_at hl 0 rfl) ?_
  refine lv_iload_n hx hb dL_law_223 rfl (lv_at hl 3 rfl) ?_
  refine lv_iconst (v := 1) hx hb dL_law_224 (by decide) ?_
  refine lv_iadd hx hb dL_law_225 ?_
  refine va_sld (A := fun q : Nat => s.heap.size ≤ q) hx hb hX hbl (Nat.not_le.mpr hbl) hS (lw_in 1 hi hL) dL_law_226 ?_
  refine lw_ciM C0 hB hV hS (μ := mX12_undo) (as := [.int (xs (nI i + 1).toNatClampNeg)]) (rest := [.int r1]) rfl hz rfl rfl rfl (by decide +kernel : Cond.methodLink R_law 26 yX12_undo ∈ lw_tbl) rfl (Nat.le_of_ble_eq_true rfl) (lv_room (Nat.le_of_ble_eq_true rfl)) hl.1 hf dL_law_227 (fun r2 S2 H locs hz hV hS => ?_)
  obtain ⟨e1, hR⟩ := hz
  cases e1
  exact lv_icmp_eq (tgt := 938) hx hb dL_law_230 (by decide) (fun _ => kk _ _ _ _ hR hV hS) (fun w => absurd rfl w)
set_option maxHeartbeats 1000000 in
set_option maxRecDepth 100000 in
theorem lw_case_3 (C0 : lw_At p s m meth c b L xs) (hB : lw_B D s adC adM cAC cAM) (hV : lw_V D adC adM cAC cAM SC SM H) (hS : va_S (fun q : Nat => s.heap.size ≤ q) s.heap H locs) (hR : RR SC SM) (hL : L ≤ 3072) (hi : i + 6 ≤ L) (hf : cells ≤ 600000 ∧ slots ≤ 7302250) (hl : lv_has ls 4 [(0, .ref b), (1, .ref (adC 0)), (2, .ref (adM 0)), (3, .int (nI i))]) (kk : ∀ (SC SM : zS) (H : Heap) (locs : List Loc), RR SC SM → lw_V D adC adM cAC cAM SC SM H → va_S (fun q : Nat => s.heap.size ≤ q) s.heap H locs → W p l e room_1 s m #[Value.ref b] below meth c H locs cells slots Z (F0 m 938 ls [])) : W p l e room_1 s m #[Value.ref b] below meth c H locs cells slots Z (F0 m 235 ls []) := by
  obtain ⟨hx, hb, hr, hml, hown, hts, hX, hbl, hlocks, hgv⟩ := id C0
  obtain ⟨bb, nn, dd, h⟩ := hR
  refine lv_aload_n hx hb dL_law_235 rfl (lv_at hl 1 rfl) ?_
  refine lv_aload_n hx hb dL_law_236 rfl (lv_at hl 0 rfl) ?_
  refine lv_iload_n hx hb dL_law_237 rfl (lv_at hl 3 rfl) ?_
  refine lv_iconst (v := 1) hx hb dL_law_238 (by decide) ?_
  refine lv_iadd hx hb dL_law_239 ?_
  refine va_sld (A := fun q : Nat => s.heap.size ≤ q) hx hb hX hbl (Nat.not_le.mpr hbl) hS (lw_in 1 hi hL) dL_law_240 ?_
  refine lv_aload_n hx hb dL_law_241 rfl (lv_at hl 0 rfl) ?_
  refine lv_iload_n hx hb dL_law_242 rfl (lv_at hl 3 rfl) ?_
  refine lv_iconst (v := 2) hx hb dL_law_243 (by decide) ?_
  refine lv_iadd hx hb dL_law_244 ?_
  refine va_sld (A := fun q : Nat => s.heap.size ≤ q) hx hb hX hbl (Nat.not_le.mpr hbl) hS (lw_in 2 hi hL) dL_law_245 ?_
  refine lw_ciC C0 hB hV hS (μ := mX11_read) (as := [.int (xs (nI i + 1).toNatClampNeg), .int (xs (nI i + 2).toNatClampNeg)]) (rest := []) rfl (o_read h _ _) rfl rfl rfl (by decide +kernel : Cond.methodLink R_law 27 yX11_read ∈ lw_tbl) rfl (Nat.le_of_ble_eq_true rfl) (lv_room (Nat.le_of_ble_eq_true rfl)) hl.1 hf dL_law_246 (fun r1 S1 H locs hz hV hS => ?_)
  refine lv_aload_n hx hb dL_law_249 rfl (lv_at hl 2 rfl) ?_
  refine lv_aload_n hx hb dL_law_250 rfl (lv_at hl 0 rfl) ?_
  refine lv_iload_n hx hb dL_law_251 rfl (lv_at hl 3 rfl) ?_
  refine lv_iconst (v := 1) hx hb dL_law_252 (by decide) ?_
  refine lv_iadd hx hb dL_law_253 ?_
  refine va_sld (A := fun q : Nat => s.heap.size ≤ q) hx hb hX hbl (Nat.not_le.mpr hbl) hS (lw_in 1 hi hL) dL_law_254 ?_
  refine lv_aload_n hx hb dL_law_255 rfl (lv_at hl 0 rfl) ?_
  refine lv_iload_n hx hb dL_law_256 rfl (lv_at hl 3 rfl) ?_
  refine lv_iconst (v := 2) hx hb dL_law_257 (by decide) ?_
  refine lv_iadd hx hb dL_law_258 ?_
  refine va_sld (A := fun q : Nat => s.heap.size ≤ q) hx hb hX hbl (Nat.not_le.mpr hbl) hS (lw_in 2 hi hL) dL_law_259 ?_
  refine lw_ciM C0 hB hV hS (μ := mX12_read) (as := [.int (xs (nI i + 1).toNatClampNeg), .int (xs (nI i + 2).toNatClampNeg)]) (rest := [.int r1]) rfl hz rfl rfl rfl (by decide +kernel : Cond.methodLink R_law 30 yX12_read ∈ lw_tbl) rfl (Nat.le_of_ble_eq_true rfl) (lv_room (Nat.le_of_ble_eq_true rfl)) hl.1 hf dL_law_260 (fun r2 S2 H locs hz hV hS => ?_)
  obtain ⟨e1, hR⟩ := hz
  cases e1
  exact lv_icmp_eq (tgt := 938) hx hb dL_law_263 (by decide) (fun _ => kk _ _ _ _ hR hV hS) (fun w => absurd rfl w)
set_option maxHeartbeats 1000000 in
set_option maxRecDepth 100000 in
theorem lw_case_4 (C0 : lw_At p s m meth c b L xs) (hB : lw_B D s adC adM cAC cAM) (hV : lw_V D adC adM cAC cAM SC SM H) (hS : va_S (fun q : Nat => s.heap.size ≤ q) s.heap H locs) (hR : RR SC SM) (hL : L ≤ 3072) (hi : i + 6 ≤ L) (hf : cells ≤ 600000 ∧ slots ≤ 7302250) (hl : lv_has ls 4 [(0, .ref b), (1, .ref (adC 0)), (2, .ref (adM 0)), (3, .int (nI i))]) (kk : ∀ (SC SM : zS) (H : Heap) (locs : List Loc), RR SC SM → lw_V D adC adM cAC cAM SC SM H → va_S (fun q : Nat => s.heap.size ≤ q) s.heap H locs → W p l e room_1 s m #[Value.ref b] below meth c H locs cells slots Z (F0 m 938 ls [])) : W p l e room_1 s m #[Value.ref b] below meth c H locs cells slots Z (F0 m 268 ls []) := by
  obtain ⟨hx, hb, hr, hml, hown, hts, hX, hbl, hlocks, hgv⟩ := id C0
  obtain ⟨bb, nn, dd, h⟩ := hR
  refine lv_aload_n hx hb dL_law_268 rfl (lv_at hl 1 rfl) ?_
  refine lv_aload_n hx hb dL_law_269 rfl (lv_at hl 0 rfl) ?_
  refine lv_iload_n hx hb dL_law_270 rfl (lv_at hl 3 rfl) ?_
  refine lv_iconst (v := 1) hx hb dL_law_271 (by decide) ?_
  refine lv_iadd hx hb dL_law_272 ?_
  refine va_sld (A := fun q : Nat => s.heap.size ≤ q) hx hb hX hbl (Nat.not_le.mpr hbl) hS (lw_in 1 hi hL) dL_law_273 ?_
  refine lw_ciC C0 hB hV hS (μ := mX11_depth) (as := [.int (xs (nI i + 1).toNatClampNeg)]) (rest := []) rfl (o_depth h _) rfl rfl rfl (by decide +kernel : Cond.methodLink R_law 31 yX11_depth ∈ lw_tbl) rfl (Nat.le_of_ble_eq_true rfl) (lv_room (Nat.le_of_ble_eq_true rfl)) hl.1 hf dL_law_274 (fun r1 S1 H locs hz hV hS => ?_)
  refine lv_aload_n hx hb dL_law_277 rfl (lv_at hl 2 rfl) ?_
  refine lv_aload_n hx hb dL_law_278 rfl (lv_at hl 0 rfl) ?_
  refine lv_iload_n hx hb dL_law_279 rfl (lv_at hl 3 rfl) ?_
  refine lv_iconst (v := 1) hx hb dL_law_280 (by decide) ?_
  refine lv_iadd hx hb dL_law_281 ?_
  refine va_sld (A := fun q : Nat => s.heap.size ≤ q) hx hb hX hbl (Nat.not_le.mpr hbl) hS (lw_in 1 hi hL) dL_law_282 ?_
  refine lw_ciM C0 hB hV hS (μ := mX12_depth) (as := [.int (xs (nI i + 1).toNatClampNeg)]) (rest := [.int r1]) rfl hz rfl rfl rfl (by decide +kernel : Cond.methodLink R_law 34 yX12_depth ∈ lw_tbl) rfl (Nat.le_of_ble_eq_true rfl) (lv_room (Nat.le_of_ble_eq_true rfl)) hl.1 hf dL_law_283 (fun r2 S2 H locs hz hV hS => ?_)
  obtain ⟨e1, hR⟩ := hz
  cases e1
  exact lv_icmp_eq (tgt := 938) hx hb dL_law_286 (by decide) (fun _ => kk _ _ _ _ hR hV hS) (fun w => absurd rfl w)
set_option maxHeartbeats 1000000 in
set_option maxRecDepth 100000 in
theorem lw_case_5 (C0 : lw_At p s m meth c b L xs) (hB : lw_B D s adC adM cAC cAM) (hV : lw_V D adC adM cAC cAM SC SM H) (hS : va_S (fun q : Nat => s.heap.size ≤ q) s.heap H locs) (hR : RR SC SM) (hL : L ≤ 3072) (hi : i + 6 ≤ L) (hf : cells ≤ 600000 ∧ slots ≤ 7302250) (hl : lv_has ls 4 [(0, .ref b), (1, .ref (adC 0)), (2, .ref (adM 0)), (3, .int (nI i))]) (kk : ∀ (SC SM : zS) (H : Heap) (locs : List Loc), RR SC SM → lw_V D adC adM cAC cAM SC SM H → va_S (fun q : Nat => s.heap.size ≤ q) s.heap H locs → W p l e room_1 s m #[Value.ref b] below meth c H locs cells slots Z (F0 m 938 ls [])) : W p l e room_1 s m #[Value.ref b] below meth c H locs cells slots Z (F0 m 291 ls []) := by
  obtain ⟨hx, hb, hr, hml, hown, hts, hX, hbl, hlocks, hgv⟩ := id C0
  obtain ⟨bb, nn, dd, h⟩ := hR
  refine lv_aload_n hx hb dL_law_291 rfl (lv_at hl 1 rfl) ?_
  refine lv_aload_n hx hb dL_law_292 rfl (lv_at hl 0 rfl) ?_
  refine lv_iload_n hx hb dL_law_293 rfl (lv_at hl 3 rfl) ?_
  refine lv_iconst (v := 1) hx hb dL_law_294 (by decide) ?_
  refine lv_iadd hx hb dL_law_295 ?_
  refine va_sld (A := fun q : Nat => s.heap.size ≤ q) hx hb hX hbl (Nat.not_le.mpr hbl) hS (lw_in 1 hi hL) dL_law_296 ?_
  refine lv_aload_n hx hb dL_law_297 rfl (lv_at hl 0 rfl) ?_
  refine lv_iload_n hx hb dL_law_298 rfl (lv_at hl 3 rfl) ?_
  refine lv_iconst (v := 2) hx hb dL_law_299 (by decide) ?_
  refine lv_iadd hx hb dL_law_300 ?_
  refine va_sld (A := fun q : Nat => s.heap.size ≤ q) hx hb hX hbl (Nat.not_le.mpr hbl) hS (lw_in 2 hi hL) dL_law_301 ?_
  refine lw_ciC C0 hB hV hS (μ := mX11_fault) (as := [.int (xs (nI i + 1).toNatClampNeg), .int (xs (nI i + 2).toNatClampNeg)]) (rest := []) rfl (o_fault h _ _) rfl rfl rfl (by decide +kernel : Cond.methodLink R_law 35 yX11_fault ∈ lw_tbl) rfl (Nat.le_of_ble_eq_true rfl) (lv_room (Nat.le_of_ble_eq_true rfl)) hl.1 hf dL_law_302 (fun r1 S1 H locs hz hV hS => ?_)
  refine lv_aload_n hx hb dL_law_305 rfl (lv_at hl 2 rfl) ?_
  refine lv_aload_n hx hb dL_law_306 rfl (lv_at hl 0 rfl) ?_
  refine lv_iload_n hx hb dL_law_307 rfl (lv_at hl 3 rfl) ?_
  refine lv_iconst (v := 1) hx hb dL_law_308 (by decide) ?_
  refine lv_iadd hx hb dL_law_309 ?_
  refine va_sld (A := fun q : Nat => s.heap.size ≤ q) hx hb hX hbl (Nat.not_le.mpr hbl) hS (lw_in 1 hi hL) dL_law_310 ?_
  refine lv_aload_n hx hb dL_law_311 rfl (lv_at hl 0 rfl) ?_
  refine lv_iload_n hx hb dL_law_312 rfl (lv_at hl 3 rfl) ?_
  refine lv_iconst (v := 2) hx hb dL_law_313 (by decide) ?_
  refine lv_iadd hx hb dL_law_314 ?_
  refine va_sld (A := fun q : Nat => s.heap.size ≤ q) hx hb hX hbl (Nat.not_le.mpr hbl) hS (lw_in 2 hi hL) dL_law_315 ?_
  refine lw_ciM C0 hB hV hS (μ := mX12_fault) (as := [.int (xs (nI i + 1).toNatClampNeg), .int (xs (nI i + 2).toNatClampNeg)]) (rest := [.int r1]) rfl hz rfl rfl rfl (by decide +kernel : Cond.methodLink R_law 38 yX12_fault ∈ lw_tbl) rfl (Nat.le_of_ble_eq_true rfl) (lv_room (Nat.le_of_ble_eq_true rfl)) hl.1 hf dL_law_316 (fun r2 S2 H locs hz hV hS => ?_)
  obtain ⟨e1, hR⟩ := hz
  cases e1
  exact lv_icmp_eq (tgt := 938) hx hb dL_law_319 (by decide) (fun _ => kk _ _ _ _ hR hV hS) (fun w => absurd rfl w)
set_option maxHeartbeats 1000000 in
set_option maxRecDepth 100000 in
theorem lw_case_6 (C0 : lw_At p s m meth c b L xs) (hB : lw_B D s adC adM cAC cAM) (hV : lw_V D adC adM cAC cAM SC SM H) (hS : va_S (fun q : Nat => s.heap.size ≤ q) s.heap H locs) (hR : RR SC SM) (hL : L ≤ 3072) (hi : i + 6 ≤ L) (hf : cells ≤ 600000 ∧ slots ≤ 7302250) (hl : lv_has ls 4 [(0, .ref b), (1, .ref (adC 0)), (2, .ref (adM 0)), (3, .int (nI i))]) (kk : ∀ (SC SM : zS) (H : Heap) (locs : List Loc), RR SC SM → lw_V D adC adM cAC cAM SC SM H → va_S (fun q : Nat => s.heap.size ≤ q) s.heap H locs → W p l e room_1 s m #[Value.ref b] below meth c H locs cells slots Z (F0 m 938 ls [])) : W p l e room_1 s m #[Value.ref b] below meth c H locs cells slots Z (F0 m 324 ls []) := by
  obtain ⟨hx, hb, hr, hml, hown, hts, hX, hbl, hlocks, hgv⟩ := id C0
  obtain ⟨bb, nn, dd, h⟩ := hR
  refine lv_aload_n hx hb dL_law_324 rfl (lv_at hl 1 rfl) ?_
  refine lv_aload_n hx hb dL_law_325 rfl (lv_at hl 0 rfl) ?_
  refine lv_iload_n hx hb dL_law_326 rfl (lv_at hl 3 rfl) ?_
  refine lv_iconst (v := 1) hx hb dL_law_327 (by decide) ?_
  refine lv_iadd hx hb dL_law_328 ?_
  refine va_sld (A := fun q : Nat => s.heap.size ≤ q) hx hb hX hbl (Nat.not_le.mpr hbl) hS (lw_in 1 hi hL) dL_law_329 ?_
  refine lw_ciC C0 hB hV hS (μ := mX11_within) (as := [.int (xs (nI i + 1).toNatClampNeg)]) (rest := []) rfl (o_within h _) rfl rfl rfl (by decide +kernel : Cond.methodLink R_law 39 yX11_within ∈ lw_tbl) rfl (Nat.le_of_ble_eq_true rfl) (lv_room (Nat.le_of_ble_eq_true rfl)) hl.1 hf dL_law_330 (fun r1 S1 H locs hz hV hS => ?_)
  refine lv_aload_n hx hb dL_law_333 rfl (lv_at hl 2 rfl) ?_
  refine lv_aload_n hx hb dL_law_334 rfl (lv_at hl 0 rfl) ?_
  refine lv_iload_n hx hb dL_law_335 rfl (lv_at hl 3 rfl) ?_
  refine lv_iconst (v := 1) hx hb dL_law_336 (by decide) ?_
  refine lv_iadd hx hb dL_law_337 ?_
  refine va_sld (A := fun q : Nat => s.heap.size ≤ q) hx hb hX hbl (Nat.not_le.mpr hbl) hS (lw_in 1 hi hL) dL_law_338 ?_
  refine lw_ciM C0 hB hV hS (μ := mX12_within) (as := [.int (xs (nI i + 1).toNatClampNeg)]) (rest := [.int r1]) rfl hz rfl rfl rfl (by decide +kernel : Cond.methodLink R_law 42 yX12_within ∈ lw_tbl) rfl (Nat.le_of_ble_eq_true rfl) (lv_room (Nat.le_of_ble_eq_true rfl)) hl.1 hf dL_law_339 (fun r2 S2 H locs hz hV hS => ?_)
  obtain ⟨e1, hR⟩ := hz
  cases e1
  exact lv_icmp_eq (tgt := 938) hx hb dL_law_342 (by decide) (fun _ => kk _ _ _ _ hR hV hS) (fun w => absurd rfl w)
set_option maxHeartbeats 1000000 in
set_option maxRecDepth 100000 in
theorem lw_case_7 (C0 : lw_At p s m meth c b L xs) (hB : lw_B D s adC adM cAC cAM) (hV : lw_V D adC adM cAC cAM SC SM H) (hS : va_S (fun q : Nat => s.heap.size ≤ q) s.heap H locs) (hR : RR SC SM) (hL : L ≤ 3072) (hi : i + 6 ≤ L) (hf : cells ≤ 600000 ∧ slots ≤ 7302250) (hl : lv_has ls 4 [(0, .ref b), (1, .ref (adC 0)), (2, .ref (adM 0)), (3, .int (nI i))]) (kk : ∀ (SC SM : zS) (H : Heap) (locs : List Loc), RR SC SM → lw_V D adC adM cAC cAM SC SM H → va_S (fun q : Nat => s.heap.size ≤ q) s.heap H locs → W p l e room_1 s m #[Value.ref b] below meth c H locs cells slots Z (F0 m 938 ls [])) : W p l e room_1 s m #[Value.ref b] below meth c H locs cells slots Z (F0 m 347 ls []) := by
  obtain ⟨hx, hb, hr, hml, hown, hts, hX, hbl, hlocks, hgv⟩ := id C0
  obtain ⟨bb, nn, dd, h⟩ := hR
  refine lv_aload_n hx hb dL_law_347 rfl (lv_at hl 1 rfl) ?_
  refine lv_aload_n hx hb dL_law_348 rfl (lv_at hl 0 rfl) ?_
  refine lv_iload_n hx hb dL_law_349 rfl (lv_at hl 3 rfl) ?_
  refine lv_iconst (v := 1) hx hb dL_law_350 (by decide) ?_
  refine lv_iadd hx hb dL_law_351 ?_
  refine va_sld (A := fun q : Nat => s.heap.size ≤ q) hx hb hX hbl (Nat.not_le.mpr hbl) hS (lw_in 1 hi hL) dL_law_352 ?_
  refine lw_ciC C0 hB hV hS (μ := mX11_bar) (as := [.int (xs (nI i + 1).toNatClampNeg)]) (rest := []) rfl (o_bar h _) rfl rfl rfl (by decide +kernel : Cond.methodLink R_law 43 yX11_bar ∈ lw_tbl) rfl (Nat.le_of_ble_eq_true rfl) (lv_room (Nat.le_of_ble_eq_true rfl)) hl.1 hf dL_law_353 (fun r1 S1 H locs hz hV hS => ?_)
  refine lv_aload_n hx hb dL_law_356 rfl (lv_at hl 2 rfl) ?_
  refine lv_aload_n hx hb dL_law_357 rfl (lv_at hl 0 rfl) ?_
  refine lv_iload_n hx hb dL_law_358 rfl (lv_at hl 3 rfl) ?_
  refine lv_iconst (v := 1) hx hb dL_law_359 (by decide) ?_
  refine lv_iadd hx hb dL_law_360 ?_
  refine va_sld (A := fun q : Nat => s.heap.size ≤ q) hx hb hX hbl (Nat.not_le.mpr hbl) hS (lw_in 1 hi hL) dL_law_361 ?_
  refine lw_ciM C0 hB hV hS (μ := mX12_bar) (as := [.int (xs (nI i + 1).toNatClampNeg)]) (rest := [.int r1]) rfl hz rfl rfl rfl (by decide +kernel : Cond.methodLink R_law 46 yX12_bar ∈ lw_tbl) rfl (Nat.le_of_ble_eq_true rfl) (lv_room (Nat.le_of_ble_eq_true rfl)) hl.1 hf dL_law_362 (fun r2 S2 H locs hz hV hS => ?_)
  obtain ⟨e1, hR⟩ := hz
  cases e1
  exact lv_icmp_eq (tgt := 938) hx hb dL_law_365 (by decide) (fun _ => kk _ _ _ _ hR hV hS) (fun w => absurd rfl w)
set_option maxHeartbeats 1000000 in
set_option maxRecDepth 100000 in
theorem lw_case_8 (C0 : lw_At p s m meth c b L xs) (hB : lw_B D s adC adM cAC cAM) (hV : lw_V D adC adM cAC cAM SC SM H) (hS : va_S (fun q : Nat => s.heap.size ≤ q) s.heap H locs) (hR : RR SC SM) (hL : L ≤ 3072) (hi : i + 6 ≤ L) (hf : cells ≤ 600000 ∧ slots ≤ 7302250) (hl : lv_has ls 4 [(0, .ref b), (1, .ref (adC 0)), (2, .ref (adM 0)), (3, .int (nI i))]) (kk : ∀ (SC SM : zS) (H : Heap) (locs : List Loc), RR SC SM → lw_V D adC adM cAC cAM SC SM H → va_S (fun q : Nat => s.heap.size ≤ q) s.heap H locs → W p l e room_1 s m #[Value.ref b] below meth c H locs cells slots Z (F0 m 938 ls [])) : W p l e room_1 s m #[Value.ref b] below meth c H locs cells slots Z (F0 m 370 ls []) := by
  obtain ⟨hx, hb, hr, hml, hown, hts, hX, hbl, hlocks, hgv⟩ := id C0
  obtain ⟨bb, nn, dd, h⟩ := hR
  refine lv_aload_n hx hb dL_law_370 rfl (lv_at hl 1 rfl) ?_
  refine lv_aload_n hx hb dL_law_371 rfl (lv_at hl 0 rfl) ?_
  refine lv_iload_n hx hb dL_law_372 rfl (lv_at hl 3 rfl) ?_
  refine lv_iconst (v := 1) hx hb dL_law_373 (by decide) ?_
  refine lv_iadd hx hb dL_law_374 ?_
  refine va_sld (A := fun q : Nat => s.heap.size ≤ q) hx hb hX hbl (Nat.not_le.mpr hbl) hS (lw_in 1 hi hL) dL_law_375 ?_
  refine lv_aload_n hx hb dL_law_376 rfl (lv_at hl 0 rfl) ?_
  refine lv_iload_n hx hb dL_law_377 rfl (lv_at hl 3 rfl) ?_
  refine lv_iconst (v := 2) hx hb dL_law_378 (by decide) ?_
  refine lv_iadd hx hb dL_law_379 ?_
  refine va_sld (A := fun q : Nat => s.heap.size ≤ q) hx hb hX hbl (Nat.not_le.mpr hbl) hS (lw_in 2 hi hL) dL_law_380 ?_
  refine lw_ciC C0 hB hV hS (μ := mX11_alike) (as := [.int (xs (nI i + 1).toNatClampNeg), .int (xs (nI i + 2).toNatClampNeg)]) (rest := []) rfl (o_alike h _ _) rfl rfl rfl (by decide +kernel : Cond.methodLink R_law 47 yX11_alike ∈ lw_tbl) rfl (Nat.le_of_ble_eq_true rfl) (lv_room (Nat.le_of_ble_eq_true rfl)) hl.1 hf dL_law_381 (fun r1 S1 H locs hz hV hS => ?_)
  refine lv_aload_n hx hb dL_law_384 rfl (lv_at hl 2 rfl) ?_
  refine lv_aload_n hx hb dL_law_385 rfl (lv_at hl 0 rfl) ?_
  refine lv_iload_n hx hb dL_law_386 rfl (lv_at hl 3 rfl) ?_
  refine lv_iconst (v := 1) hx hb dL_law_387 (by decide) ?_
  refine lv_iadd hx hb dL_law_388 ?_
  refine va_sld (A := fun q : Nat => s.heap.size ≤ q) hx hb hX hbl (Nat.not_le.mpr hbl) hS (lw_in 1 hi hL) dL_law_389 ?_
  refine lv_aload_n hx hb dL_law_390 rfl (lv_at hl 0 rfl) ?_
  refine lv_iload_n hx hb dL_law_391 rfl (lv_at hl 3 rfl) ?_
  refine lv_iconst (v := 2) hx hb dL_law_392 (by decide) ?_
  refine lv_iadd hx hb dL_law_393 ?_
  refine va_sld (A := fun q : Nat => s.heap.size ≤ q) hx hb hX hbl (Nat.not_le.mpr hbl) hS (lw_in 2 hi hL) dL_law_394 ?_
  refine lw_ciM C0 hB hV hS (μ := mX12_alike) (as := [.int (xs (nI i + 1).toNatClampNeg), .int (xs (nI i + 2).toNatClampNeg)]) (rest := [.int r1]) rfl hz rfl rfl rfl (by decide +kernel : Cond.methodLink R_law 50 yX12_alike ∈ lw_tbl) rfl (Nat.le_of_ble_eq_true rfl) (lv_room (Nat.le_of_ble_eq_true rfl)) hl.1 hf dL_law_395 (fun r2 S2 H locs hz hV hS => ?_)
  obtain ⟨e1, hR⟩ := hz
  cases e1
  exact lv_icmp_eq (tgt := 938) hx hb dL_law_398 (by decide) (fun _ => kk _ _ _ _ hR hV hS) (fun w => absurd rfl w)
set_option maxHeartbeats 1000000 in
set_option maxRecDepth 100000 in
theorem lw_case_9 (C0 : lw_At p s m meth c b L xs) (hB : lw_B D s adC adM cAC cAM) (hV : lw_V D adC adM cAC cAM SC SM H) (hS : va_S (fun q : Nat => s.heap.size ≤ q) s.heap H locs) (hR : RR SC SM) (hL : L ≤ 3072) (hi : i + 6 ≤ L) (hf : cells ≤ 600000 ∧ slots ≤ 7302250) (hl : lv_has ls 4 [(0, .ref b), (1, .ref (adC 0)), (2, .ref (adM 0)), (3, .int (nI i))]) (kk : ∀ (SC SM : zS) (H : Heap) (locs : List Loc), RR SC SM → lw_V D adC adM cAC cAM SC SM H → va_S (fun q : Nat => s.heap.size ≤ q) s.heap H locs → W p l e room_1 s m #[Value.ref b] below meth c H locs cells slots Z (F0 m 938 ls [])) : W p l e room_1 s m #[Value.ref b] below meth c H locs cells slots Z (F0 m 403 ls []) := by
  obtain ⟨hx, hb, hr, hml, hown, hts, hX, hbl, hlocks, hgv⟩ := id C0
  obtain ⟨bb, nn, dd, h⟩ := hR
  refine lv_aload_n hx hb dL_law_403 rfl (lv_at hl 1 rfl) ?_
  refine lv_aload_n hx hb dL_law_404 rfl (lv_at hl 0 rfl) ?_
  refine lv_iload_n hx hb dL_law_405 rfl (lv_at hl 3 rfl) ?_
  refine lv_iconst (v := 1) hx hb dL_law_406 (by decide) ?_
  refine lv_iadd hx hb dL_law_407 ?_
  refine va_sld (A := fun q : Nat => s.heap.size ≤ q) hx hb hX hbl (Nat.not_le.mpr hbl) hS (lw_in 1 hi hL) dL_law_408 ?_
  refine lv_aload_n hx hb dL_law_409 rfl (lv_at hl 0 rfl) ?_
  refine lv_iload_n hx hb dL_law_410 rfl (lv_at hl 3 rfl) ?_
  refine lv_iconst (v := 2) hx hb dL_law_411 (by decide) ?_
  refine lv_iadd hx hb dL_law_412 ?_
  refine va_sld (A := fun q : Nat => s.heap.size ≤ q) hx hb hX hbl (Nat.not_le.mpr hbl) hS (lw_in 2 hi hL) dL_law_413 ?_
  refine lw_ciC C0 hB hV hS (μ := mX11_again) (as := [.int (xs (nI i + 1).toNatClampNeg), .int (xs (nI i + 2).toNatClampNeg)]) (rest := []) rfl (o_again h _ _) rfl rfl rfl (by decide +kernel : Cond.methodLink R_law 51 yX11_again ∈ lw_tbl) rfl (Nat.le_of_ble_eq_true rfl) (lv_room (Nat.le_of_ble_eq_true rfl)) hl.1 hf dL_law_414 (fun r1 S1 H locs hz hV hS => ?_)
  refine lv_aload_n hx hb dL_law_417 rfl (lv_at hl 2 rfl) ?_
  refine lv_aload_n hx hb dL_law_418 rfl (lv_at hl 0 rfl) ?_
  refine lv_iload_n hx hb dL_law_419 rfl (lv_at hl 3 rfl) ?_
  refine lv_iconst (v := 1) hx hb dL_law_420 (by decide) ?_
  refine lv_iadd hx hb dL_law_421 ?_
  refine va_sld (A := fun q : Nat => s.heap.size ≤ q) hx hb hX hbl (Nat.not_le.mpr hbl) hS (lw_in 1 hi hL) dL_law_422 ?_
  refine lv_aload_n hx hb dL_law_423 rfl (lv_at hl 0 rfl) ?_
  refine lv_iload_n hx hb dL_law_424 rfl (lv_at hl 3 rfl) ?_
  refine lv_iconst (v := 2) hx hb dL_law_425 (by decide) ?_
  refine lv_iadd hx hb dL_law_426 ?_
  refine va_sld (A := fun q : Nat => s.heap.size ≤ q) hx hb hX hbl (Nat.not_le.mpr hbl) hS (lw_in 2 hi hL) dL_law_427 ?_
  refine lw_ciM C0 hB hV hS (μ := mX12_again) (as := [.int (xs (nI i + 1).toNatClampNeg), .int (xs (nI i + 2).toNatClampNeg)]) (rest := [.int r1]) rfl hz rfl rfl rfl (by decide +kernel : Cond.methodLink R_law 54 yX12_again ∈ lw_tbl) rfl (Nat.le_of_ble_eq_true rfl) (lv_room (Nat.le_of_ble_eq_true rfl)) hl.1 hf dL_law_428 (fun r2 S2 H locs hz hV hS => ?_)
  obtain ⟨e1, hR⟩ := hz
  cases e1
  exact lv_icmp_eq (tgt := 938) hx hb dL_law_431 (by decide) (fun _ => kk _ _ _ _ hR hV hS) (fun w => absurd rfl w)
set_option maxHeartbeats 1000000 in
set_option maxRecDepth 100000 in
theorem lw_case_10 (C0 : lw_At p s m meth c b L xs) (hB : lw_B D s adC adM cAC cAM) (hV : lw_V D adC adM cAC cAM SC SM H) (hS : va_S (fun q : Nat => s.heap.size ≤ q) s.heap H locs) (hR : RR SC SM) (hL : L ≤ 3072) (hi : i + 6 ≤ L) (hf : cells ≤ 600000 ∧ slots ≤ 7302250) (hl : lv_has ls 4 [(0, .ref b), (1, .ref (adC 0)), (2, .ref (adM 0)), (3, .int (nI i))]) (kk : ∀ (SC SM : zS) (H : Heap) (locs : List Loc), RR SC SM → lw_V D adC adM cAC cAM SC SM H → va_S (fun q : Nat => s.heap.size ≤ q) s.heap H locs → W p l e room_1 s m #[Value.ref b] below meth c H locs cells slots Z (F0 m 938 ls [])) : W p l e room_1 s m #[Value.ref b] below meth c H locs cells slots Z (F0 m 436 ls []) := by
  obtain ⟨hx, hb, hr, hml, hown, hts, hX, hbl, hlocks, hgv⟩ := id C0
  obtain ⟨bb, nn, dd, h⟩ := hR
  refine lv_aload_n hx hb dL_law_436 rfl (lv_at hl 1 rfl) ?_
  refine lv_aload_n hx hb dL_law_437 rfl (lv_at hl 0 rfl) ?_
  refine lv_iload_n hx hb dL_law_438 rfl (lv_at hl 3 rfl) ?_
  refine lv_iconst (v := 1) hx hb dL_law_439 (by decide) ?_
  refine lv_iadd hx hb dL_law_440 ?_
  refine va_sld (A := fun q : Nat => s.heap.size ≤ q) hx hb hX hbl (Nat.not_le.mpr hbl) hS (lw_in 1 hi hL) dL_law_441 ?_
  refine lw_ciC C0 hB hV hS (μ := mX11_plays) (as := [.int (xs (nI i + 1).toNatClampNeg)]) (rest := []) rfl (o_plays h _) rfl rfl rfl (by decide +kernel : Cond.methodLink R_law 55 yX11_plays ∈ lw_tbl) rfl (Nat.le_of_ble_eq_true rfl) (lv_room (Nat.le_of_ble_eq_true rfl)) hl.1 hf dL_law_442 (fun r1 S1 H locs hz hV hS => ?_)
  refine lv_aload_n hx hb dL_law_445 rfl (lv_at hl 2 rfl) ?_
  refine lv_aload_n hx hb dL_law_446 rfl (lv_at hl 0 rfl) ?_
  refine lv_iload_n hx hb dL_law_447 rfl (lv_at hl 3 rfl) ?_
  refine lv_iconst (v := 1) hx hb dL_law_448 (by decide) ?_
  refine lv_iadd hx hb dL_law_449 ?_
  refine va_sld (A := fun q : Nat => s.heap.size ≤ q) hx hb hX hbl (Nat.not_le.mpr hbl) hS (lw_in 1 hi hL) dL_law_450 ?_
  refine lw_ciM C0 hB hV hS (μ := mX12_plays) (as := [.int (xs (nI i + 1).toNatClampNeg)]) (rest := [.int r1]) rfl hz rfl rfl rfl (by decide +kernel : Cond.methodLink R_law 58 yX12_plays ∈ lw_tbl) rfl (Nat.le_of_ble_eq_true rfl) (lv_room (Nat.le_of_ble_eq_true rfl)) hl.1 hf dL_law_451 (fun r2 S2 H locs hz hV hS => ?_)
  obtain ⟨e1, hR⟩ := hz
  cases e1
  exact lv_icmp_eq (tgt := 938) hx hb dL_law_454 (by decide) (fun _ => kk _ _ _ _ hR hV hS) (fun w => absurd rfl w)
set_option maxHeartbeats 1000000 in
set_option maxRecDepth 100000 in
theorem lw_case_11 (C0 : lw_At p s m meth c b L xs) (hB : lw_B D s adC adM cAC cAM) (hV : lw_V D adC adM cAC cAM SC SM H) (hS : va_S (fun q : Nat => s.heap.size ≤ q) s.heap H locs) (hR : RR SC SM) (hL : L ≤ 3072) (hi : i + 6 ≤ L) (hf : cells ≤ 600000 ∧ slots ≤ 7302250) (hl : lv_has ls 4 [(0, .ref b), (1, .ref (adC 0)), (2, .ref (adM 0)), (3, .int (nI i))]) (kk : ∀ (SC SM : zS) (H : Heap) (locs : List Loc), RR SC SM → lw_V D adC adM cAC cAM SC SM H → va_S (fun q : Nat => s.heap.size ≤ q) s.heap H locs → W p l e room_1 s m #[Value.ref b] below meth c H locs cells slots Z (F0 m 938 ls [])) : W p l e room_1 s m #[Value.ref b] below meth c H locs cells slots Z (F0 m 459 ls []) := by
  obtain ⟨hx, hb, hr, hml, hown, hts, hX, hbl, hlocks, hgv⟩ := id C0
  obtain ⟨bb, nn, dd, h⟩ := hR
  refine lv_aload_n hx hb dL_law_459 rfl (lv_at hl 1 rfl) ?_
  refine lv_aload_n hx hb dL_law_460 rfl (lv_at hl 0 rfl) ?_
  refine lv_iload_n hx hb dL_law_461 rfl (lv_at hl 3 rfl) ?_
  refine lv_iconst (v := 1) hx hb dL_law_462 (by decide) ?_
  refine lv_iadd hx hb dL_law_463 ?_
  refine va_sld (A := fun q : Nat => s.heap.size ≤ q) hx hb hX hbl (Nat.not_le.mpr hbl) hS (lw_in 1 hi hL) dL_law_464 ?_
  refine lw_ciC C0 hB hV hS (μ := mX11_often) (as := [.int (xs (nI i + 1).toNatClampNeg)]) (rest := []) rfl (o_often h _) rfl rfl rfl (by decide +kernel : Cond.methodLink R_law 59 yX11_often ∈ lw_tbl) rfl (Nat.le_of_ble_eq_true rfl) (lv_room (Nat.le_of_ble_eq_true rfl)) hl.1 hf dL_law_465 (fun r1 S1 H locs hz hV hS => ?_)
  refine lv_aload_n hx hb dL_law_468 rfl (lv_at hl 2 rfl) ?_
  refine lv_aload_n hx hb dL_law_469 rfl (lv_at hl 0 rfl) ?_
  refine lv_iload_n hx hb dL_law_470 rfl (lv_at hl 3 rfl) ?_
  refine lv_iconst (v := 1) hx hb dL_law_471 (by decide) ?_
  refine lv_iadd hx hb dL_law_472 ?_
  refine va_sld (A := fun q : Nat => s.heap.size ≤ q) hx hb hX hbl (Nat.not_le.mpr hbl) hS (lw_in 1 hi hL) dL_law_473 ?_
  refine lw_ciM C0 hB hV hS (μ := mX12_often) (as := [.int (xs (nI i + 1).toNatClampNeg)]) (rest := [.int r1]) rfl hz rfl rfl rfl (by decide +kernel : Cond.methodLink R_law 62 yX12_often ∈ lw_tbl) rfl (Nat.le_of_ble_eq_true rfl) (lv_room (Nat.le_of_ble_eq_true rfl)) hl.1 hf dL_law_474 (fun r2 S2 H locs hz hV hS => ?_)
  obtain ⟨e1, hR⟩ := hz
  cases e1
  exact lv_icmp_eq (tgt := 938) hx hb dL_law_477 (by decide) (fun _ => kk _ _ _ _ hR hV hS) (fun w => absurd rfl w)
set_option maxHeartbeats 1000000 in
set_option maxRecDepth 100000 in
theorem lw_case_12 (C0 : lw_At p s m meth c b L xs) (hB : lw_B D s adC adM cAC cAM) (hV : lw_V D adC adM cAC cAM SC SM H) (hS : va_S (fun q : Nat => s.heap.size ≤ q) s.heap H locs) (hR : RR SC SM) (hL : L ≤ 3072) (hi : i + 6 ≤ L) (hf : cells ≤ 600000 ∧ slots ≤ 7302250) (hl : lv_has ls 4 [(0, .ref b), (1, .ref (adC 0)), (2, .ref (adM 0)), (3, .int (nI i))]) (kk : ∀ (SC SM : zS) (H : Heap) (locs : List Loc), RR SC SM → lw_V D adC adM cAC cAM SC SM H → va_S (fun q : Nat => s.heap.size ≤ q) s.heap H locs → W p l e room_1 s m #[Value.ref b] below meth c H locs cells slots Z (F0 m 938 ls [])) : W p l e room_1 s m #[Value.ref b] below meth c H locs cells slots Z (F0 m 482 ls []) := by
  obtain ⟨hx, hb, hr, hml, hown, hts, hX, hbl, hlocks, hgv⟩ := id C0
  obtain ⟨bb, nn, dd, h⟩ := hR
  refine lv_aload_n hx hb dL_law_482 rfl (lv_at hl 1 rfl) ?_
  refine lv_aload_n hx hb dL_law_483 rfl (lv_at hl 0 rfl) ?_
  refine lv_iload_n hx hb dL_law_484 rfl (lv_at hl 3 rfl) ?_
  refine lv_iconst (v := 1) hx hb dL_law_485 (by decide) ?_
  refine lv_iadd hx hb dL_law_486 ?_
  refine va_sld (A := fun q : Nat => s.heap.size ≤ q) hx hb hX hbl (Nat.not_le.mpr hbl) hS (lw_in 1 hi hL) dL_law_487 ?_
  refine lw_ciC C0 hB hV hS (μ := mX11_score) (as := [.int (xs (nI i + 1).toNatClampNeg)]) (rest := []) rfl (o_score h _) rfl rfl rfl (by decide +kernel : Cond.methodLink R_law 63 yX11_score ∈ lw_tbl) rfl (Nat.le_of_ble_eq_true rfl) (lv_room (Nat.le_of_ble_eq_true rfl)) hl.1 hf dL_law_488 (fun r1 S1 H locs hz hV hS => ?_)
  refine lv_aload_n hx hb dL_law_491 rfl (lv_at hl 2 rfl) ?_
  refine lv_aload_n hx hb dL_law_492 rfl (lv_at hl 0 rfl) ?_
  refine lv_iload_n hx hb dL_law_493 rfl (lv_at hl 3 rfl) ?_
  refine lv_iconst (v := 1) hx hb dL_law_494 (by decide) ?_
  refine lv_iadd hx hb dL_law_495 ?_
  refine va_sld (A := fun q : Nat => s.heap.size ≤ q) hx hb hX hbl (Nat.not_le.mpr hbl) hS (lw_in 1 hi hL) dL_law_496 ?_
  refine lw_ciM C0 hB hV hS (μ := mX12_score) (as := [.int (xs (nI i + 1).toNatClampNeg)]) (rest := [.int r1]) rfl hz rfl rfl rfl (by decide +kernel : Cond.methodLink R_law 66 yX12_score ∈ lw_tbl) rfl (Nat.le_of_ble_eq_true rfl) (lv_room (Nat.le_of_ble_eq_true rfl)) hl.1 hf dL_law_497 (fun r2 S2 H locs hz hV hS => ?_)
  obtain ⟨e1, hR⟩ := hz
  cases e1
  exact lv_icmp_eq (tgt := 938) hx hb dL_law_500 (by decide) (fun _ => kk _ _ _ _ hR hV hS) (fun w => absurd rfl w)
set_option maxHeartbeats 1000000 in
set_option maxRecDepth 100000 in
theorem lw_case_13 (C0 : lw_At p s m meth c b L xs) (hB : lw_B D s adC adM cAC cAM) (hV : lw_V D adC adM cAC cAM SC SM H) (hS : va_S (fun q : Nat => s.heap.size ≤ q) s.heap H locs) (hR : RR SC SM) (hL : L ≤ 3072) (hi : i + 6 ≤ L) (hf : cells ≤ 600000 ∧ slots ≤ 7302250) (hl : lv_has ls 4 [(0, .ref b), (1, .ref (adC 0)), (2, .ref (adM 0)), (3, .int (nI i))]) (kk : ∀ (SC SM : zS) (H : Heap) (locs : List Loc), RR SC SM → lw_V D adC adM cAC cAM SC SM H → va_S (fun q : Nat => s.heap.size ≤ q) s.heap H locs → W p l e room_1 s m #[Value.ref b] below meth c H locs cells slots Z (F0 m 938 ls [])) : W p l e room_1 s m #[Value.ref b] below meth c H locs cells slots Z (F0 m 505 ls []) := by
  obtain ⟨hx, hb, hr, hml, hown, hts, hX, hbl, hlocks, hgv⟩ := id C0
  obtain ⟨bb, nn, dd, h⟩ := hR
  refine lv_aload_n hx hb dL_law_505 rfl (lv_at hl 1 rfl) ?_
  refine lw_ciC C0 hB hV hS (μ := mX11_same) (as := []) (rest := []) rfl (o_same h) rfl rfl rfl (by decide +kernel : Cond.methodLink R_law 67 yX11_same ∈ lw_tbl) rfl (Nat.le_of_ble_eq_true rfl) (lv_room (Nat.le_of_ble_eq_true rfl)) hl.1 hf dL_law_506 (fun r1 S1 H locs hz hV hS => ?_)
  refine lv_aload_n hx hb dL_law_509 rfl (lv_at hl 2 rfl) ?_
  refine lw_ciM C0 hB hV hS (μ := mX12_same) (as := []) (rest := [.int r1]) rfl hz rfl rfl rfl (by decide +kernel : Cond.methodLink R_law 71 yX12_same ∈ lw_tbl) rfl (Nat.le_of_ble_eq_true rfl) (lv_room (Nat.le_of_ble_eq_true rfl)) hl.1 hf dL_law_510 (fun r2 S2 H locs hz hV hS => ?_)
  obtain ⟨e1, hR⟩ := hz
  cases e1
  exact lv_icmp_eq (tgt := 938) hx hb dL_law_513 (by decide) (fun _ => kk _ _ _ _ hR hV hS) (fun w => absurd rfl w)
set_option maxHeartbeats 1000000 in
set_option maxRecDepth 100000 in
theorem lw_case_14 (C0 : lw_At p s m meth c b L xs) (hB : lw_B D s adC adM cAC cAM) (hV : lw_V D adC adM cAC cAM SC SM H) (hS : va_S (fun q : Nat => s.heap.size ≤ q) s.heap H locs) (hR : RR SC SM) (hL : L ≤ 3072) (hi : i + 6 ≤ L) (hf : cells ≤ 600000 ∧ slots ≤ 7302250) (hl : lv_has ls 4 [(0, .ref b), (1, .ref (adC 0)), (2, .ref (adM 0)), (3, .int (nI i))]) (kk : ∀ (SC SM : zS) (H : Heap) (locs : List Loc), RR SC SM → lw_V D adC adM cAC cAM SC SM H → va_S (fun q : Nat => s.heap.size ≤ q) s.heap H locs → W p l e room_1 s m #[Value.ref b] below meth c H locs cells slots Z (F0 m 938 ls [])) : W p l e room_1 s m #[Value.ref b] below meth c H locs cells slots Z (F0 m 518 ls []) := by
  obtain ⟨hx, hb, hr, hml, hown, hts, hX, hbl, hlocks, hgv⟩ := id C0
  obtain ⟨bb, nn, dd, h⟩ := hR
  refine lv_aload_n hx hb dL_law_518 rfl (lv_at hl 1 rfl) ?_
  refine lw_ciC C0 hB hV hS (μ := mX11_first) (as := []) (rest := []) rfl (o_first h) rfl rfl rfl (by decide +kernel : Cond.methodLink R_law 72 yX11_first ∈ lw_tbl) rfl (Nat.le_of_ble_eq_true rfl) (lv_room (Nat.le_of_ble_eq_true rfl)) hl.1 hf dL_law_519 (fun r1 S1 H locs hz hV hS => ?_)
  refine lv_aload_n hx hb dL_law_522 rfl (lv_at hl 2 rfl) ?_
  refine lw_ciM C0 hB hV hS (μ := mX12_first) (as := []) (rest := [.int r1]) rfl hz rfl rfl rfl (by decide +kernel : Cond.methodLink R_law 75 yX12_first ∈ lw_tbl) rfl (Nat.le_of_ble_eq_true rfl) (lv_room (Nat.le_of_ble_eq_true rfl)) hl.1 hf dL_law_523 (fun r2 S2 H locs hz hV hS => ?_)
  obtain ⟨e1, hR⟩ := hz
  cases e1
  exact lv_icmp_eq (tgt := 938) hx hb dL_law_526 (by decide) (fun _ => kk _ _ _ _ hR hV hS) (fun w => absurd rfl w)
set_option maxHeartbeats 1000000 in
set_option maxRecDepth 100000 in
theorem lw_case_15 (C0 : lw_At p s m meth c b L xs) (hB : lw_B D s adC adM cAC cAM) (hV : lw_V D adC adM cAC cAM SC SM H) (hS : va_S (fun q : Nat => s.heap.size ≤ q) s.heap H locs) (hR : RR SC SM) (hL : L ≤ 3072) (hi : i + 6 ≤ L) (hf : cells ≤ 600000 ∧ slots ≤ 7302250) (hl : lv_has ls 4 [(0, .ref b), (1, .ref (adC 0)), (2, .ref (adM 0)), (3, .int (nI i))]) (kk : ∀ (SC SM : zS) (H : Heap) (locs : List Loc), RR SC SM → lw_V D adC adM cAC cAM SC SM H → va_S (fun q : Nat => s.heap.size ≤ q) s.heap H locs → W p l e room_1 s m #[Value.ref b] below meth c H locs cells slots Z (F0 m 938 ls [])) : W p l e room_1 s m #[Value.ref b] below meth c H locs cells slots Z (F0 m 531 ls []) := by
  obtain ⟨hx, hb, hr, hml, hown, hts, hX, hbl, hlocks, hgv⟩ := id C0
  obtain ⟨bb, nn, dd, h⟩ := hR
  refine lv_aload_n hx hb dL_law_531 rfl (lv_at hl 1 rfl) ?_
  refine lv_aload_n hx hb dL_law_532 rfl (lv_at hl 0 rfl) ?_
  refine lv_iload_n hx hb dL_law_533 rfl (lv_at hl 3 rfl) ?_
  refine lv_iconst (v := 1) hx hb dL_law_534 (by decide) ?_
  refine lv_iadd hx hb dL_law_535 ?_
  refine va_sld (A := fun q : Nat => s.heap.size ≤ q) hx hb hX hbl (Nat.not_le.mpr hbl) hS (lw_in 1 hi hL) dL_law_536 ?_
  refine lv_aload_n hx hb dL_law_537 rfl (lv_at hl 0 rfl) ?_
  refine lv_iload_n hx hb dL_law_538 rfl (lv_at hl 3 rfl) ?_
  refine lv_iconst (v := 2) hx hb dL_law_539 (by decide) ?_
  refine lv_iadd hx hb dL_law_540 ?_
  refine va_sld (A := fun q : Nat => s.heap.size ≤ q) hx hb hX hbl (Nat.not_le.mpr hbl) hS (lw_in 2 hi hL) dL_law_541 ?_
  refine lv_aload_n hx hb dL_law_542 rfl (lv_at hl 0 rfl) ?_
  refine lv_iload_n hx hb dL_law_543 rfl (lv_at hl 3 rfl) ?_
  refine lv_iconst (v := 3) hx hb dL_law_544 (by decide) ?_
  refine lv_iadd hx hb dL_law_545 ?_
  refine va_sld (A := fun q : Nat => s.heap.size ≤ q) hx hb hX hbl (Nat.not_le.mpr hbl) hS (lw_in 3 hi hL) dL_law_546 ?_
  refine lv_aload_n hx hb dL_law_547 rfl (lv_at hl 0 rfl) ?_
  refine lv_iload_n hx hb dL_law_548 rfl (lv_at hl 3 rfl) ?_
  refine lv_iconst (v := 4) hx hb dL_law_549 (by decide) ?_
  refine lv_iadd hx hb dL_law_550 ?_
  refine va_sld (A := fun q : Nat => s.heap.size ≤ q) hx hb hX hbl (Nat.not_le.mpr hbl) hS (lw_in 4 hi hL) dL_law_551 ?_
  refine lw_ciC C0 hB hV hS (μ := mX11_span) (as := [.int (xs (nI i + 1).toNatClampNeg), .int (xs (nI i + 2).toNatClampNeg), .int (xs (nI i + 3).toNatClampNeg), .int (xs (nI i + 4).toNatClampNeg)]) (rest := []) rfl (o_span h _ _ _ _) rfl rfl rfl (by decide +kernel : Cond.methodLink R_law 76 yX11_span ∈ lw_tbl) rfl (Nat.le_of_ble_eq_true rfl) (lv_room (Nat.le_of_ble_eq_true rfl)) hl.1 hf dL_law_552 (fun r1 S1 H locs hz hV hS => ?_)
  refine lv_aload_n hx hb dL_law_555 rfl (lv_at hl 2 rfl) ?_
  refine lv_aload_n hx hb dL_law_556 rfl (lv_at hl 0 rfl) ?_
  refine lv_iload_n hx hb dL_law_557 rfl (lv_at hl 3 rfl) ?_
  refine lv_iconst (v := 1) hx hb dL_law_558 (by decide) ?_
  refine lv_iadd hx hb dL_law_559 ?_
  refine va_sld (A := fun q : Nat => s.heap.size ≤ q) hx hb hX hbl (Nat.not_le.mpr hbl) hS (lw_in 1 hi hL) dL_law_560 ?_
  refine lv_aload_n hx hb dL_law_561 rfl (lv_at hl 0 rfl) ?_
  refine lv_iload_n hx hb dL_law_562 rfl (lv_at hl 3 rfl) ?_
  refine lv_iconst (v := 2) hx hb dL_law_563 (by decide) ?_
  refine lv_iadd hx hb dL_law_564 ?_
  refine va_sld (A := fun q : Nat => s.heap.size ≤ q) hx hb hX hbl (Nat.not_le.mpr hbl) hS (lw_in 2 hi hL) dL_law_565 ?_
  refine lv_aload_n hx hb dL_law_566 rfl (lv_at hl 0 rfl) ?_
  refine lv_iload_n hx hb dL_law_567 rfl (lv_at hl 3 rfl) ?_
  refine lv_iconst (v := 3) hx hb dL_law_568 (by decide) ?_
  refine lv_iadd hx hb dL_law_569 ?_
  refine va_sld (A := fun q : Nat => s.heap.size ≤ q) hx hb hX hbl (Nat.not_le.mpr hbl) hS (lw_in 3 hi hL) dL_law_570 ?_
  refine lv_aload_n hx hb dL_law_571 rfl (lv_at hl 0 rfl) ?_
  refine lv_iload_n hx hb dL_law_572 rfl (lv_at hl 3 rfl) ?_
  refine lv_iconst (v := 4) hx hb dL_law_573 (by decide) ?_
  refine lv_iadd hx hb dL_law_574 ?_
  refine va_sld (A := fun q : Nat => s.heap.size ≤ q) hx hb hX hbl (Nat.not_le.mpr hbl) hS (lw_in 4 hi hL) dL_law_575 ?_
  refine lw_ciM C0 hB hV hS (μ := mX12_span) (as := [.int (xs (nI i + 1).toNatClampNeg), .int (xs (nI i + 2).toNatClampNeg), .int (xs (nI i + 3).toNatClampNeg), .int (xs (nI i + 4).toNatClampNeg)]) (rest := [.int r1]) rfl hz rfl rfl rfl (by decide +kernel : Cond.methodLink R_law 80 yX12_span ∈ lw_tbl) rfl (Nat.le_of_ble_eq_true rfl) (lv_room (Nat.le_of_ble_eq_true rfl)) hl.1 hf dL_law_576 (fun r2 S2 H locs hz hV hS => ?_)
  obtain ⟨e1, hR⟩ := hz
  cases e1
  exact lv_icmp_eq (tgt := 938) hx hb dL_law_579 (by decide) (fun _ => kk _ _ _ _ hR hV hS) (fun w => absurd rfl w)
set_option maxHeartbeats 1000000 in
set_option maxRecDepth 100000 in
theorem lw_case_16 (C0 : lw_At p s m meth c b L xs) (hB : lw_B D s adC adM cAC cAM) (hV : lw_V D adC adM cAC cAM SC SM H) (hS : va_S (fun q : Nat => s.heap.size ≤ q) s.heap H locs) (hR : RR SC SM) (hL : L ≤ 3072) (hi : i + 6 ≤ L) (hf : cells ≤ 600000 ∧ slots ≤ 7302250) (hl : lv_has ls 4 [(0, .ref b), (1, .ref (adC 0)), (2, .ref (adM 0)), (3, .int (nI i))]) (kk : ∀ (SC SM : zS) (H : Heap) (locs : List Loc), RR SC SM → lw_V D adC adM cAC cAM SC SM H → va_S (fun q : Nat => s.heap.size ≤ q) s.heap H locs → W p l e room_1 s m #[Value.ref b] below meth c H locs cells slots Z (F0 m 938 ls [])) : W p l e room_1 s m #[Value.ref b] below meth c H locs cells slots Z (F0 m 584 ls []) := by
  obtain ⟨hx, hb, hr, hml, hown, hts, hX, hbl, hlocks, hgv⟩ := id C0
  obtain ⟨bb, nn, dd, h⟩ := hR
  refine lv_aload_n hx hb dL_law_584 rfl (lv_at hl 1 rfl) ?_
  refine lv_aload_n hx hb dL_law_585 rfl (lv_at hl 0 rfl) ?_
  refine lv_iload_n hx hb dL_law_586 rfl (lv_at hl 3 rfl) ?_
  refine lv_iconst (v := 1) hx hb dL_law_587 (by decide) ?_
  refine lv_iadd hx hb dL_law_588 ?_
  refine va_sld (A := fun q : Nat => s.heap.size ≤ q) hx hb hX hbl (Nat.not_le.mpr hbl) hS (lw_in 1 hi hL) dL_law_589 ?_
  refine lw_ciC C0 hB hV hS (μ := mX11_found) (as := [.int (xs (nI i + 1).toNatClampNeg)]) (rest := []) rfl (o_found h _) rfl rfl rfl (by decide +kernel : Cond.methodLink R_law 81 yX11_found ∈ lw_tbl) rfl (Nat.le_of_ble_eq_true rfl) (lv_room (Nat.le_of_ble_eq_true rfl)) hl.1 hf dL_law_590 (fun r1 S1 H locs hz hV hS => ?_)
  refine lv_aload_n hx hb dL_law_593 rfl (lv_at hl 2 rfl) ?_
  refine lv_aload_n hx hb dL_law_594 rfl (lv_at hl 0 rfl) ?_
  refine lv_iload_n hx hb dL_law_595 rfl (lv_at hl 3 rfl) ?_
  refine lv_iconst (v := 1) hx hb dL_law_596 (by decide) ?_
  refine lv_iadd hx hb dL_law_597 ?_
  refine va_sld (A := fun q : Nat => s.heap.size ≤ q) hx hb hX hbl (Nat.not_le.mpr hbl) hS (lw_in 1 hi hL) dL_law_598 ?_
  refine lw_ciM C0 hB hV hS (μ := mX12_found) (as := [.int (xs (nI i + 1).toNatClampNeg)]) (rest := [.int r1]) rfl hz rfl rfl rfl (by decide +kernel : Cond.methodLink R_law 84 yX12_found ∈ lw_tbl) rfl (Nat.le_of_ble_eq_true rfl) (lv_room (Nat.le_of_ble_eq_true rfl)) hl.1 hf dL_law_599 (fun r2 S2 H locs hz hV hS => ?_)
  obtain ⟨e1, hR⟩ := hz
  cases e1
  exact lv_icmp_eq (tgt := 938) hx hb dL_law_602 (by decide) (fun _ => kk _ _ _ _ hR hV hS) (fun w => absurd rfl w)
set_option maxHeartbeats 1000000 in
set_option maxRecDepth 100000 in
theorem lw_case_17 (C0 : lw_At p s m meth c b L xs) (hB : lw_B D s adC adM cAC cAM) (hV : lw_V D adC adM cAC cAM SC SM H) (hS : va_S (fun q : Nat => s.heap.size ≤ q) s.heap H locs) (hR : RR SC SM) (hL : L ≤ 3072) (hi : i + 6 ≤ L) (hf : cells ≤ 600000 ∧ slots ≤ 7302250) (hl : lv_has ls 4 [(0, .ref b), (1, .ref (adC 0)), (2, .ref (adM 0)), (3, .int (nI i))]) (kk : ∀ (SC SM : zS) (H : Heap) (locs : List Loc), RR SC SM → lw_V D adC adM cAC cAM SC SM H → va_S (fun q : Nat => s.heap.size ≤ q) s.heap H locs → W p l e room_1 s m #[Value.ref b] below meth c H locs cells slots Z (F0 m 938 ls [])) : W p l e room_1 s m #[Value.ref b] below meth c H locs cells slots Z (F0 m 607 ls []) := by
  obtain ⟨hx, hb, hr, hml, hown, hts, hX, hbl, hlocks, hgv⟩ := id C0
  obtain ⟨bb, nn, dd, h⟩ := hR
  refine lv_aload_n hx hb dL_law_607 rfl (lv_at hl 1 rfl) ?_
  refine lv_aload_n hx hb dL_law_608 rfl (lv_at hl 0 rfl) ?_
  refine lv_iload_n hx hb dL_law_609 rfl (lv_at hl 3 rfl) ?_
  refine lv_iconst (v := 1) hx hb dL_law_610 (by decide) ?_
  refine lv_iadd hx hb dL_law_611 ?_
  refine va_sld (A := fun q : Nat => s.heap.size ≤ q) hx hb hX hbl (Nat.not_le.mpr hbl) hS (lw_in 1 hi hL) dL_law_612 ?_
  refine lw_ciC C0 hB hV hS (μ := mX11_shown) (as := [.int (xs (nI i + 1).toNatClampNeg)]) (rest := []) rfl (o_shown h _) rfl rfl rfl (by decide +kernel : Cond.methodLink R_law 85 yX11_shown ∈ lw_tbl) rfl (Nat.le_of_ble_eq_true rfl) (lv_room (Nat.le_of_ble_eq_true rfl)) hl.1 hf dL_law_613 (fun r1 S1 H locs hz hV hS => ?_)
  refine lv_aload_n hx hb dL_law_616 rfl (lv_at hl 2 rfl) ?_
  refine lv_aload_n hx hb dL_law_617 rfl (lv_at hl 0 rfl) ?_
  refine lv_iload_n hx hb dL_law_618 rfl (lv_at hl 3 rfl) ?_
  refine lv_iconst (v := 1) hx hb dL_law_619 (by decide) ?_
  refine lv_iadd hx hb dL_law_620 ?_
  refine va_sld (A := fun q : Nat => s.heap.size ≤ q) hx hb hX hbl (Nat.not_le.mpr hbl) hS (lw_in 1 hi hL) dL_law_621 ?_
  refine lw_ciM C0 hB hV hS (μ := mX12_shown) (as := [.int (xs (nI i + 1).toNatClampNeg)]) (rest := [.int r1]) rfl hz rfl rfl rfl (by decide +kernel : Cond.methodLink R_law 88 yX12_shown ∈ lw_tbl) rfl (Nat.le_of_ble_eq_true rfl) (lv_room (Nat.le_of_ble_eq_true rfl)) hl.1 hf dL_law_622 (fun r2 S2 H locs hz hV hS => ?_)
  obtain ⟨e1, hR⟩ := hz
  cases e1
  exact lv_icmp_eq (tgt := 938) hx hb dL_law_625 (by decide) (fun _ => kk _ _ _ _ hR hV hS) (fun w => absurd rfl w)
set_option maxHeartbeats 1000000 in
set_option maxRecDepth 100000 in
theorem lw_case_18 (C0 : lw_At p s m meth c b L xs) (hB : lw_B D s adC adM cAC cAM) (hV : lw_V D adC adM cAC cAM SC SM H) (hS : va_S (fun q : Nat => s.heap.size ≤ q) s.heap H locs) (hR : RR SC SM) (hL : L ≤ 3072) (hi : i + 6 ≤ L) (hf : cells ≤ 600000 ∧ slots ≤ 7302250) (hl : lv_has ls 4 [(0, .ref b), (1, .ref (adC 0)), (2, .ref (adM 0)), (3, .int (nI i))]) (kk : ∀ (SC SM : zS) (H : Heap) (locs : List Loc), RR SC SM → lw_V D adC adM cAC cAM SC SM H → va_S (fun q : Nat => s.heap.size ≤ q) s.heap H locs → W p l e room_1 s m #[Value.ref b] below meth c H locs cells slots Z (F0 m 938 ls [])) : W p l e room_1 s m #[Value.ref b] below meth c H locs cells slots Z (F0 m 630 ls []) := by
  obtain ⟨hx, hb, hr, hml, hown, hts, hX, hbl, hlocks, hgv⟩ := id C0
  obtain ⟨bb, nn, dd, h⟩ := hR
  refine lv_aload_n hx hb dL_law_630 rfl (lv_at hl 1 rfl) ?_
  refine lv_aload_n hx hb dL_law_631 rfl (lv_at hl 0 rfl) ?_
  refine lv_iload_n hx hb dL_law_632 rfl (lv_at hl 3 rfl) ?_
  refine lv_iconst (v := 1) hx hb dL_law_633 (by decide) ?_
  refine lv_iadd hx hb dL_law_634 ?_
  refine va_sld (A := fun q : Nat => s.heap.size ≤ q) hx hb hX hbl (Nat.not_le.mpr hbl) hS (lw_in 1 hi hL) dL_law_635 ?_
  refine lw_ciC C0 hB hV hS (μ := mX11_mend) (as := [.int (xs (nI i + 1).toNatClampNeg)]) (rest := []) rfl (o_mend h _) rfl rfl rfl (by decide +kernel : Cond.methodLink R_law 89 yX11_mend ∈ lw_tbl) rfl (Nat.le_of_ble_eq_true rfl) (lv_room (Nat.le_of_ble_eq_true rfl)) hl.1 hf dL_law_636 (fun r1 S1 H locs hz hV hS => ?_)
  refine lv_aload_n hx hb dL_law_639 rfl (lv_at hl 2 rfl) ?_
  refine lv_aload_n hx hb dL_law_640 rfl (lv_at hl 0 rfl) ?_
  refine lv_iload_n hx hb dL_law_641 rfl (lv_at hl 3 rfl) ?_
  refine lv_iconst (v := 1) hx hb dL_law_642 (by decide) ?_
  refine lv_iadd hx hb dL_law_643 ?_
  refine va_sld (A := fun q : Nat => s.heap.size ≤ q) hx hb hX hbl (Nat.not_le.mpr hbl) hS (lw_in 1 hi hL) dL_law_644 ?_
  refine lw_ciM C0 hB hV hS (μ := mX12_mend) (as := [.int (xs (nI i + 1).toNatClampNeg)]) (rest := [.int r1]) rfl hz rfl rfl rfl (by decide +kernel : Cond.methodLink R_law 92 yX12_mend ∈ lw_tbl) rfl (Nat.le_of_ble_eq_true rfl) (lv_room (Nat.le_of_ble_eq_true rfl)) hl.1 hf dL_law_645 (fun r2 S2 H locs hz hV hS => ?_)
  obtain ⟨e1, hR⟩ := hz
  cases e1
  exact lv_icmp_eq (tgt := 938) hx hb dL_law_648 (by decide) (fun _ => kk _ _ _ _ hR hV hS) (fun w => absurd rfl w)
set_option maxHeartbeats 1000000 in
set_option maxRecDepth 100000 in
theorem lw_case_19 (C0 : lw_At p s m meth c b L xs) (hB : lw_B D s adC adM cAC cAM) (hV : lw_V D adC adM cAC cAM SC SM H) (hS : va_S (fun q : Nat => s.heap.size ≤ q) s.heap H locs) (hR : RR SC SM) (hL : L ≤ 3072) (hi : i + 6 ≤ L) (hf : cells ≤ 600000 ∧ slots ≤ 7302250) (hl : lv_has ls 4 [(0, .ref b), (1, .ref (adC 0)), (2, .ref (adM 0)), (3, .int (nI i))]) (kk : ∀ (SC SM : zS) (H : Heap) (locs : List Loc), RR SC SM → lw_V D adC adM cAC cAM SC SM H → va_S (fun q : Nat => s.heap.size ≤ q) s.heap H locs → W p l e room_1 s m #[Value.ref b] below meth c H locs cells slots Z (F0 m 938 ls [])) : W p l e room_1 s m #[Value.ref b] below meth c H locs cells slots Z (F0 m 653 ls []) := by
  obtain ⟨hx, hb, hr, hml, hown, hts, hX, hbl, hlocks, hgv⟩ := id C0
  obtain ⟨bb, nn, dd, h⟩ := hR
  refine lv_aload_n hx hb dL_law_653 rfl (lv_at hl 1 rfl) ?_
  refine lv_aload_n hx hb dL_law_654 rfl (lv_at hl 0 rfl) ?_
  refine lv_iload_n hx hb dL_law_655 rfl (lv_at hl 3 rfl) ?_
  refine lv_iconst (v := 1) hx hb dL_law_656 (by decide) ?_
  refine lv_iadd hx hb dL_law_657 ?_
  refine va_sld (A := fun q : Nat => s.heap.size ≤ q) hx hb hX hbl (Nat.not_le.mpr hbl) hS (lw_in 1 hi hL) dL_law_658 ?_
  refine lv_aload_n hx hb dL_law_659 rfl (lv_at hl 0 rfl) ?_
  refine lv_iload_n hx hb dL_law_660 rfl (lv_at hl 3 rfl) ?_
  refine lv_iconst (v := 2) hx hb dL_law_661 (by decide) ?_
  refine lv_iadd hx hb dL_law_662 ?_
  refine va_sld (A := fun q : Nat => s.heap.size ≤ q) hx hb hX hbl (Nat.not_le.mpr hbl) hS (lw_in 2 hi hL) dL_law_663 ?_
  refine lv_aload_n hx hb dL_law_664 rfl (lv_at hl 0 rfl) ?_
  refine lv_iload_n hx hb dL_law_665 rfl (lv_at hl 3 rfl) ?_
  refine lv_iconst (v := 3) hx hb dL_law_666 (by decide) ?_
  refine lv_iadd hx hb dL_law_667 ?_
  refine va_sld (A := fun q : Nat => s.heap.size ≤ q) hx hb hX hbl (Nat.not_le.mpr hbl) hS (lw_in 3 hi hL) dL_law_668 ?_
  refine lw_ciC C0 hB hV hS (μ := mX11_sheet) (as := [.int (xs (nI i + 1).toNatClampNeg), .int (xs (nI i + 2).toNatClampNeg), .int (xs (nI i + 3).toNatClampNeg)]) (rest := []) rfl (o_sheet h _ _ _) rfl rfl rfl (by decide +kernel : Cond.methodLink R_law 93 yX11_sheet ∈ lw_tbl) rfl (Nat.le_of_ble_eq_true rfl) (lv_room (Nat.le_of_ble_eq_true rfl)) hl.1 hf dL_law_669 (fun r1 S1 H locs hz hV hS => ?_)
  refine lv_aload_n hx hb dL_law_672 rfl (lv_at hl 2 rfl) ?_
  refine lv_aload_n hx hb dL_law_673 rfl (lv_at hl 0 rfl) ?_
  refine lv_iload_n hx hb dL_law_674 rfl (lv_at hl 3 rfl) ?_
  refine lv_iconst (v := 1) hx hb dL_law_675 (by decide) ?_
  refine lv_iadd hx hb dL_law_676 ?_
  refine va_sld (A := fun q : Nat => s.heap.size ≤ q) hx hb hX hbl (Nat.not_le.mpr hbl) hS (lw_in 1 hi hL) dL_law_677 ?_
  refine lv_aload_n hx hb dL_law_678 rfl (lv_at hl 0 rfl) ?_
  refine lv_iload_n hx hb dL_law_679 rfl (lv_at hl 3 rfl) ?_
  refine lv_iconst (v := 2) hx hb dL_law_680 (by decide) ?_
  refine lv_iadd hx hb dL_law_681 ?_
  refine va_sld (A := fun q : Nat => s.heap.size ≤ q) hx hb hX hbl (Nat.not_le.mpr hbl) hS (lw_in 2 hi hL) dL_law_682 ?_
  refine lv_aload_n hx hb dL_law_683 rfl (lv_at hl 0 rfl) ?_
  refine lv_iload_n hx hb dL_law_684 rfl (lv_at hl 3 rfl) ?_
  refine lv_iconst (v := 3) hx hb dL_law_685 (by decide) ?_
  refine lv_iadd hx hb dL_law_686 ?_
  refine va_sld (A := fun q : Nat => s.heap.size ≤ q) hx hb hX hbl (Nat.not_le.mpr hbl) hS (lw_in 3 hi hL) dL_law_687 ?_
  refine lw_ciM C0 hB hV hS (μ := mX12_sheet) (as := [.int (xs (nI i + 1).toNatClampNeg), .int (xs (nI i + 2).toNatClampNeg), .int (xs (nI i + 3).toNatClampNeg)]) (rest := [.int r1]) rfl hz rfl rfl rfl (by decide +kernel : Cond.methodLink R_law 97 yX12_sheet ∈ lw_tbl) rfl (Nat.le_of_ble_eq_true rfl) (lv_room (Nat.le_of_ble_eq_true rfl)) hl.1 hf dL_law_688 (fun r2 S2 H locs hz hV hS => ?_)
  obtain ⟨e1, hR⟩ := hz
  cases e1
  exact lv_icmp_eq (tgt := 938) hx hb dL_law_691 (by decide) (fun _ => kk _ _ _ _ hR hV hS) (fun w => absurd rfl w)
set_option maxHeartbeats 1000000 in
set_option maxRecDepth 100000 in
theorem lw_case_20 (C0 : lw_At p s m meth c b L xs) (hB : lw_B D s adC adM cAC cAM) (hV : lw_V D adC adM cAC cAM SC SM H) (hS : va_S (fun q : Nat => s.heap.size ≤ q) s.heap H locs) (hR : RR SC SM) (hL : L ≤ 3072) (hi : i + 6 ≤ L) (hf : cells ≤ 600000 ∧ slots ≤ 7302250) (hl : lv_has ls 4 [(0, .ref b), (1, .ref (adC 0)), (2, .ref (adM 0)), (3, .int (nI i))]) (kk : ∀ (SC SM : zS) (H : Heap) (locs : List Loc), RR SC SM → lw_V D adC adM cAC cAM SC SM H → va_S (fun q : Nat => s.heap.size ≤ q) s.heap H locs → W p l e room_1 s m #[Value.ref b] below meth c H locs cells slots Z (F0 m 938 ls [])) : W p l e room_1 s m #[Value.ref b] below meth c H locs cells slots Z (F0 m 696 ls []) := by
  obtain ⟨hx, hb, hr, hml, hown, hts, hX, hbl, hlocks, hgv⟩ := id C0
  obtain ⟨bb, nn, dd, h⟩ := hR
  refine lv_aload_n hx hb dL_law_696 rfl (lv_at hl 1 rfl) ?_
  refine lv_aload_n hx hb dL_law_697 rfl (lv_at hl 0 rfl) ?_
  refine lv_iload_n hx hb dL_law_698 rfl (lv_at hl 3 rfl) ?_
  refine lv_iconst (v := 1) hx hb dL_law_699 (by decide) ?_
  refine lv_iadd hx hb dL_law_700 ?_
  refine va_sld (A := fun q : Nat => s.heap.size ≤ q) hx hb hX hbl (Nat.not_le.mpr hbl) hS (lw_in 1 hi hL) dL_law_701 ?_
  refine lw_ciC C0 hB hV hS (μ := mX11_lose) (as := [.int (xs (nI i + 1).toNatClampNeg)]) (rest := []) rfl (o_lose h _) rfl rfl rfl (by decide +kernel : Cond.methodLink R_law 98 yX11_lose ∈ lw_tbl) rfl (Nat.le_of_ble_eq_true rfl) (lv_room (Nat.le_of_ble_eq_true rfl)) hl.1 hf dL_law_702 (fun r1 S1 H locs hz hV hS => ?_)
  refine lv_aload_n hx hb dL_law_705 rfl (lv_at hl 2 rfl) ?_
  refine lv_aload_n hx hb dL_law_706 rfl (lv_at hl 0 rfl) ?_
  refine lv_iload_n hx hb dL_law_707 rfl (lv_at hl 3 rfl) ?_
  refine lv_iconst (v := 1) hx hb dL_law_708 (by decide) ?_
  refine lv_iadd hx hb dL_law_709 ?_
  refine va_sld (A := fun q : Nat => s.heap.size ≤ q) hx hb hX hbl (Nat.not_le.mpr hbl) hS (lw_in 1 hi hL) dL_law_710 ?_
  refine lw_ciM C0 hB hV hS (μ := mX12_lose) (as := [.int (xs (nI i + 1).toNatClampNeg)]) (rest := [.int r1]) rfl hz rfl rfl rfl (by decide +kernel : Cond.methodLink R_law 101 yX12_lose ∈ lw_tbl) rfl (Nat.le_of_ble_eq_true rfl) (lv_room (Nat.le_of_ble_eq_true rfl)) hl.1 hf dL_law_711 (fun r2 S2 H locs hz hV hS => ?_)
  obtain ⟨e1, hR⟩ := hz
  cases e1
  exact lv_icmp_eq (tgt := 938) hx hb dL_law_714 (by decide) (fun _ => kk _ _ _ _ hR hV hS) (fun w => absurd rfl w)
set_option maxHeartbeats 1000000 in
set_option maxRecDepth 100000 in
theorem lw_case_21 (C0 : lw_At p s m meth c b L xs) (hB : lw_B D s adC adM cAC cAM) (hV : lw_V D adC adM cAC cAM SC SM H) (hS : va_S (fun q : Nat => s.heap.size ≤ q) s.heap H locs) (hR : RR SC SM) (hL : L ≤ 3072) (hi : i + 6 ≤ L) (hf : cells ≤ 600000 ∧ slots ≤ 7302250) (hl : lv_has ls 4 [(0, .ref b), (1, .ref (adC 0)), (2, .ref (adM 0)), (3, .int (nI i))]) (kk : ∀ (SC SM : zS) (H : Heap) (locs : List Loc), RR SC SM → lw_V D adC adM cAC cAM SC SM H → va_S (fun q : Nat => s.heap.size ≤ q) s.heap H locs → W p l e room_1 s m #[Value.ref b] below meth c H locs cells slots Z (F0 m 938 ls [])) : W p l e room_1 s m #[Value.ref b] below meth c H locs cells slots Z (F0 m 719 ls []) := by
  obtain ⟨hx, hb, hr, hml, hown, hts, hX, hbl, hlocks, hgv⟩ := id C0
  obtain ⟨bb, nn, dd, h⟩ := hR
  refine lv_aload_n hx hb dL_law_719 rfl (lv_at hl 1 rfl) ?_
  refine lv_aload_n hx hb dL_law_720 rfl (lv_at hl 0 rfl) ?_
  refine lv_iload_n hx hb dL_law_721 rfl (lv_at hl 3 rfl) ?_
  refine lv_iconst (v := 1) hx hb dL_law_722 (by decide) ?_
  refine lv_iadd hx hb dL_law_723 ?_
  refine va_sld (A := fun q : Nat => s.heap.size ≤ q) hx hb hX hbl (Nat.not_le.mpr hbl) hS (lw_in 1 hi hL) dL_law_724 ?_
  refine lv_aload_n hx hb dL_law_725 rfl (lv_at hl 0 rfl) ?_
  refine lv_iload_n hx hb dL_law_726 rfl (lv_at hl 3 rfl) ?_
  refine lv_iconst (v := 2) hx hb dL_law_727 (by decide) ?_
  refine lv_iadd hx hb dL_law_728 ?_
  refine va_sld (A := fun q : Nat => s.heap.size ≤ q) hx hb hX hbl (Nat.not_le.mpr hbl) hS (lw_in 2 hi hL) dL_law_729 ?_
  refine lv_aload_n hx hb dL_law_730 rfl (lv_at hl 0 rfl) ?_
  refine lv_iload_n hx hb dL_law_731 rfl (lv_at hl 3 rfl) ?_
  refine lv_iconst (v := 3) hx hb dL_law_732 (by decide) ?_
  refine lv_iadd hx hb dL_law_733 ?_
  refine va_sld (A := fun q : Nat => s.heap.size ≤ q) hx hb hX hbl (Nat.not_le.mpr hbl) hS (lw_in 3 hi hL) dL_law_734 ?_
  refine lv_aload_n hx hb dL_law_735 rfl (lv_at hl 0 rfl) ?_
  refine lv_iload_n hx hb dL_law_736 rfl (lv_at hl 3 rfl) ?_
  refine lv_iconst (v := 4) hx hb dL_law_737 (by decide) ?_
  refine lv_iadd hx hb dL_law_738 ?_
  refine va_sld (A := fun q : Nat => s.heap.size ≤ q) hx hb hX hbl (Nat.not_le.mpr hbl) hS (lw_in 4 hi hL) dL_law_739 ?_
  refine lw_ciC C0 hB hV hS (μ := mX11_lay) (as := [.int (xs (nI i + 1).toNatClampNeg), .int (xs (nI i + 2).toNatClampNeg), .int (xs (nI i + 3).toNatClampNeg), .int (xs (nI i + 4).toNatClampNeg)]) (rest := []) rfl (o_lay h _ _ _ _) rfl rfl rfl (by decide +kernel : Cond.methodLink R_law 102 yX11_lay ∈ lw_tbl) rfl (Nat.le_of_ble_eq_true rfl) (lv_room (Nat.le_of_ble_eq_true rfl)) hl.1 hf dL_law_740 (fun r1 S1 H locs hz hV hS => ?_)
  refine lv_aload_n hx hb dL_law_743 rfl (lv_at hl 2 rfl) ?_
  refine lv_aload_n hx hb dL_law_744 rfl (lv_at hl 0 rfl) ?_
  refine lv_iload_n hx hb dL_law_745 rfl (lv_at hl 3 rfl) ?_
  refine lv_iconst (v := 1) hx hb dL_law_746 (by decide) ?_
  refine lv_iadd hx hb dL_law_747 ?_
  refine va_sld (A := fun q : Nat => s.heap.size ≤ q) hx hb hX hbl (Nat.not_le.mpr hbl) hS (lw_in 1 hi hL) dL_law_748 ?_
  refine lv_aload_n hx hb dL_law_749 rfl (lv_at hl 0 rfl) ?_
  refine lv_iload_n hx hb dL_law_750 rfl (lv_at hl 3 rfl) ?_
  refine lv_iconst (v := 2) hx hb dL_law_751 (by decide) ?_
  refine lv_iadd hx hb dL_law_752 ?_
  refine va_sld (A := fun q : Nat => s.heap.size ≤ q) hx hb hX hbl (Nat.not_le.mpr hbl) hS (lw_in 2 hi hL) dL_law_753 ?_
  refine lv_aload_n hx hb dL_law_754 rfl (lv_at hl 0 rfl) ?_
  refine lv_iload_n hx hb dL_law_755 rfl (lv_at hl 3 rfl) ?_
  refine lv_iconst (v := 3) hx hb dL_law_756 (by decide) ?_
  refine lv_iadd hx hb dL_law_757 ?_
  refine va_sld (A := fun q : Nat => s.heap.size ≤ q) hx hb hX hbl (Nat.not_le.mpr hbl) hS (lw_in 3 hi hL) dL_law_758 ?_
  refine lv_aload_n hx hb dL_law_759 rfl (lv_at hl 0 rfl) ?_
  refine lv_iload_n hx hb dL_law_760 rfl (lv_at hl 3 rfl) ?_
  refine lv_iconst (v := 4) hx hb dL_law_761 (by decide) ?_
  refine lv_iadd hx hb dL_law_762 ?_
  refine va_sld (A := fun q : Nat => s.heap.size ≤ q) hx hb hX hbl (Nat.not_le.mpr hbl) hS (lw_in 4 hi hL) dL_law_763 ?_
  refine lw_ciM C0 hB hV hS (μ := mX12_lay) (as := [.int (xs (nI i + 1).toNatClampNeg), .int (xs (nI i + 2).toNatClampNeg), .int (xs (nI i + 3).toNatClampNeg), .int (xs (nI i + 4).toNatClampNeg)]) (rest := [.int r1]) rfl hz rfl rfl rfl (by decide +kernel : Cond.methodLink R_law 105 yX12_lay ∈ lw_tbl) rfl (Nat.le_of_ble_eq_true rfl) (lv_room (Nat.le_of_ble_eq_true rfl)) hl.1 hf dL_law_764 (fun r2 S2 H locs hz hV hS => ?_)
  obtain ⟨e1, hR⟩ := hz
  cases e1
  exact lv_icmp_eq (tgt := 938) hx hb dL_law_767 (by decide) (fun _ => kk _ _ _ _ hR hV hS) (fun w => absurd rfl w)
set_option maxHeartbeats 1000000 in
set_option maxRecDepth 100000 in
theorem lw_case_22 (C0 : lw_At p s m meth c b L xs) (hB : lw_B D s adC adM cAC cAM) (hV : lw_V D adC adM cAC cAM SC SM H) (hS : va_S (fun q : Nat => s.heap.size ≤ q) s.heap H locs) (hR : RR SC SM) (hL : L ≤ 3072) (hi : i + 6 ≤ L) (hf : cells ≤ 600000 ∧ slots ≤ 7302250) (hl : lv_has ls 4 [(0, .ref b), (1, .ref (adC 0)), (2, .ref (adM 0)), (3, .int (nI i))]) (kk : ∀ (SC SM : zS) (H : Heap) (locs : List Loc), RR SC SM → lw_V D adC adM cAC cAM SC SM H → va_S (fun q : Nat => s.heap.size ≤ q) s.heap H locs → W p l e room_1 s m #[Value.ref b] below meth c H locs cells slots Z (F0 m 938 ls [])) : W p l e room_1 s m #[Value.ref b] below meth c H locs cells slots Z (F0 m 772 ls []) := by
  obtain ⟨hx, hb, hr, hml, hown, hts, hX, hbl, hlocks, hgv⟩ := id C0
  obtain ⟨bb, nn, dd, h⟩ := hR
  refine lv_aload_n hx hb dL_law_772 rfl (lv_at hl 1 rfl) ?_
  refine lv_aload_n hx hb dL_law_773 rfl (lv_at hl 0 rfl) ?_
  refine lv_iload_n hx hb dL_law_774 rfl (lv_at hl 3 rfl) ?_
  refine lv_iconst (v := 1) hx hb dL_law_775 (by decide) ?_
  refine lv_iadd hx hb dL_law_776 ?_
  refine va_sld (A := fun q : Nat => s.heap.size ≤ q) hx hb hX hbl (Nat.not_le.mpr hbl) hS (lw_in 1 hi hL) dL_law_777 ?_
  refine lv_aload_n hx hb dL_law_778 rfl (lv_at hl 0 rfl) ?_
  refine lv_iload_n hx hb dL_law_779 rfl (lv_at hl 3 rfl) ?_
  refine lv_iconst (v := 2) hx hb dL_law_780 (by decide) ?_
  refine lv_iadd hx hb dL_law_781 ?_
  refine va_sld (A := fun q : Nat => s.heap.size ≤ q) hx hb hX hbl (Nat.not_le.mpr hbl) hS (lw_in 2 hi hL) dL_law_782 ?_
  refine lv_aload_n hx hb dL_law_783 rfl (lv_at hl 0 rfl) ?_
  refine lv_iload_n hx hb dL_law_784 rfl (lv_at hl 3 rfl) ?_
  refine lv_iconst (v := 3) hx hb dL_law_785 (by decide) ?_
  refine lv_iadd hx hb dL_law_786 ?_
  refine va_sld (A := fun q : Nat => s.heap.size ≤ q) hx hb hX hbl (Nat.not_le.mpr hbl) hS (lw_in 3 hi hL) dL_law_787 ?_
  refine lw_ciC C0 hB hV hS (μ := mX11_get) (as := [.int (xs (nI i + 1).toNatClampNeg), .int (xs (nI i + 2).toNatClampNeg), .int (xs (nI i + 3).toNatClampNeg)]) (rest := []) rfl (o_get h _ _ _) rfl rfl rfl (by decide +kernel : Cond.methodLink R_law 106 yX11_get ∈ lw_tbl) rfl (Nat.le_of_ble_eq_true rfl) (lv_room (Nat.le_of_ble_eq_true rfl)) hl.1 hf dL_law_788 (fun r1 S1 H locs hz hV hS => ?_)
  refine lv_aload_n hx hb dL_law_791 rfl (lv_at hl 2 rfl) ?_
  refine lv_aload_n hx hb dL_law_792 rfl (lv_at hl 0 rfl) ?_
  refine lv_iload_n hx hb dL_law_793 rfl (lv_at hl 3 rfl) ?_
  refine lv_iconst (v := 1) hx hb dL_law_794 (by decide) ?_
  refine lv_iadd hx hb dL_law_795 ?_
  refine va_sld (A := fun q : Nat => s.heap.size ≤ q) hx hb hX hbl (Nat.not_le.mpr hbl) hS (lw_in 1 hi hL) dL_law_796 ?_
  refine lv_aload_n hx hb dL_law_797 rfl (lv_at hl 0 rfl) ?_
  refine lv_iload_n hx hb dL_law_798 rfl (lv_at hl 3 rfl) ?_
  refine lv_iconst (v := 2) hx hb dL_law_799 (by decide) ?_
  refine lv_iadd hx hb dL_law_800 ?_
  refine va_sld (A := fun q : Nat => s.heap.size ≤ q) hx hb hX hbl (Nat.not_le.mpr hbl) hS (lw_in 2 hi hL) dL_law_801 ?_
  refine lv_aload_n hx hb dL_law_802 rfl (lv_at hl 0 rfl) ?_
  refine lv_iload_n hx hb dL_law_803 rfl (lv_at hl 3 rfl) ?_
  refine lv_iconst (v := 3) hx hb dL_law_804 (by decide) ?_
  refine lv_iadd hx hb dL_law_805 ?_
  refine va_sld (A := fun q : Nat => s.heap.size ≤ q) hx hb hX hbl (Nat.not_le.mpr hbl) hS (lw_in 3 hi hL) dL_law_806 ?_
  refine lw_ciM C0 hB hV hS (μ := mX12_get) (as := [.int (xs (nI i + 1).toNatClampNeg), .int (xs (nI i + 2).toNatClampNeg), .int (xs (nI i + 3).toNatClampNeg)]) (rest := [.int r1]) rfl hz rfl rfl rfl (by decide +kernel : Cond.methodLink R_law 109 yX12_get ∈ lw_tbl) rfl (Nat.le_of_ble_eq_true rfl) (lv_room (Nat.le_of_ble_eq_true rfl)) hl.1 hf dL_law_807 (fun r2 S2 H locs hz hV hS => ?_)
  obtain ⟨e1, hR⟩ := hz
  cases e1
  exact lv_icmp_eq (tgt := 938) hx hb dL_law_810 (by decide) (fun _ => kk _ _ _ _ hR hV hS) (fun w => absurd rfl w)
set_option maxHeartbeats 1000000 in
set_option maxRecDepth 100000 in
theorem lw_case_23 (C0 : lw_At p s m meth c b L xs) (hB : lw_B D s adC adM cAC cAM) (hV : lw_V D adC adM cAC cAM SC SM H) (hS : va_S (fun q : Nat => s.heap.size ≤ q) s.heap H locs) (hR : RR SC SM) (hL : L ≤ 3072) (hi : i + 6 ≤ L) (hf : cells ≤ 600000 ∧ slots ≤ 7302250) (hl : lv_has ls 4 [(0, .ref b), (1, .ref (adC 0)), (2, .ref (adM 0)), (3, .int (nI i))]) (kk : ∀ (SC SM : zS) (H : Heap) (locs : List Loc), RR SC SM → lw_V D adC adM cAC cAM SC SM H → va_S (fun q : Nat => s.heap.size ≤ q) s.heap H locs → W p l e room_1 s m #[Value.ref b] below meth c H locs cells slots Z (F0 m 938 ls [])) : W p l e room_1 s m #[Value.ref b] below meth c H locs cells slots Z (F0 m 815 ls []) := by
  obtain ⟨hx, hb, hr, hml, hown, hts, hX, hbl, hlocks, hgv⟩ := id C0
  obtain ⟨bb, nn, dd, h⟩ := hR
  refine lv_aload_n hx hb dL_law_815 rfl (lv_at hl 1 rfl) ?_
  refine lv_aload_n hx hb dL_law_816 rfl (lv_at hl 0 rfl) ?_
  refine lv_iload_n hx hb dL_law_817 rfl (lv_at hl 3 rfl) ?_
  refine lv_iconst (v := 1) hx hb dL_law_818 (by decide) ?_
  refine lv_iadd hx hb dL_law_819 ?_
  refine va_sld (A := fun q : Nat => s.heap.size ≤ q) hx hb hX hbl (Nat.not_le.mpr hbl) hS (lw_in 1 hi hL) dL_law_820 ?_
  refine lv_aload_n hx hb dL_law_821 rfl (lv_at hl 0 rfl) ?_
  refine lv_iload_n hx hb dL_law_822 rfl (lv_at hl 3 rfl) ?_
  refine lv_iconst (v := 2) hx hb dL_law_823 (by decide) ?_
  refine lv_iadd hx hb dL_law_824 ?_
  refine va_sld (A := fun q : Nat => s.heap.size ≤ q) hx hb hX hbl (Nat.not_le.mpr hbl) hS (lw_in 2 hi hL) dL_law_825 ?_
  refine lv_aload_n hx hb dL_law_826 rfl (lv_at hl 0 rfl) ?_
  refine lv_iload_n hx hb dL_law_827 rfl (lv_at hl 3 rfl) ?_
  refine lv_iconst (v := 3) hx hb dL_law_828 (by decide) ?_
  refine lv_iadd hx hb dL_law_829 ?_
  refine va_sld (A := fun q : Nat => s.heap.size ≤ q) hx hb hX hbl (Nat.not_le.mpr hbl) hS (lw_in 3 hi hL) dL_law_830 ?_
  refine lv_aload_n hx hb dL_law_831 rfl (lv_at hl 0 rfl) ?_
  refine lv_iload_n hx hb dL_law_832 rfl (lv_at hl 3 rfl) ?_
  refine lv_iconst (v := 4) hx hb dL_law_833 (by decide) ?_
  refine lv_iadd hx hb dL_law_834 ?_
  refine va_sld (A := fun q : Nat => s.heap.size ≤ q) hx hb hX hbl (Nat.not_le.mpr hbl) hS (lw_in 4 hi hL) dL_law_835 ?_
  refine lv_aload_n hx hb dL_law_836 rfl (lv_at hl 0 rfl) ?_
  refine lv_iload_n hx hb dL_law_837 rfl (lv_at hl 3 rfl) ?_
  refine lv_iconst (v := 5) hx hb dL_law_838 (by decide) ?_
  refine lv_iadd hx hb dL_law_839 ?_
  refine va_sld (A := fun q : Nat => s.heap.size ≤ q) hx hb hX hbl (Nat.not_le.mpr hbl) hS (lw_in 5 hi hL) dL_law_840 ?_
  refine lw_ciC C0 hB hV hS (μ := mX11_copy) (as := [.int (xs (nI i + 1).toNatClampNeg), .int (xs (nI i + 2).toNatClampNeg), .int (xs (nI i + 3).toNatClampNeg), .int (xs (nI i + 4).toNatClampNeg), .int (xs (nI i + 5).toNatClampNeg)]) (rest := []) rfl (o_copy h _ _ _ _ _) rfl rfl rfl (by decide +kernel : Cond.methodLink R_law 110 yX11_copy ∈ lw_tbl) rfl (Nat.le_of_ble_eq_true rfl) (lv_room (Nat.le_of_ble_eq_true rfl)) hl.1 hf dL_law_841 (fun r1 S1 H locs hz hV hS => ?_)
  refine lv_aload_n hx hb dL_law_844 rfl (lv_at hl 2 rfl) ?_
  refine lv_aload_n hx hb dL_law_845 rfl (lv_at hl 0 rfl) ?_
  refine lv_iload_n hx hb dL_law_846 rfl (lv_at hl 3 rfl) ?_
  refine lv_iconst (v := 1) hx hb dL_law_847 (by decide) ?_
  refine lv_iadd hx hb dL_law_848 ?_
  refine va_sld (A := fun q : Nat => s.heap.size ≤ q) hx hb hX hbl (Nat.not_le.mpr hbl) hS (lw_in 1 hi hL) dL_law_849 ?_
  refine lv_aload_n hx hb dL_law_850 rfl (lv_at hl 0 rfl) ?_
  refine lv_iload_n hx hb dL_law_851 rfl (lv_at hl 3 rfl) ?_
  refine lv_iconst (v := 2) hx hb dL_law_852 (by decide) ?_
  refine lv_iadd hx hb dL_law_853 ?_
  refine va_sld (A := fun q : Nat => s.heap.size ≤ q) hx hb hX hbl (Nat.not_le.mpr hbl) hS (lw_in 2 hi hL) dL_law_854 ?_
  refine lv_aload_n hx hb dL_law_855 rfl (lv_at hl 0 rfl) ?_
  refine lv_iload_n hx hb dL_law_856 rfl (lv_at hl 3 rfl) ?_
  refine lv_iconst (v := 3) hx hb dL_law_857 (by decide) ?_
  refine lv_iadd hx hb dL_law_858 ?_
  refine va_sld (A := fun q : Nat => s.heap.size ≤ q) hx hb hX hbl (Nat.not_le.mpr hbl) hS (lw_in 3 hi hL) dL_law_859 ?_
  refine lv_aload_n hx hb dL_law_860 rfl (lv_at hl 0 rfl) ?_
  refine lv_iload_n hx hb dL_law_861 rfl (lv_at hl 3 rfl) ?_
  refine lv_iconst (v := 4) hx hb dL_law_862 (by decide) ?_
  refine lv_iadd hx hb dL_law_863 ?_
  refine va_sld (A := fun q : Nat => s.heap.size ≤ q) hx hb hX hbl (Nat.not_le.mpr hbl) hS (lw_in 4 hi hL) dL_law_864 ?_
  refine lv_aload_n hx hb dL_law_865 rfl (lv_at hl 0 rfl) ?_
  refine lv_iload_n hx hb dL_law_866 rfl (lv_at hl 3 rfl) ?_
  refine lv_iconst (v := 5) hx hb dL_law_867 (by decide) ?_
  refine lv_iadd hx hb dL_law_868 ?_
  refine va_sld (A := fun q : Nat => s.heap.size ≤ q) hx hb hX hbl (Nat.not_le.mpr hbl) hS (lw_in 5 hi hL) dL_law_869 ?_
  refine lw_ciM C0 hB hV hS (μ := mX12_copy) (as := [.int (xs (nI i + 1).toNatClampNeg), .int (xs (nI i + 2).toNatClampNeg), .int (xs (nI i + 3).toNatClampNeg), .int (xs (nI i + 4).toNatClampNeg), .int (xs (nI i + 5).toNatClampNeg)]) (rest := [.int r1]) rfl hz rfl rfl rfl (by decide +kernel : Cond.methodLink R_law 114 yX12_copy ∈ lw_tbl) rfl (Nat.le_of_ble_eq_true rfl) (lv_room (Nat.le_of_ble_eq_true rfl)) hl.1 hf dL_law_870 (fun r2 S2 H locs hz hV hS => ?_)
  obtain ⟨e1, hR⟩ := hz
  cases e1
  exact lv_icmp_eq (tgt := 938) hx hb dL_law_873 (by decide) (fun _ => kk _ _ _ _ hR hV hS) (fun w => absurd rfl w)
set_option maxHeartbeats 1000000 in
set_option maxRecDepth 100000 in
theorem lw_case_24 (C0 : lw_At p s m meth c b L xs) (hB : lw_B D s adC adM cAC cAM) (hV : lw_V D adC adM cAC cAM SC SM H) (hS : va_S (fun q : Nat => s.heap.size ≤ q) s.heap H locs) (hR : RR SC SM) (hL : L ≤ 3072) (hi : i + 6 ≤ L) (hf : cells ≤ 600000 ∧ slots ≤ 7302250) (hl : lv_has ls 4 [(0, .ref b), (1, .ref (adC 0)), (2, .ref (adM 0)), (3, .int (nI i))]) (kk : ∀ (SC SM : zS) (H : Heap) (locs : List Loc), RR SC SM → lw_V D adC adM cAC cAM SC SM H → va_S (fun q : Nat => s.heap.size ≤ q) s.heap H locs → W p l e room_1 s m #[Value.ref b] below meth c H locs cells slots Z (F0 m 938 ls [])) : W p l e room_1 s m #[Value.ref b] below meth c H locs cells slots Z (F0 m 878 ls []) := by
  obtain ⟨hx, hb, hr, hml, hown, hts, hX, hbl, hlocks, hgv⟩ := id C0
  obtain ⟨bb, nn, dd, h⟩ := hR
  refine lv_aload_n hx hb dL_law_878 rfl (lv_at hl 1 rfl) ?_
  refine lv_aload_n hx hb dL_law_879 rfl (lv_at hl 0 rfl) ?_
  refine lv_iload_n hx hb dL_law_880 rfl (lv_at hl 3 rfl) ?_
  refine lv_iconst (v := 1) hx hb dL_law_881 (by decide) ?_
  refine lv_iadd hx hb dL_law_882 ?_
  refine va_sld (A := fun q : Nat => s.heap.size ≤ q) hx hb hX hbl (Nat.not_le.mpr hbl) hS (lw_in 1 hi hL) dL_law_883 ?_
  refine lw_ciC C0 hB hV hS (μ := mX11_write) (as := [.int (xs (nI i + 1).toNatClampNeg)]) (rest := []) rfl (o_write h _) rfl rfl rfl (by decide +kernel : Cond.methodLink R_law 115 yX11_write ∈ lw_tbl) rfl (Nat.le_of_ble_eq_true rfl) (lv_room (Nat.le_of_ble_eq_true rfl)) hl.1 hf dL_law_884 (fun r1 S1 H locs hz hV hS => ?_)
  refine lv_aload_n hx hb dL_law_887 rfl (lv_at hl 2 rfl) ?_
  refine lv_aload_n hx hb dL_law_888 rfl (lv_at hl 0 rfl) ?_
  refine lv_iload_n hx hb dL_law_889 rfl (lv_at hl 3 rfl) ?_
  refine lv_iconst (v := 1) hx hb dL_law_890 (by decide) ?_
  refine lv_iadd hx hb dL_law_891 ?_
  refine va_sld (A := fun q : Nat => s.heap.size ≤ q) hx hb hX hbl (Nat.not_le.mpr hbl) hS (lw_in 1 hi hL) dL_law_892 ?_
  refine lw_ciM C0 hB hV hS (μ := mX12_write) (as := [.int (xs (nI i + 1).toNatClampNeg)]) (rest := [.int r1]) rfl hz rfl rfl rfl (by decide +kernel : Cond.methodLink R_law 118 yX12_write ∈ lw_tbl) rfl (Nat.le_of_ble_eq_true rfl) (lv_room (Nat.le_of_ble_eq_true rfl)) hl.1 hf dL_law_893 (fun r2 S2 H locs hz hV hS => ?_)
  obtain ⟨e1, hR⟩ := hz
  cases e1
  exact lv_icmp_eq (tgt := 938) hx hb dL_law_896 (by decide) (fun _ => kk _ _ _ _ hR hV hS) (fun w => absurd rfl w)
set_option maxHeartbeats 1000000 in
set_option maxRecDepth 100000 in
theorem lw_case_25 (C0 : lw_At p s m meth c b L xs) (hB : lw_B D s adC adM cAC cAM) (hV : lw_V D adC adM cAC cAM SC SM H) (hS : va_S (fun q : Nat => s.heap.size ≤ q) s.heap H locs) (hR : RR SC SM) (hL : L ≤ 3072) (hi : i + 6 ≤ L) (hf : cells ≤ 600000 ∧ slots ≤ 7302250) (hl : lv_has ls 4 [(0, .ref b), (1, .ref (adC 0)), (2, .ref (adM 0)), (3, .int (nI i))]) (kk : ∀ (SC SM : zS) (H : Heap) (locs : List Loc), RR SC SM → lw_V D adC adM cAC cAM SC SM H → va_S (fun q : Nat => s.heap.size ≤ q) s.heap H locs → W p l e room_1 s m #[Value.ref b] below meth c H locs cells slots Z (F0 m 938 ls [])) : W p l e room_1 s m #[Value.ref b] below meth c H locs cells slots Z (F0 m 901 ls []) := by
  obtain ⟨hx, hb, hr, hml, hown, hts, hX, hbl, hlocks, hgv⟩ := id C0
  obtain ⟨bb, nn, dd, h⟩ := hR
  refine lv_aload_n hx hb dL_law_901 rfl (lv_at hl 1 rfl) ?_
  refine lv_aload_n hx hb dL_law_902 rfl (lv_at hl 0 rfl) ?_
  refine lv_iload_n hx hb dL_law_903 rfl (lv_at hl 3 rfl) ?_
  refine lv_iconst (v := 1) hx hb dL_law_904 (by decide) ?_
  refine lv_iadd hx hb dL_law_905 ?_
  refine va_sld (A := fun q : Nat => s.heap.size ≤ q) hx hb hX hbl (Nat.not_le.mpr hbl) hS (lw_in 1 hi hL) dL_law_906 ?_
  refine lw_ciC C0 hB hV hS (μ := mX11_count) (as := [.int (xs (nI i + 1).toNatClampNeg)]) (rest := []) rfl (o_count h _) rfl rfl rfl (by decide +kernel : Cond.methodLink R_law 119 yX11_count ∈ lw_tbl) rfl (Nat.le_of_ble_eq_true rfl) (lv_room (Nat.le_of_ble_eq_true rfl)) hl.1 hf dL_law_907 (fun r1 S1 H locs hz hV hS => ?_)
  refine lv_aload_n hx hb dL_law_910 rfl (lv_at hl 2 rfl) ?_
  refine lv_aload_n hx hb dL_law_911 rfl (lv_at hl 0 rfl) ?_
  refine lv_iload_n hx hb dL_law_912 rfl (lv_at hl 3 rfl) ?_
  refine lv_iconst (v := 1) hx hb dL_law_913 (by decide) ?_
  refine lv_iadd hx hb dL_law_914 ?_
  refine va_sld (A := fun q : Nat => s.heap.size ≤ q) hx hb hX hbl (Nat.not_le.mpr hbl) hS (lw_in 1 hi hL) dL_law_915 ?_
  refine lw_ciM C0 hB hV hS (μ := mX12_count) (as := [.int (xs (nI i + 1).toNatClampNeg)]) (rest := [.int r1]) rfl hz rfl rfl rfl (by decide +kernel : Cond.methodLink R_law 122 yX12_count ∈ lw_tbl) rfl (Nat.le_of_ble_eq_true rfl) (lv_room (Nat.le_of_ble_eq_true rfl)) hl.1 hf dL_law_916 (fun r2 S2 H locs hz hV hS => ?_)
  obtain ⟨e1, hR⟩ := hz
  cases e1
  exact lv_icmp_eq (tgt := 938) hx hb dL_law_919 (by decide) (fun _ => kk _ _ _ _ hR hV hS) (fun w => absurd rfl w)
set_option maxHeartbeats 1000000 in
set_option maxRecDepth 100000 in
theorem lw_case_26 (C0 : lw_At p s m meth c b L xs) (hB : lw_B D s adC adM cAC cAM) (hV : lw_V D adC adM cAC cAM SC SM H) (hS : va_S (fun q : Nat => s.heap.size ≤ q) s.heap H locs) (hR : RR SC SM) (hL : L ≤ 3072) (hi : i + 6 ≤ L) (hf : cells ≤ 600000 ∧ slots ≤ 7302250) (hl : lv_has ls 4 [(0, .ref b), (1, .ref (adC 0)), (2, .ref (adM 0)), (3, .int (nI i))]) (kk : ∀ (SC SM : zS) (H : Heap) (locs : List Loc), RR SC SM → lw_V D adC adM cAC cAM SC SM H → va_S (fun q : Nat => s.heap.size ≤ q) s.heap H locs → W p l e room_1 s m #[Value.ref b] below meth c H locs cells slots Z (F0 m 938 ls [])) : W p l e room_1 s m #[Value.ref b] below meth c H locs cells slots Z (F0 m 924 ls []) := by
  obtain ⟨hx, hb, hr, hml, hown, hts, hX, hbl, hlocks, hgv⟩ := id C0
  obtain ⟨bb, nn, dd, h⟩ := hR
  refine lv_aload_n hx hb dL_law_924 rfl (lv_at hl 1 rfl) ?_
  refine lw_clC C0 hB hV hS (μ := mX11_digest) (as := []) (rest := []) rfl (o_digest h) rfl rfl rfl (by decide +kernel : Cond.methodLink R_law 123 yX11_digest ∈ lw_tbl) rfl (Nat.le_of_ble_eq_true rfl) (lv_room (Nat.le_of_ble_eq_true rfl)) hl.1 hf dL_law_925 (fun r1 S1 H locs hz hV hS => ?_)
  refine lv_aload_n hx hb dL_law_928 rfl (lv_at hl 2 rfl) ?_
  refine lw_clM C0 hB hV hS (μ := mX12_digest) (as := []) (rest := [.long r1]) rfl hz rfl rfl rfl (by decide +kernel : Cond.methodLink R_law 127 yX12_digest ∈ lw_tbl) rfl (Nat.le_of_ble_eq_true rfl) (lv_room (Nat.le_of_ble_eq_true rfl)) hl.1 hf dL_law_929 (fun r2 S2 H locs hz hV hS => ?_)
  obtain ⟨e1, hR⟩ := hz
  cases e1
  refine W.lcmp hx hb dL_law_932 ?_
  exact lv_if_eq (tgt := 938) hx hb dL_law_933 (by decide) (fun _ => kk _ _ _ _ hR hV hS) (fun w => absurd (lw_lc _) w)
end lawcases
