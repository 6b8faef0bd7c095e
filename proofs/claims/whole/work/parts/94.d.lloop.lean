/-! the law's loop -/
theorem lw_and31 (x : Int32) : 0 ≤ (x &&& 31).toInt ∧ (x &&& 31).toInt ≤ 31 := by
  have h1 : (x &&& 31).toBitVec.toNat ≤ 31 := by
    rw [Int32.toBitVec_and, BitVec.toNat_and]
    exact Nat.and_le_right
  have h2 : (x &&& 31).toInt = ((x &&& 31).toBitVec.toNat : Int) := BitVec.toInt_eq_toNat_of_lt (by omega)
  omega
theorem lw_go {i L : Nat} (hL : L ≤ 3072) (hi : i ≤ L) (h : ¬ Int32.ofNat L - 6 < nI i) : i + 6 ≤ L := by
  have e1 : Int32.ofNat L - 6 = J ((L : Int) - 6) := J_sub (L : Int) 6
  rw [e1, J_nI, J_lt (by omega) (by omega) (by omega) (by omega)] at h
  omega
set_option maxHeartbeats 1000000 in
set_option maxRecDepth 100000 in
theorem lw_loop {p : Program} {l : Launch} {e : Env} {s : State} {m : MethodId} {below : List Frame} {meth : Method} {c : Code} {b L : Nat} {xs : Nat → Int32} {D : va_G} {adC adM : Nat → Nat} {cAC cAM : Nat → ClassId} {cells slots : Nat} (hL : L ≤ 3072) (C0 : lw_At p s m meth c b L xs) (hB : lw_B D s adC adM cAC cAM) (hf : cells ≤ 600000 ∧ slots ≤ 7302250) : ∀ (n i : Nat), i ≤ L → L + 1 ≤ i + n → ∀ (SC SM : zS) (H : Heap) (locs : List Loc), RR SC SM → lw_V D adC adM cAC cAM SC SM H → va_S (fun q : Nat => s.heap.size ≤ q) s.heap H locs → ∀ (ls : Array Slot), lv_has ls 4 [(0, .ref b), (1, .ref (adC 0)), (2, .ref (adM 0)), (3, .int (nI i))] → W p l e room_1 s m #[Value.ref b] below meth c H locs cells slots (lw_Z below #[Value.ref b] s) (F0 m 18 ls []) := by
  obtain ⟨hx, hb, hr, hml, hown, hts, hX, hbl, hlocks, hgv⟩ := id C0
  have hbA : ¬ (fun q : Nat => s.heap.size ≤ q) b := Nat.not_le.mpr hbl
  intro n
  induction n with
  | zero =>
    intro i h1 h2
    exact absurd h2 (by omega)
  | succ n ih =>
    intro i hi hin SC SM H locs hR hV hS ls hl
    refine lv_iload_n hx hb dL_law_18 rfl (lv_at hl 3 rfl) ?_
    refine lv_aload_n hx hb dL_law_19 rfl (lv_at hl 0 rfl) ?_
    refine va_slen hx hb hX hbl hbA hS dL_law_20 ?_
    refine lv_bipush (v := 6) hx hb dL_law_21 (by decide) ?_
    refine lv_isub hx hb dL_law_23 ?_
    refine lv_icmp_gt (tgt := 944) hx hb dL_law_24 (by decide) (fun _ => ?_) (fun cc => ?_)
    · refine lv_iconst (v := 1) hx hb dL_law_944 (by decide) ?_
      refine va_forget (fun q hq => hS.2.2 q hq) ?_
      refine W.widen (k := 600000) (n := 7302250) hf.1 hf.2 ?_
      exact lw_ret hx hb hr hlocks dL_law_945
    · have hi6 : i + 6 ≤ L := lw_go hL hi cc
      have kk : ∀ (SC SM : zS) (H : Heap) (locs : List Loc), RR SC SM → lw_V D adC adM cAC cAM SC SM H → va_S (fun q : Nat => s.heap.size ≤ q) s.heap H locs → W p l e room_1 s m #[Value.ref b] below meth c H locs cells slots (lw_Z below #[Value.ref b] s) (F0 m 938 ls []) := by
        intro SC SM H locs hR hV hS
        refine lv_iinc (v := nI (i + 6)) (lv' := [(3, .int (nI (i + 6))), (0, .ref b), (1, .ref (adC 0)), (2, .ref (adM 0))]) hx hb dL_law_938 hl (k := 3) rfl (nI_add i 6) (by decide) rfl (fun ls hl => ?_)
        refine lv_goto (tgt := 18) hx hb dL_law_941 (by decide) ?_
        exact ih (i + 6) hi6 (by omega) SC SM H locs hR hV hS ls (lv_sub hl [1, 2, 3, 0] rfl)
      refine lv_aload_n hx hb dL_law_27 rfl (lv_at hl 0 rfl) ?_
      refine lv_iload_n hx hb dL_law_28 rfl (lv_at hl 3 rfl) ?_
      refine va_sld (A := fun q : Nat => s.heap.size ≤ q) hx hb hX hbl hbA hS (vp_in_nI (by omega) (by omega)) dL_law_29 ?_
      refine lv_bipush (v := 31) hx hb dL_law_30 (by decide) ?_
      refine lv_iand hx hb dL_law_32 ?_
      generalize hve : xs (nI i).toNatClampNeg &&& 31 = v
      obtain ⟨v0, v1⟩ : 0 ≤ v.toInt ∧ v.toInt ≤ 31 := hve ▸ lw_and31 _
      generalize hze : v.toInt = z at v0 v1
      clear ih hve
      by_cases hz : 26 < z
      · exact lv_tableOut (tgt := 938) hx hb dL_law_33 (Or.inr (by rw [hze]; exact hz)) (by decide) (kk SC SM H locs hR hV hS)
      obtain h | h | h | h | h | h | h | h | h | h | h | h | h | h | h | h | h | h | h | h | h | h | h | h | h | h | h : z = 0 ∨ z = 1 ∨ z = 2 ∨ z = 3 ∨ z = 4 ∨ z = 5 ∨ z = 6 ∨ z = 7 ∨ z = 8 ∨ z = 9 ∨ z = 10 ∨ z = 11 ∨ z = 12 ∨ z = 13 ∨ z = 14 ∨ z = 15 ∨ z = 16 ∨ z = 17 ∨ z = 18 ∨ z = 19 ∨ z = 20 ∨ z = 21 ∨ z = 22 ∨ z = 23 ∨ z = 24 ∨ z = 25 ∨ z = 26 := by clear kk hS hV hR hB C0 hts hX hl; omega
      · exact lv_tableIn (off := 123) (tgt := 156) hx hb dL_law_33 (by rw [hze, h]; decide) (by rw [hze, h]; decide) (by rw [hze, h]; rfl) (by decide) (lw_case_0 C0 hB hV hS hR hL hi6 hf hl kk)
      · exact lv_tableIn (off := 156) (tgt := 189) hx hb dL_law_33 (by rw [hze, h]; decide) (by rw [hze, h]; decide) (by rw [hze, h]; rfl) (by decide) (lw_case_1 C0 hB hV hS hR hL hi6 hf hl kk)
      · exact lv_tableIn (off := 179) (tgt := 212) hx hb dL_law_33 (by rw [hze, h]; decide) (by rw [hze, h]; decide) (by rw [hze, h]; rfl) (by decide) (lw_case_2 C0 hB hV hS hR hL hi6 hf hl kk)
      · exact lv_tableIn (off := 202) (tgt := 235) hx hb dL_law_33 (by rw [hze, h]; decide) (by rw [hze, h]; decide) (by rw [hze, h]; rfl) (by decide) (lw_case_3 C0 hB hV hS hR hL hi6 hf hl kk)
      · exact lv_tableIn (off := 235) (tgt := 268) hx hb dL_law_33 (by rw [hze, h]; decide) (by rw [hze, h]; decide) (by rw [hze, h]; rfl) (by decide) (lw_case_4 C0 hB hV hS hR hL hi6 hf hl kk)
      · exact lv_tableIn (off := 258) (tgt := 291) hx hb dL_law_33 (by rw [hze, h]; decide) (by rw [hze, h]; decide) (by rw [hze, h]; rfl) (by decide) (lw_case_5 C0 hB hV hS hR hL hi6 hf hl kk)
      · exact lv_tableIn (off := 291) (tgt := 324) hx hb dL_law_33 (by rw [hze, h]; decide) (by rw [hze, h]; decide) (by rw [hze, h]; rfl) (by decide) (lw_case_6 C0 hB hV hS hR hL hi6 hf hl kk)
      · exact lv_tableIn (off := 314) (tgt := 347) hx hb dL_law_33 (by rw [hze, h]; decide) (by rw [hze, h]; decide) (by rw [hze, h]; rfl) (by decide) (lw_case_7 C0 hB hV hS hR hL hi6 hf hl kk)
      · exact lv_tableIn (off := 337) (tgt := 370) hx hb dL_law_33 (by rw [hze, h]; decide) (by rw [hze, h]; decide) (by rw [hze, h]; rfl) (by decide) (lw_case_8 C0 hB hV hS hR hL hi6 hf hl kk)
      · exact lv_tableIn (off := 370) (tgt := 403) hx hb dL_law_33 (by rw [hze, h]; decide) (by rw [hze, h]; decide) (by rw [hze, h]; rfl) (by decide) (lw_case_9 C0 hB hV hS hR hL hi6 hf hl kk)
      · exact lv_tableIn (off := 403) (tgt := 436) hx hb dL_law_33 (by rw [hze, h]; decide) (by rw [hze, h]; decide) (by rw [hze, h]; rfl) (by decide) (lw_case_10 C0 hB hV hS hR hL hi6 hf hl kk)
      · exact lv_tableIn (off := 426) (tgt := 459) hx hb dL_law_33 (by rw [hze, h]; decide) (by rw [hze, h]; decide) (by rw [hze, h]; rfl) (by decide) (lw_case_11 C0 hB hV hS hR hL hi6 hf hl kk)
      · exact lv_tableIn (off := 449) (tgt := 482) hx hb dL_law_33 (by rw [hze, h]; decide) (by rw [hze, h]; decide) (by rw [hze, h]; rfl) (by decide) (lw_case_12 C0 hB hV hS hR hL hi6 hf hl kk)
      · exact lv_tableIn (off := 472) (tgt := 505) hx hb dL_law_33 (by rw [hze, h]; decide) (by rw [hze, h]; decide) (by rw [hze, h]; rfl) (by decide) (lw_case_13 C0 hB hV hS hR hL hi6 hf hl kk)
      · exact lv_tableIn (off := 485) (tgt := 518) hx hb dL_law_33 (by rw [hze, h]; decide) (by rw [hze, h]; decide) (by rw [hze, h]; rfl) (by decide) (lw_case_14 C0 hB hV hS hR hL hi6 hf hl kk)
      · exact lv_tableIn (off := 498) (tgt := 531) hx hb dL_law_33 (by rw [hze, h]; decide) (by rw [hze, h]; decide) (by rw [hze, h]; rfl) (by decide) (lw_case_15 C0 hB hV hS hR hL hi6 hf hl kk)
      · exact lv_tableIn (off := 551) (tgt := 584) hx hb dL_law_33 (by rw [hze, h]; decide) (by rw [hze, h]; decide) (by rw [hze, h]; rfl) (by decide) (lw_case_16 C0 hB hV hS hR hL hi6 hf hl kk)
      · exact lv_tableIn (off := 574) (tgt := 607) hx hb dL_law_33 (by rw [hze, h]; decide) (by rw [hze, h]; decide) (by rw [hze, h]; rfl) (by decide) (lw_case_17 C0 hB hV hS hR hL hi6 hf hl kk)
      · exact lv_tableIn (off := 597) (tgt := 630) hx hb dL_law_33 (by rw [hze, h]; decide) (by rw [hze, h]; decide) (by rw [hze, h]; rfl) (by decide) (lw_case_18 C0 hB hV hS hR hL hi6 hf hl kk)
      · exact lv_tableIn (off := 620) (tgt := 653) hx hb dL_law_33 (by rw [hze, h]; decide) (by rw [hze, h]; decide) (by rw [hze, h]; rfl) (by decide) (lw_case_19 C0 hB hV hS hR hL hi6 hf hl kk)
      · exact lv_tableIn (off := 663) (tgt := 696) hx hb dL_law_33 (by rw [hze, h]; decide) (by rw [hze, h]; decide) (by rw [hze, h]; rfl) (by decide) (lw_case_20 C0 hB hV hS hR hL hi6 hf hl kk)
      · exact lv_tableIn (off := 686) (tgt := 719) hx hb dL_law_33 (by rw [hze, h]; decide) (by rw [hze, h]; decide) (by rw [hze, h]; rfl) (by decide) (lw_case_21 C0 hB hV hS hR hL hi6 hf hl kk)
      · exact lv_tableIn (off := 739) (tgt := 772) hx hb dL_law_33 (by rw [hze, h]; decide) (by rw [hze, h]; decide) (by rw [hze, h]; rfl) (by decide) (lw_case_22 C0 hB hV hS hR hL hi6 hf hl kk)
      · exact lv_tableIn (off := 782) (tgt := 815) hx hb dL_law_33 (by rw [hze, h]; decide) (by rw [hze, h]; decide) (by rw [hze, h]; rfl) (by decide) (lw_case_23 C0 hB hV hS hR hL hi6 hf hl kk)
      · exact lv_tableIn (off := 845) (tgt := 878) hx hb dL_law_33 (by rw [hze, h]; decide) (by rw [hze, h]; decide) (by rw [hze, h]; rfl) (by decide) (lw_case_24 C0 hB hV hS hR hL hi6 hf hl kk)
      · exact lv_tableIn (off := 868) (tgt := 901) hx hb dL_law_33 (by rw [hze, h]; decide) (by rw [hze, h]; decide) (by rw [hze, h]; rfl) (by decide) (lw_case_25 C0 hB hV hS hR hL hi6 hf hl kk)
      · exact lv_tableIn (off := 891) (tgt := 924) hx hb dL_law_33 (by rw [hze, h]; decide) (by rw [hze, h]; decide) (by rw [hze, h]; rfl) (by decide) (lw_case_26 C0 hB hV hS hR hL hi6 hf hl kk)
