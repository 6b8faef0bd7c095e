/-! printed by wip/whole/gen2.py: the tables are checked -/
theorem zCs_0 : ∀ mi ∈ zMs_0, zCb mi = true := List.forall_mem_cons.mpr ⟨ckX0_addLetter, List.forall_mem_cons.mpr ⟨ckX0_addFigure, List.forall_mem_cons.mpr ⟨ckX1_restart, List.forall_mem_cons.mpr ⟨ckX1_reasonAgainst, List.forall_mem_cons.mpr ⟨ckX1_isSign, List.forall_mem_cons.mpr ⟨ckX1_fitsBehindPart, List.forall_mem_cons.mpr ⟨ckX1_accept, List.forall_mem_cons.mpr ⟨ckX1_mayEnd, List.forall_mem_cons.mpr ⟨ckX2_seek, List.forall_mem_cons.mpr ⟨ckX2_seekFromSign, List.forall_mem_cons.mpr ⟨ckX2_offer, List.forall_mem_cons.mpr ⟨ckX3_seek, List.forall_mem_cons.mpr ⟨ckX4_restart, List.forall_mem_cons.mpr ⟨ckX4_playBar, List.forall_mem_cons.mpr ⟨ckX4_obey, List.forall_mem_cons.mpr ⟨ckX4_openRepeat, List.forall_mem_cons.mpr ⟨ckX4_playOnceMore, List.forall_mem_cons.mpr ⟨ckX5_print, List.forall_mem_cons.mpr ⟨ckX5_printSpan, List.forall_mem_cons.mpr ⟨ckX5_printEndings, fun _ h => absurd h List.not_mem_nil⟩⟩⟩⟩⟩⟩⟩⟩⟩⟩⟩⟩⟩⟩⟩⟩⟩⟩⟩⟩
theorem zCs_1 : ∀ mi ∈ zMs_1, zCb mi = true := List.forall_mem_cons.mpr ⟨ckX5_printBar, List.forall_mem_cons.mpr ⟨ckX5_put, List.forall_mem_cons.mpr ⟨ckX6_take, List.forall_mem_cons.mpr ⟨ckX6_giveNumbers, List.forall_mem_cons.mpr ⟨ckX7_take, List.forall_mem_cons.mpr ⟨ckX7_playedCode, List.forall_mem_cons.mpr ⟨ckX7_becomeEmpty, List.forall_mem_cons.mpr ⟨ckX7_blame, List.forall_mem_cons.mpr ⟨ckX7_accept, List.forall_mem_cons.mpr ⟨ckX8_renew, List.forall_mem_cons.mpr ⟨ckX8_holds, List.forall_mem_cons.mpr ⟨ckX8_put, List.forall_mem_cons.mpr ⟨ckX9_take, List.forall_mem_cons.mpr ⟨ckX9_settle, List.forall_mem_cons.mpr ⟨ckX9_has, List.forall_mem_cons.mpr ⟨ckX9_alikeFrom, List.forall_mem_cons.mpr ⟨ckX9_cost, List.forall_mem_cons.mpr ⟨ckX9_cut, List.forall_mem_cons.mpr ⟨ckX9_isRepeat, List.forall_mem_cons.mpr ⟨ckX9_endings, fun _ h => absurd h List.not_mem_nil⟩⟩⟩⟩⟩⟩⟩⟩⟩⟩⟩⟩⟩⟩⟩⟩⟩⟩⟩⟩
theorem zCs_2 : ∀ mi ∈ zMs_2, zCb mi = true := List.forall_mem_cons.mpr ⟨ckX9_mayRepeat, List.forall_mem_cons.mpr ⟨ckX9_cheapest, List.forall_mem_cons.mpr ⟨ckX9_cheapestEndings, List.forall_mem_cons.mpr ⟨ckX9_endingsCost, List.forall_mem_cons.mpr ⟨ckX10_isFull, List.forall_mem_cons.mpr ⟨ckX10_add, List.forall_mem_cons.mpr ⟨ckX11_type, List.forall_mem_cons.mpr ⟨ckX11_wipe, List.forall_mem_cons.mpr ⟨ckX11_undo, List.forall_mem_cons.mpr ⟨ckX11_read, List.forall_mem_cons.mpr ⟨ckX11_depth, List.forall_mem_cons.mpr ⟨ckX11_fault, List.forall_mem_cons.mpr ⟨ckX11_within, List.forall_mem_cons.mpr ⟨ckX11_bar, List.forall_mem_cons.mpr ⟨ckX11_alike, List.forall_mem_cons.mpr ⟨ckX11_again, List.forall_mem_cons.mpr ⟨ckX11_plays, List.forall_mem_cons.mpr ⟨ckX11_often, List.forall_mem_cons.mpr ⟨ckX11_score, List.forall_mem_cons.mpr ⟨ckX11_same, fun _ h => absurd h List.not_mem_nil⟩⟩⟩⟩⟩⟩⟩⟩⟩⟩⟩⟩⟩⟩⟩⟩⟩⟩⟩⟩
theorem zCs_3 : ∀ mi ∈ zMs_3, zCb mi = true := List.forall_mem_cons.mpr ⟨ckX11_first, List.forall_mem_cons.mpr ⟨ckX11_span, List.forall_mem_cons.mpr ⟨ckX11_found, List.forall_mem_cons.mpr ⟨ckX11_shown, List.forall_mem_cons.mpr ⟨ckX11_mend, List.forall_mem_cons.mpr ⟨ckX11_sheet, List.forall_mem_cons.mpr ⟨ckX11_lose, List.forall_mem_cons.mpr ⟨ckX11_lay, List.forall_mem_cons.mpr ⟨ckX11_get, List.forall_mem_cons.mpr ⟨ckX11_copy, List.forall_mem_cons.mpr ⟨ckX11_write, List.forall_mem_cons.mpr ⟨ckX11_count, List.forall_mem_cons.mpr ⟨ckX11_digest, List.forall_mem_cons.mpr ⟨ckX11_isText, List.forall_mem_cons.mpr ⟨ckX11_isByte, List.forall_mem_cons.mpr ⟨ckX11_isDepth, List.forall_mem_cons.mpr ⟨ckX11_isSheet, List.forall_mem_cons.mpr ⟨ckX11_isForm, List.forall_mem_cons.mpr ⟨ckX11_isLetter, List.forall_mem_cons.mpr ⟨ckX11_isFigure, fun _ h => absurd h List.not_mem_nil⟩⟩⟩⟩⟩⟩⟩⟩⟩⟩⟩⟩⟩⟩⟩⟩⟩⟩⟩⟩
theorem zCs_4 : ∀ mi ∈ zMs_4, zCb mi = true := List.forall_mem_cons.mpr ⟨ckX11_barsOf, List.forall_mem_cons.mpr ⟨ckX11_signsOf, List.forall_mem_cons.mpr ⟨ckX11_hindranceAt, List.forall_mem_cons.mpr ⟨ckX11_finding, List.forall_mem_cons.mpr ⟨ckX11_noteChange, List.forall_mem_cons.mpr ⟨ckX11_freshRun, List.forall_mem_cons.mpr ⟨ckX11_freshScore, List.forall_mem_cons.mpr ⟨ckX11_freshSpans, List.forall_mem_cons.mpr ⟨ckX11_freshFound, List.forall_mem_cons.mpr ⟨ckX11_freshMending, List.forall_mem_cons.mpr ⟨ckX12_in, List.forall_mem_cons.mpr ⟨ckX12_isTwo, List.forall_mem_cons.mpr ⟨ckX12_lesser, List.forall_mem_cons.mpr ⟨ckX12_greater, List.forall_mem_cons.mpr ⟨ckX12_finds, List.forall_mem_cons.mpr ⟨ckX12_isSheet, List.forall_mem_cons.mpr ⟨ckX12_sheet, List.forall_mem_cons.mpr ⟨ckX12_lose, List.forall_mem_cons.mpr ⟨ckX12_lacks, List.forall_mem_cons.mpr ⟨ckX12_cut, fun _ h => absurd h List.not_mem_nil⟩⟩⟩⟩⟩⟩⟩⟩⟩⟩⟩⟩⟩⟩⟩⟩⟩⟩⟩⟩
theorem zCs_5 : ∀ mi ∈ zMs_5, zCb mi = true := List.forall_mem_cons.mpr ⟨ckX12_lay, List.forall_mem_cons.mpr ⟨ckX12_get, List.forall_mem_cons.mpr ⟨ckX12_copy, List.forall_mem_cons.mpr ⟨ckX12_type, List.forall_mem_cons.mpr ⟨ckX12_wipe, List.forall_mem_cons.mpr ⟨ckX12_undo, List.forall_mem_cons.mpr ⟨ckX12_read, List.forall_mem_cons.mpr ⟨ckX12_depth, List.forall_mem_cons.mpr ⟨ckX12_isLetter, List.forall_mem_cons.mpr ⟨ckX12_isFigure, List.forall_mem_cons.mpr ⟨ckX12_readsRun, List.forall_mem_cons.mpr ⟨ckX12_numbers, List.forall_mem_cons.mpr ⟨ckX12_isSign, List.forall_mem_cons.mpr ⟨ckX12_isOpen, List.forall_mem_cons.mpr ⟨ckX12_closes, List.forall_mem_cons.mpr ⟨ckX12_goesOn, List.forall_mem_cons.mpr ⟨ckX12_marks, List.forall_mem_cons.mpr ⟨ckX12_signed, List.forall_mem_cons.mpr ⟨ckX12_opensOne, List.forall_mem_cons.mpr ⟨ckX12_fails, fun _ h => absurd h List.not_mem_nil⟩⟩⟩⟩⟩⟩⟩⟩⟩⟩⟩⟩⟩⟩⟩⟩⟩⟩⟩⟩
theorem zCs_6 : ∀ mi ∈ zMs_6, zCb mi = true := List.forall_mem_cons.mpr ⟨ckX12_takes, List.forall_mem_cons.mpr ⟨ckX12_readsScore, List.forall_mem_cons.mpr ⟨ckX12_look, List.forall_mem_cons.mpr ⟨ckX12_faultBy, List.forall_mem_cons.mpr ⟨ckX12_fault, List.forall_mem_cons.mpr ⟨ckX12_withinBy, List.forall_mem_cons.mpr ⟨ckX12_within, List.forall_mem_cons.mpr ⟨ckX12_orders, List.forall_mem_cons.mpr ⟨ckX12_find, List.forall_mem_cons.mpr ⟨ckX12_isBar, List.forall_mem_cons.mpr ⟨ckX12_bar, List.forall_mem_cons.mpr ⟨ckX12_alike, List.forall_mem_cons.mpr ⟨ckX12_againBy, List.forall_mem_cons.mpr ⟨ckX12_isPlace, List.forall_mem_cons.mpr ⟨ckX12_again, List.forall_mem_cons.mpr ⟨ckX12_after, List.forall_mem_cons.mpr ⟨ckX12_playing, List.forall_mem_cons.mpr ⟨ckX12_playsAll, List.forall_mem_cons.mpr ⟨ckX12_playsBy, List.forall_mem_cons.mpr ⟨ckX12_plays, fun _ h => absurd h List.not_mem_nil⟩⟩⟩⟩⟩⟩⟩⟩⟩⟩⟩⟩⟩⟩⟩⟩⟩⟩⟩⟩
theorem zCs_7 : ∀ mi ∈ zMs_7, zCb mi = true := List.forall_mem_cons.mpr ⟨ckX12_oftenBy, List.forall_mem_cons.mpr ⟨ckX12_often, List.forall_mem_cons.mpr ⟨ckX12_scoreBy, List.forall_mem_cons.mpr ⟨ckX12_score, List.forall_mem_cons.mpr ⟨ckX12_firstNow, List.forall_mem_cons.mpr ⟨ckX12_same, List.forall_mem_cons.mpr ⟨ckX12_first, List.forall_mem_cons.mpr ⟨ckX12_offers, List.forall_mem_cons.mpr ⟨ckX12_spans, List.forall_mem_cons.mpr ⟨ckX12_tables, List.forall_mem_cons.mpr ⟨ckX12_spanBy, List.forall_mem_cons.mpr ⟨ckX12_span, List.forall_mem_cons.mpr ⟨ckX12_offersFound, List.forall_mem_cons.mpr ⟨ckX12_costOf, List.forall_mem_cons.mpr ⟨ckX12_finding, List.forall_mem_cons.mpr ⟨ckX12_later, List.forall_mem_cons.mpr ⟨ckX12_laterSpan, List.forall_mem_cons.mpr ⟨ckX12_tellsByte, List.forall_mem_cons.mpr ⟨ckX12_tellsBar, List.forall_mem_cons.mpr ⟨ckX12_opensSpan, fun _ h => absurd h List.not_mem_nil⟩⟩⟩⟩⟩⟩⟩⟩⟩⟩⟩⟩⟩⟩⟩⟩⟩⟩⟩⟩
theorem zCs_8 : ∀ mi ∈ zMs_8, zCb mi = true := List.forall_mem_cons.mpr ⟨ckX12_shows, List.forall_mem_cons.mpr ⟨ckX12_findAll, List.forall_mem_cons.mpr ⟨ckX12_foundBy, List.forall_mem_cons.mpr ⟨ckX12_found, List.forall_mem_cons.mpr ⟨ckX12_shownBy, List.forall_mem_cons.mpr ⟨ckX12_shown, List.forall_mem_cons.mpr ⟨ckX12_mends, List.forall_mem_cons.mpr ⟨ckX12_mendBy, List.forall_mem_cons.mpr ⟨ckX12_mend, List.forall_mem_cons.mpr ⟨ckX12_write, List.forall_mem_cons.mpr ⟨ckX12_count, List.forall_mem_cons.mpr ⟨ckX12_tellsBarOf, List.forall_mem_cons.mpr ⟨ckX12_digest, fun _ h => absurd h List.not_mem_nil⟩⟩⟩⟩⟩⟩⟩⟩⟩⟩⟩⟩⟩
theorem zCs_all : ∀ mi ∈ zMs, zCb mi = true := List.forall_mem_append.mpr ⟨zCs_0, List.forall_mem_append.mpr ⟨zCs_1, List.forall_mem_append.mpr ⟨zCs_2, List.forall_mem_append.mpr ⟨zCs_3, List.forall_mem_append.mpr ⟨zCs_4, List.forall_mem_append.mpr ⟨zCs_5, List.forall_mem_append.mpr ⟨zCs_6, List.forall_mem_append.mpr ⟨zCs_7, zCs_8⟩⟩⟩⟩⟩⟩⟩⟩
theorem zCs_ok : ∀ μ mi, zn zMs μ = some mi → zCok zcl zT zns zMs mi := fun μ mi h => zCb_ok (zCs_all mi (by rw [zn_eq] at h; exact List.mem_of_getElem? h))
def zMb (mi : zMI) (h : Nat × Nat × Nat × Nat) : Bool :=
  (decide (zn zT h.2.1 = some (Cond.initialized mi.1.cls)) && (Nat.ble mi.2.2.1 40 && ((match mi.2.2.2.2.2.2.1 with
    | 0 => decide (zn zT h.2.2.1 = some (Cond.static mi.1))
    | ci + 1 => decide (zn zT h.2.2.1 = some (Cond.instanceMethod mi.1)) && (decide (zn zT h.2.2.2 = some (Cond.selects mi.1.cls mi.1 mi.1)) && (match zn zcl ci with
      | some (C, _, _) => decide (C = mi.1.cls)
      | none => false))) &&
  (decide (mi.1.cls ≠ "java/lang/invoke/MethodHandle") && (decide (mi.1.cls ≠ "java/lang/invoke/VarHandle") && (decide ((parseMethodDescriptor mi.1.desc).map (fun d => d.parameters.length) = some mi.2.2.2.2.2.1) && (plainName mi.1.cls && (match mi.2.2.2.2.1 with
    | 0 => decide (mi.2.2.2.1 = none)
    | 1 => decide (mi.2.2.2.1 = some .int)
    | 2 => decide (mi.2.2.2.1 = some .boolean)
    | 3 => decide (mi.2.2.2.1 = some .long)
    | _ => (match mi.2.2.2.1 with
      | some (.object _) => true
      | _ => false)))))))))
theorem zMb_ok {mi : zMI} {h : Nat × Nat × Nat × Nat} (hc : Cond.code mi.1 mi.2.1 mi.2.2.1 mi.2.2.2.1 ∈ zT) (hb : zMb mi h = true) : zMok zcl zT mi := by
  obtain ⟨y, bs, mL, ret, rt, na, kd, C⟩ := mi
  unfold zMb at hb
  dsimp only at hb
  obtain ⟨b2, hb⟩ := zand hb
  obtain ⟨b3, hb⟩ := zand hb
  obtain ⟨b4, hb⟩ := zand hb
  obtain ⟨b5, hb⟩ := zand hb
  obtain ⟨b6, hb⟩ := zand hb
  obtain ⟨b7, hb⟩ := zand hb
  obtain ⟨b8, hb⟩ := zand hb
  refine ⟨hc, zmem (of_decide_eq_true b2), Nat.le_of_ble_eq_true b3, ?_, ?_, of_decide_eq_true b5, of_decide_eq_true b6, of_decide_eq_true b7, b8, ?_⟩
  · intro e
    dsimp only at e
    subst e
    exact zmem (of_decide_eq_true b4)
  · intro ci e
    dsimp only at e
    subst e
    obtain ⟨c1, c2⟩ := zand b4
    obtain ⟨c2, c3⟩ := zand c2
    refine ⟨zmem (of_decide_eq_true c1), zmem (of_decide_eq_true c2), ?_⟩
    rw [zn_eq] at c3
    split at c3
    · rename_i C F N hc
      have := of_decide_eq_true c3
      subst this
      exact ⟨F, N, hc⟩
    · exact absurd c3 (by simp)
  · split at hb
    · have := of_decide_eq_true hb; exact this
    · have := of_decide_eq_true hb; exact this
    · have := of_decide_eq_true hb; exact this
    · have := of_decide_eq_true hb; exact this
    · rename_i n0 n1 n2 n3
      have : ∃ C, ret = some (.object C) := by
        split at hb
        · exact ⟨_, rfl⟩
        · exact absurd hb (by simp)
      dsimp only
      split
      · exact absurd rfl n0
      · exact absurd rfl n1
      · exact absurd rfl n2
      · exact absurd rfl n3
      · exact this
theorem zMz_of {Ms : List zMI} {Mh : List (Nat × Nat × Nat × Nat)} (hc : ∀ mi ∈ Ms, Cond.code mi.1 mi.2.1 mi.2.2.1 mi.2.2.2.1 ∈ zT) (h : ((Ms.zip Mh).all (fun q => zMb q.1 q.2)) = true) (hl : Ms.length = Mh.length) : ∀ mi ∈ Ms, zMok zcl zT mi := by
  intro mi hm
  obtain ⟨μ, h2⟩ := List.getElem?_of_mem hm
  have hlt : μ < Mh.length := by rw [← hl]; exact (List.getElem?_eq_some_iff.mp h2).1
  have hz : (Ms.zip Mh)[μ]? = some (mi, Mh[μ]) := by simp [List.getElem?_zip_eq_some, h2, hlt]
  exact zMb_ok (hc mi hm) (List.all_eq_true.mp h _ (List.mem_of_getElem? hz))
