/-! Printed by gen2.py: the facts that soundness asks, of this program. -/
def x_isN (w : Cond) : Bool := match w with
  | .fieldLinkNest _ _ _ _ _ _ => true
  | .methodLinkNest _ _ _ _ => true
  | _ => false
def x_Nw : List Cond := lw_tbl.filter x_isN
theorem x_nw_mem {i : Nat} {w : Cond} (h : lw_tbl[i]? = some w) (hn : x_isN w = true) : w ∈ x_Nw := List.mem_filter.mpr ⟨List.mem_of_getElem? h, hn⟩
theorem x_zip_mem {α β : Type} : ∀ {l1 : List α} {l2 : List β} {i : Nat} {a : α}, l1.length = l2.length → l1[i]? = some a → ∃ b, l2[i]? = some b ∧ (a, b) ∈ l1.zip l2
  | [], _, _, _, _, h => by simp at h
  | x :: r, [], _, _, hl, _ => by simp at hl
  | x :: r, y :: u, 0, a, _, h => by
    have e : x = a := by simpa using h
    subst e
    exact ⟨y, rfl, List.mem_cons_self⟩
  | x :: r, y :: u, i + 1, a, hl, h => by
    obtain ⟨b, h1, h2⟩ := x_zip_mem (l1 := r) (l2 := u) (i := i) (by simpa using hl) (by simpa using h)
    exact ⟨b, by simpa using h1, List.mem_cons_of_mem _ h2⟩
theorem x_zip_none {α β : Type} {l1 : List α} {l2 : List β} {i : Nat} (hl : l1.length = l2.length) (h : l1[i]? = none) : l2[i]? = none := by
  rw [List.getElem?_eq_none_iff] at h ⊢; omega
theorem x_mkC_ok {M : xM} {o : Nat} {y : MethodName} {cc : ByteArray} {ret : Option FieldType} {np : Nat} {stc : Bool} {p1 p2 p3 p4 : Nat} (h : x_mkC M (o, y, cc, ret, np, stc) p1 p2 p3 p4 = true) (hkd : M.2.2.2.all x_kdB = true) : x_Mok x_Ts x_Pr x_N vwCl M o y cc ret np stc := by
  simp only [x_mkC, Bool.and_eq_true, decide_eq_true_eq] at h
  obtain ⟨⟨⟨⟨⟨⟨⟨⟨⟨⟨⟨h1, h2⟩, h3⟩, h4⟩, h5⟩, h6⟩, h7⟩, h8⟩, h9⟩, h10⟩, h11⟩, h12⟩ := h
  refine ⟨x_wd_mem h1, x_wd_mem h2, h3, h4, ⟨h5, h6, h7⟩, ⟨⟨h8, hkd⟩, h9⟩, fun hs => ?_, fun hs => ?_, fun w hw => ?_, ?_⟩
  · rw [hs] at h10; exact x_wd_mem h10
  · rw [hs] at h10
    simp only [cond_false, Bool.and_eq_true] at h10
    refine ⟨x_wd_mem h10.1.1, x_wd_mem h10.1.2, ?_⟩
    have z := h10.2
    split at z
    · next C T n e => exact ⟨T, n, by rw [e, of_decide_eq_true z]⟩
    · cases z
  · have z := List.all_eq_true.mp h11 w hw
    simp only [Bool.and_eq_true, decide_eq_true_eq] at z
    exact z
  · unfold x_ret
    revert h12
    generalize M.2.1 = q
    intro h12
    match q, h12 with
    | 0, h => exact (show ret = none from of_decide_eq_true h)
    | 1, h => exact (show ret = some .int from of_decide_eq_true h)
    | 2, h => exact (show ret = some .long from of_decide_eq_true h)
    | _ + 3, h => exact (show ret = some .boolean from of_decide_eq_true h)
set_option maxRecDepth 100000 in
theorem x_z0 : ∀ q ∈ x_PL0.zip x_infL0, ∃ p1 p2 p3 p4, x_mkC q.1 q.2 p1 p2 p3 p4 = true := List.forall_mem_cons.mpr ⟨⟨_, _, _, _, x_mk_Deeds_isKind⟩, List.forall_mem_cons.mpr ⟨⟨_, _, _, _, x_mk_Deeds_highestSecond⟩, List.forall_mem_cons.mpr ⟨⟨_, _, _, _, x_mk_Deeds_act⟩, List.forall_mem_cons.mpr ⟨⟨_, _, _, _, x_mk_Deeds_shove⟩, List.forall_mem_cons.mpr ⟨⟨_, _, _, _, x_mk_Deeds_turn⟩, List.forall_mem_cons.mpr ⟨⟨_, _, _, _, x_mk_Deeds_look⟩, List.forall_mem_cons.mpr ⟨⟨_, _, _, _, x_mk_Deeds_letGo⟩, List.forall_mem_cons.mpr ⟨⟨_, _, _, _, x_mk_Deeds_grasp⟩, List.forall_mem_cons.mpr ⟨⟨_, _, _, _, x_mk_Deeds_lose⟩, List.forall_mem_cons.mpr ⟨⟨_, _, _, _, x_mk_Deeds_pass⟩, List.forall_mem_cons.mpr ⟨⟨_, _, _, _, x_mk_Deeds_seed⟩, List.forall_mem_cons.mpr ⟨⟨_, _, _, _, x_mk_Deeds_draw⟩, List.forall_mem_cons.mpr ⟨⟨_, _, _, _, x_mk_Deeds_drawnAct⟩, List.forall_mem_cons.mpr ⟨⟨_, _, _, _, x_mk_Eye_canForm⟩, List.forall_mem_cons.mpr ⟨⟨_, _, _, _, x_mk_Eye_wouldForm⟩, List.forall_mem_cons.mpr ⟨⟨_, _, _, _, x_mk_Eye_fieldsSeen⟩, List.forall_mem_cons.mpr ⟨⟨_, _, _, _, x_mk_Eye_nearestOf⟩, List.forall_mem_cons.mpr ⟨⟨_, _, _, _, x_mk_Eye_countFromAll⟩, List.forall_mem_cons.mpr ⟨⟨_, _, _, _, x_mk_Eye_gatherStands⟩, List.forall_mem_cons.mpr ⟨⟨_, _, _, _, x_mk_Eye_isGathered⟩, List.forall_mem_cons.mpr ⟨⟨_, _, _, _, x_mk_Eye_chooseStands⟩, List.forall_mem_cons.mpr ⟨⟨_, _, _, _, x_mk_Eye_isChosen⟩, List.forall_mem_cons.mpr ⟨⟨_, _, _, _, x_mk_Eye_chosenStand⟩, List.forall_mem_cons.mpr ⟨⟨_, _, _, _, x_mk_Garden_reads⟩, List.forall_mem_cons.mpr ⟨⟨_, _, _, _, x_mk_Garden_fill⟩, List.forall_mem_cons.mpr ⟨⟨_, _, _, _, x_mk_Garden_link⟩, List.forall_mem_cons.mpr ⟨⟨_, _, _, _, x_mk_Garden_openAt⟩, List.forall_mem_cons.mpr ⟨⟨_, _, _, _, x_mk_Garden_kindBySign⟩, List.forall_mem_cons.mpr ⟨⟨_, _, _, _, x_mk_Garden_has⟩, List.forall_mem_cons.mpr ⟨⟨_, _, _, _, x_mk_Garden_at⟩, List.forall_mem_cons.mpr ⟨⟨_, _, _, _, x_mk_Garden_rowOf⟩, List.forall_mem_cons.mpr ⟨⟨_, _, _, _, x_mk_Garden_columnOf⟩, List.forall_mem_cons.mpr ⟨⟨_, _, _, _, x_mk_Garden_kindOf⟩, List.forall_mem_cons.mpr ⟨⟨_, _, _, _, x_mk_Garden_isWall⟩, List.forall_mem_cons.mpr ⟨⟨_, _, _, _, x_mk_Garden_sightOn⟩, List.forall_mem_cons.mpr ⟨⟨_, _, _, _, x_mk_Garden_next⟩, List.forall_mem_cons.mpr ⟨⟨_, _, _, _, x_mk_Garden_slopeOn⟩, List.forall_mem_cons.mpr ⟨⟨_, _, _, _, x_mk_Garden_runFrom⟩, List.forall_mem_cons.mpr ⟨⟨_, _, _, _, x_mk_Garden_runEnd⟩, List.forall_mem_cons.mpr ⟨⟨_, _, _, _, x_mk_Garden_countOpen⟩, List.forall_mem_cons.mpr ⟨⟨_, _, _, _, x_mk_Garden_sights⟩, List.forall_mem_cons.mpr ⟨⟨_, _, _, _, x_mk_Memory_clear⟩, List.forall_mem_cons.mpr ⟨⟨_, _, _, _, x_mk_Memory_mark⟩, List.forall_mem_cons.mpr ⟨⟨_, _, _, _, x_mk_Memory_addMarked⟩, List.forall_mem_cons.mpr ⟨⟨_, _, _, _, x_mk_Memory_undoInto⟩, List.forall_mem_cons.mpr ⟨⟨_, _, _, _, x_mk_Memory_store⟩, List.forall_mem_cons.mpr ⟨⟨_, _, _, _, x_mk_Memory_fetch⟩, List.forall_mem_cons.mpr ⟨⟨_, _, _, _, x_mk_Notes_add⟩, List.forall_mem_cons.mpr ⟨⟨_, _, _, _, x_mk_Notes_get⟩, List.forall_mem_cons.mpr ⟨⟨_, _, _, _, x_mk_Notes_clear⟩, fun _ h => absurd h List.not_mem_nil⟩⟩⟩⟩⟩⟩⟩⟩⟩⟩⟩⟩⟩⟩⟩⟩⟩⟩⟩⟩⟩⟩⟩⟩⟩⟩⟩⟩⟩⟩⟩⟩⟩⟩⟩⟩⟩⟩⟩⟩⟩⟩⟩⟩⟩⟩⟩⟩⟩⟩
set_option maxRecDepth 100000 in
theorem x_z1 : ∀ q ∈ x_PL1.zip x_infL1, ∃ p1 p2 p3 p4, x_mkC q.1 q.2 p1 p2 p3 p4 = true := List.forall_mem_cons.mpr ⟨⟨_, _, _, _, x_mk_Numbers_clear⟩, List.forall_mem_cons.mpr ⟨⟨_, _, _, _, x_mk_Numbers_add⟩, List.forall_mem_cons.mpr ⟨⟨_, _, _, _, x_mk_Numbers_addFirst⟩, List.forall_mem_cons.mpr ⟨⟨_, _, _, _, x_mk_Numbers_tellOne⟩, List.forall_mem_cons.mpr ⟨⟨_, _, _, _, x_mk_Numbers_tellTwo⟩, List.forall_mem_cons.mpr ⟨⟨_, _, _, _, x_mk_Numbers_has⟩, List.forall_mem_cons.mpr ⟨⟨_, _, _, _, x_mk_Numbers_get⟩, List.forall_mem_cons.mpr ⟨⟨_, _, _, _, x_mk_Outing_clear⟩, List.forall_mem_cons.mpr ⟨⟨_, _, _, _, x_mk_Outing_add⟩, List.forall_mem_cons.mpr ⟨⟨_, _, _, _, x_mk_Outing_take⟩, List.forall_mem_cons.mpr ⟨⟨_, _, _, _, x_mk_Outing_packed⟩, List.forall_mem_cons.mpr ⟨⟨_, _, _, _, x_mk_Outing_unpack⟩, List.forall_mem_cons.mpr ⟨⟨_, _, _, _, x_mk_Outing_has⟩, List.forall_mem_cons.mpr ⟨⟨_, _, _, _, x_mk_Outing_fieldOf⟩, List.forall_mem_cons.mpr ⟨⟨_, _, _, _, x_mk_Outing_wayOf⟩, List.forall_mem_cons.mpr ⟨⟨_, _, _, _, x_mk_Outing_viewsOf⟩, List.forall_mem_cons.mpr ⟨⟨_, _, _, _, x_mk_Outing_isLoose⟩, List.forall_mem_cons.mpr ⟨⟨_, _, _, _, x_mk_Outing_place⟩, List.forall_mem_cons.mpr ⟨⟨_, _, _, _, x_mk_Outing_setViews⟩, List.forall_mem_cons.mpr ⟨⟨_, _, _, _, x_mk_Outing_setLoose⟩, List.forall_mem_cons.mpr ⟨⟨_, _, _, _, x_mk_Outing_countLoose⟩, List.forall_mem_cons.mpr ⟨⟨_, _, _, _, x_mk_Outing_countViews⟩, List.forall_mem_cons.mpr ⟨⟨_, _, _, _, x_mk_Outing_allViews⟩, List.forall_mem_cons.mpr ⟨⟨_, _, _, _, x_mk_Outing_countOthersOn⟩, List.forall_mem_cons.mpr ⟨⟨_, _, _, _, x_mk_Paths_spread⟩, List.forall_mem_cons.mpr ⟨⟨_, _, _, _, x_mk_Paths_distanceTo⟩, List.forall_mem_cons.mpr ⟨⟨_, _, _, _, x_mk_Paths_wayNearer⟩, List.forall_mem_cons.mpr ⟨⟨_, _, _, _, x_mk_Paths_countParts⟩, List.forall_mem_cons.mpr ⟨⟨_, _, _, _, x_mk_Paths_countPart⟩, List.forall_mem_cons.mpr ⟨⟨_, _, _, _, x_mk_Paths_countStrays⟩, List.forall_mem_cons.mpr ⟨⟨_, _, _, _, x_mk_Paths_strayOnce⟩, List.forall_mem_cons.mpr ⟨⟨_, _, _, _, x_mk_Rule_setUsual⟩, List.forall_mem_cons.mpr ⟨⟨_, _, _, _, x_mk_Rule_take⟩, List.forall_mem_cons.mpr ⟨⟨_, _, _, _, x_mk_Rule_reads⟩, List.forall_mem_cons.mpr ⟨⟨_, _, _, _, x_mk_Rule_readsThing⟩, List.forall_mem_cons.mpr ⟨⟨_, _, _, _, x_mk_Rule_opensBracket⟩, List.forall_mem_cons.mpr ⟨⟨_, _, _, _, x_mk_Rule_readNumber⟩, List.forall_mem_cons.mpr ⟨⟨_, _, _, _, x_mk_Rule_readsSign⟩, List.forall_mem_cons.mpr ⟨⟨_, _, _, _, x_mk_Rule_closesBracket⟩, List.forall_mem_cons.mpr ⟨⟨_, _, _, _, x_mk_Rule_strengthOf⟩, List.forall_mem_cons.mpr ⟨⟨_, _, _, _, x_mk_Rule_thingBySign⟩, List.forall_mem_cons.mpr ⟨⟨_, _, _, _, x_mk_Rule_settle⟩, List.forall_mem_cons.mpr ⟨⟨_, _, _, _, x_mk_Rule_hold⟩, List.forall_mem_cons.mpr ⟨⟨_, _, _, _, x_mk_Rule_add⟩, List.forall_mem_cons.mpr ⟨⟨_, _, _, _, x_mk_Rule_reckon⟩, List.forall_mem_cons.mpr ⟨⟨_, _, _, _, x_mk_Rule_release⟩, List.forall_mem_cons.mpr ⟨⟨_, _, _, _, x_mk_Rule_join⟩, List.forall_mem_cons.mpr ⟨⟨_, _, _, _, x_mk_Search_begin⟩, List.forall_mem_cons.mpr ⟨⟨_, _, _, _, x_mk_Search_viewsIn⟩, List.forall_mem_cons.mpr ⟨⟨_, _, _, _, x_mk_Search_wayInCode⟩, fun _ h => absurd h List.not_mem_nil⟩⟩⟩⟩⟩⟩⟩⟩⟩⟩⟩⟩⟩⟩⟩⟩⟩⟩⟩⟩⟩⟩⟩⟩⟩⟩⟩⟩⟩⟩⟩⟩⟩⟩⟩⟩⟩⟩⟩⟩⟩⟩⟩⟩⟩⟩⟩⟩⟩⟩
set_option maxRecDepth 100000 in
theorem x_z2 : ∀ q ∈ x_PL2.zip x_infL2, ∃ p1 p2 p3 p4, x_mkC q.1 q.2 p1 p2 p3 p4 = true := List.forall_mem_cons.mpr ⟨⟨_, _, _, _, x_mk_Search_pushed⟩, List.forall_mem_cons.mpr ⟨⟨_, _, _, _, x_mk_Search_follow⟩, List.forall_mem_cons.mpr ⟨⟨_, _, _, _, x_mk_Search_spread⟩, List.forall_mem_cons.mpr ⟨⟨_, _, _, _, x_mk_Search_firstWith⟩, List.forall_mem_cons.mpr ⟨⟨_, _, _, _, x_mk_Search_firstWithMost⟩, List.forall_mem_cons.mpr ⟨⟨_, _, _, _, x_mk_Search_originOf⟩, List.forall_mem_cons.mpr ⟨⟨_, _, _, _, x_mk_Search_stepsTo⟩, List.forall_mem_cons.mpr ⟨⟨_, _, _, _, x_mk_Search_wayTo⟩, List.forall_mem_cons.mpr ⟨⟨_, _, _, _, x_mk_Text_append⟩, List.forall_mem_cons.mpr ⟨⟨_, _, _, _, x_mk_Text_cut⟩, List.forall_mem_cons.mpr ⟨⟨_, _, _, _, x_mk_Text_open⟩, List.forall_mem_cons.mpr ⟨⟨_, _, _, _, x_mk_Text_close⟩, List.forall_mem_cons.mpr ⟨⟨_, _, _, _, x_mk_Text_here⟩, List.forall_mem_cons.mpr ⟨⟨_, _, _, _, x_mk_Text_step⟩, List.forall_mem_cons.mpr ⟨⟨_, _, _, _, x_mk_Text_isRead⟩, List.forall_mem_cons.mpr ⟨⟨_, _, _, _, x_mk_Text_digitHere⟩, List.forall_mem_cons.mpr ⟨⟨_, _, _, _, x_mk_Text_takeDigit⟩, List.forall_mem_cons.mpr ⟨⟨_, _, _, _, x_mk_Text_digitAt⟩, List.forall_mem_cons.mpr ⟨⟨_, _, _, _, x_mk_Main_sign⟩, List.forall_mem_cons.mpr ⟨⟨_, _, _, _, x_mk_Main_end⟩, List.forall_mem_cons.mpr ⟨⟨_, _, _, _, x_mk_Main_gardens⟩, List.forall_mem_cons.mpr ⟨⟨_, _, _, _, x_mk_Main_prams⟩, List.forall_mem_cons.mpr ⟨⟨_, _, _, _, x_mk_Main_countLines⟩, List.forall_mem_cons.mpr ⟨⟨_, _, _, _, x_mk_Main_readsLine⟩, List.forall_mem_cons.mpr ⟨⟨_, _, _, _, x_mk_Main_rule⟩, List.forall_mem_cons.mpr ⟨⟨_, _, _, _, x_mk_Main_field⟩, List.forall_mem_cons.mpr ⟨⟨_, _, _, _, x_mk_Main_pram⟩, List.forall_mem_cons.mpr ⟨⟨_, _, _, _, x_mk_Main_sheet⟩, List.forall_mem_cons.mpr ⟨⟨_, _, _, _, x_mk_Main_pushes⟩, List.forall_mem_cons.mpr ⟨⟨_, _, _, _, x_mk_Main_faces⟩, List.forall_mem_cons.mpr ⟨⟨_, _, _, _, x_mk_Main_looked⟩, List.forall_mem_cons.mpr ⟨⟨_, _, _, _, x_mk_Main_looses⟩, List.forall_mem_cons.mpr ⟨⟨_, _, _, _, x_mk_Main_catches⟩, List.forall_mem_cons.mpr ⟨⟨_, _, _, _, x_mk_Main_minutes⟩, List.forall_mem_cons.mpr ⟨⟨_, _, _, _, x_mk_Main_forgets⟩, List.forall_mem_cons.mpr ⟨⟨_, _, _, _, x_mk_Main_remembered⟩, List.forall_mem_cons.mpr ⟨⟨_, _, _, _, x_mk_Main_walk⟩, List.forall_mem_cons.mpr ⟨⟨_, _, _, _, x_mk_Main_readsWalk⟩, List.forall_mem_cons.mpr ⟨⟨_, _, _, _, x_mk_Main_readsAct⟩, List.forall_mem_cons.mpr ⟨⟨_, _, _, _, x_mk_Main_undo⟩, List.forall_mem_cons.mpr ⟨⟨_, _, _, _, x_mk_Main_sees⟩, List.forall_mem_cons.mpr ⟨⟨_, _, _, _, x_mk_Main_would⟩, List.forall_mem_cons.mpr ⟨⟨_, _, _, _, x_mk_Main_stands⟩, List.forall_mem_cons.mpr ⟨⟨_, _, _, _, x_mk_Main_way⟩, List.forall_mem_cons.mpr ⟨⟨_, _, _, _, x_mk_Main_reach⟩, List.forall_mem_cons.mpr ⟨⟨_, _, _, _, x_mk_Main_parts⟩, List.forall_mem_cons.mpr ⟨⟨_, _, _, _, x_mk_Main_gates⟩, List.forall_mem_cons.mpr ⟨⟨_, _, _, _, x_mk_Main_nearest⟩, List.forall_mem_cons.mpr ⟨⟨_, _, _, _, x_mk_Main_forms⟩, List.forall_mem_cons.mpr ⟨⟨_, _, _, _, x_mk_Main_most⟩, fun _ h => absurd h List.not_mem_nil⟩⟩⟩⟩⟩⟩⟩⟩⟩⟩⟩⟩⟩⟩⟩⟩⟩⟩⟩⟩⟩⟩⟩⟩⟩⟩⟩⟩⟩⟩⟩⟩⟩⟩⟩⟩⟩⟩⟩⟩⟩⟩⟩⟩⟩⟩⟩⟩⟩⟩
set_option maxRecDepth 100000 in
theorem x_z3 : ∀ q ∈ x_PL3.zip x_infL3, ∃ p1 p2 p3 p4, x_mkC q.1 q.2 p1 p2 p3 p4 = true := List.forall_mem_cons.mpr ⟨⟨_, _, _, _, x_mk_Main_ways⟩, List.forall_mem_cons.mpr ⟨⟨_, _, _, _, x_mk_Main_strays⟩, List.forall_mem_cons.mpr ⟨⟨_, _, _, _, x_mk_Main_tellFraction⟩, List.forall_mem_cons.mpr ⟨⟨_, _, _, _, x_mk_Main_stops⟩, List.forall_mem_cons.mpr ⟨⟨_, _, _, _, x_mk_Main_rounds⟩, List.forall_mem_cons.mpr ⟨⟨_, _, _, _, x_mk_Main_basin⟩, List.forall_mem_cons.mpr ⟨⟨_, _, _, _, x_mk_Main_saw⟩, List.forall_mem_cons.mpr ⟨⟨_, _, _, _, x_mk_Main_denies⟩, List.forall_mem_cons.mpr ⟨⟨_, _, _, _, x_mk_Main_laws⟩, List.forall_mem_cons.mpr ⟨⟨_, _, _, _, x_mk_Main_fittingLaws⟩, List.forall_mem_cons.mpr ⟨⟨_, _, _, _, x_mk_Main_lawsA⟩, List.forall_mem_cons.mpr ⟨⟨_, _, _, _, x_mk_Main_lawsB⟩, List.forall_mem_cons.mpr ⟨⟨_, _, _, _, x_mk_Main_fitsSeen⟩, List.forall_mem_cons.mpr ⟨⟨_, _, _, _, x_mk_Main_isFormed⟩, List.forall_mem_cons.mpr ⟨⟨_, _, _, _, x_mk_Main_looks⟩, List.forall_mem_cons.mpr ⟨⟨_, _, _, _, x_mk_Main_lawsLeftAtMost⟩, List.forall_mem_cons.mpr ⟨⟨_, _, _, _, x_mk_Main_heard⟩, List.forall_mem_cons.mpr ⟨⟨_, _, _, _, x_mk_Main_forget⟩, List.forall_mem_cons.mpr ⟨⟨_, _, _, _, x_mk_Main_fits⟩, List.forall_mem_cons.mpr ⟨⟨_, _, _, _, x_mk_Main_fittingPrams⟩, List.forall_mem_cons.mpr ⟨⟨_, _, _, _, x_mk_Main_isSo⟩, List.forall_mem_cons.mpr ⟨⟨_, _, _, _, x_mk_Main_asks⟩, List.forall_mem_cons.mpr ⟨⟨_, _, _, _, x_mk_Main_pramsLeftAtMost⟩, List.forall_mem_cons.mpr ⟨⟨_, _, _, _, x_mk_Main_pond⟩, List.forall_mem_cons.mpr ⟨⟨_, _, _, _, x_mk_Main_isLost⟩, List.forall_mem_cons.mpr ⟨⟨_, _, _, _, x_mk_Main_law⟩, List.forall_mem_cons.mpr ⟨⟨_, _, _, _, x_mk_Main_shoulders⟩, List.forall_mem_cons.mpr ⟨⟨_, _, _, _, x_mk_Main_isBestTurn⟩, List.forall_mem_cons.mpr ⟨⟨_, _, _, _, x_mk_Main_gain⟩, List.forall_mem_cons.mpr ⟨⟨_, _, _, _, x_mk_Main_years⟩, List.forall_mem_cons.mpr ⟨⟨_, _, _, _, x_mk_Main_keep⟩, List.forall_mem_cons.mpr ⟨⟨_, _, _, _, x_mk_Main_again⟩, List.forall_mem_cons.mpr ⟨⟨_, _, _, _, x_mk_Main_count⟩, List.forall_mem_cons.mpr ⟨⟨_, _, _, _, x_mk_Main_row⟩, List.forall_mem_cons.mpr ⟨⟨_, _, _, _, x_mk_Main_isWay⟩, List.forall_mem_cons.mpr ⟨⟨_, _, _, _, x_mk_Ref_thrown⟩, List.forall_mem_cons.mpr ⟨⟨_, _, _, _, x_mk_Ref_refuse⟩, List.forall_mem_cons.mpr ⟨⟨_, _, _, _, x_mk_Ref_in⟩, List.forall_mem_cons.mpr ⟨⟨_, _, _, _, x_mk_Ref_has⟩, List.forall_mem_cons.mpr ⟨⟨_, _, _, _, x_mk_Ref_flag⟩, List.forall_mem_cons.mpr ⟨⟨_, _, _, _, x_mk_Ref_common⟩, List.forall_mem_cons.mpr ⟨⟨_, _, _, _, x_mk_Ref_enters⟩, List.forall_mem_cons.mpr ⟨⟨_, _, _, _, x_mk_Ref_fields⟩, List.forall_mem_cons.mpr ⟨⟨_, _, _, _, x_mk_Ref_isField⟩, List.forall_mem_cons.mpr ⟨⟨_, _, _, _, x_mk_Ref_isPram⟩, List.forall_mem_cons.mpr ⟨⟨_, _, _, _, x_mk_Ref_isOpen⟩, List.forall_mem_cons.mpr ⟨⟨_, _, _, _, x_mk_Ref_beside⟩, List.forall_mem_cons.mpr ⟨⟨_, _, _, _, x_mk_Ref_copies⟩, List.forall_mem_cons.mpr ⟨⟨_, _, _, _, x_mk_Ref_sign⟩, List.forall_mem_cons.mpr ⟨⟨_, _, _, _, x_mk_Ref_end⟩, fun _ h => absurd h List.not_mem_nil⟩⟩⟩⟩⟩⟩⟩⟩⟩⟩⟩⟩⟩⟩⟩⟩⟩⟩⟩⟩⟩⟩⟩⟩⟩⟩⟩⟩⟩⟩⟩⟩⟩⟩⟩⟩⟩⟩⟩⟩⟩⟩⟩⟩⟩⟩⟩⟩⟩⟩
set_option maxRecDepth 100000 in
theorem x_z4 : ∀ q ∈ x_PL4.zip x_infL4, ∃ p1 p2 p3 p4, x_mkC q.1 q.2 p1 p2 p3 p4 = true := List.forall_mem_cons.mpr ⟨⟨_, _, _, _, x_mk_Ref_begins⟩, List.forall_mem_cons.mpr ⟨⟨_, _, _, _, x_mk_Ref_takes⟩, List.forall_mem_cons.mpr ⟨⟨_, _, _, _, x_mk_Ref_isDigit⟩, List.forall_mem_cons.mpr ⟨⟨_, _, _, _, x_mk_Ref_takesOf⟩, List.forall_mem_cons.mpr ⟨⟨_, _, _, _, x_mk_Ref_number⟩, List.forall_mem_cons.mpr ⟨⟨_, _, _, _, x_mk_Ref_digitIn⟩, List.forall_mem_cons.mpr ⟨⟨_, _, _, _, x_mk_Ref_faultOf⟩, List.forall_mem_cons.mpr ⟨⟨_, _, _, _, x_mk_Ref_gardens⟩, List.forall_mem_cons.mpr ⟨⟨_, _, _, _, x_mk_Ref_readsPram⟩, List.forall_mem_cons.mpr ⟨⟨_, _, _, _, x_mk_Ref_prams⟩, List.forall_mem_cons.mpr ⟨⟨_, _, _, _, x_mk_Ref_codes⟩, List.forall_mem_cons.mpr ⟨⟨_, _, _, _, x_mk_Ref_readsThing⟩, List.forall_mem_cons.mpr ⟨⟨_, _, _, _, x_mk_Ref_readsRank⟩, List.forall_mem_cons.mpr ⟨⟨_, _, _, _, x_mk_Ref_readsRule⟩, List.forall_mem_cons.mpr ⟨⟨_, _, _, _, x_mk_Ref_laysCode⟩, List.forall_mem_cons.mpr ⟨⟨_, _, _, _, x_mk_Ref_rule⟩, List.forall_mem_cons.mpr ⟨⟨_, _, _, _, x_mk_Ref_worked⟩, List.forall_mem_cons.mpr ⟨⟨_, _, _, _, x_mk_Ref_ruled⟩, List.forall_mem_cons.mpr ⟨⟨_, _, _, _, x_mk_Ref_othersOn⟩, List.forall_mem_cons.mpr ⟨⟨_, _, _, _, x_mk_Ref_formed⟩, List.forall_mem_cons.mpr ⟨⟨_, _, _, _, x_mk_Ref_field⟩, List.forall_mem_cons.mpr ⟨⟨_, _, _, _, x_mk_Ref_pram⟩, List.forall_mem_cons.mpr ⟨⟨_, _, _, _, x_mk_Ref_sheet⟩, List.forall_mem_cons.mpr ⟨⟨_, _, _, _, x_mk_Ref_putsBy⟩, List.forall_mem_cons.mpr ⟨⟨_, _, _, _, x_mk_Ref_adds⟩, List.forall_mem_cons.mpr ⟨⟨_, _, _, _, x_mk_Ref_counted⟩, List.forall_mem_cons.mpr ⟨⟨_, _, _, _, x_mk_Ref_undo⟩, List.forall_mem_cons.mpr ⟨⟨_, _, _, _, x_mk_Ref_looksAhead⟩, List.forall_mem_cons.mpr ⟨⟨_, _, _, _, x_mk_Ref_goesTo⟩, List.forall_mem_cons.mpr ⟨⟨_, _, _, _, x_mk_Ref_pushesOne⟩, List.forall_mem_cons.mpr ⟨⟨_, _, _, _, x_mk_Ref_turnsOne⟩, List.forall_mem_cons.mpr ⟨⟨_, _, _, _, x_mk_Ref_looseMany⟩, List.forall_mem_cons.mpr ⟨⟨_, _, _, _, x_mk_Ref_sets⟩, List.forall_mem_cons.mpr ⟨⟨_, _, _, _, x_mk_Ref_forgetsOne⟩, List.forall_mem_cons.mpr ⟨⟨_, _, _, _, x_mk_Ref_runsTo⟩, List.forall_mem_cons.mpr ⟨⟨_, _, _, _, x_mk_Ref_minuteGoes⟩, List.forall_mem_cons.mpr ⟨⟨_, _, _, _, x_mk_Ref_goesOn⟩, List.forall_mem_cons.mpr ⟨⟨_, _, _, _, x_mk_Ref_viewsOfAll⟩, List.forall_mem_cons.mpr ⟨⟨_, _, _, _, x_mk_Ref_toldOf⟩, List.forall_mem_cons.mpr ⟨⟨_, _, _, _, x_mk_Ref_pushes⟩, List.forall_mem_cons.mpr ⟨⟨_, _, _, _, x_mk_Ref_faces⟩, List.forall_mem_cons.mpr ⟨⟨_, _, _, _, x_mk_Ref_looses⟩, List.forall_mem_cons.mpr ⟨⟨_, _, _, _, x_mk_Ref_catches⟩, List.forall_mem_cons.mpr ⟨⟨_, _, _, _, x_mk_Ref_minutes⟩, List.forall_mem_cons.mpr ⟨⟨_, _, _, _, x_mk_Ref_forgets⟩, List.forall_mem_cons.mpr ⟨⟨_, _, _, _, x_mk_Ref_readsAct⟩, List.forall_mem_cons.mpr ⟨⟨_, _, _, _, x_mk_Ref_does⟩, List.forall_mem_cons.mpr ⟨⟨_, _, _, _, x_mk_Ref_walk⟩, List.forall_mem_cons.mpr ⟨⟨_, _, _, _, x_mk_Ref_sees⟩, List.forall_mem_cons.mpr ⟨⟨_, _, _, _, x_mk_Ref_would⟩, fun _ h => absurd h List.not_mem_nil⟩⟩⟩⟩⟩⟩⟩⟩⟩⟩⟩⟩⟩⟩⟩⟩⟩⟩⟩⟩⟩⟩⟩⟩⟩⟩⟩⟩⟩⟩⟩⟩⟩⟩⟩⟩⟩⟩⟩⟩⟩⟩⟩⟩⟩⟩⟩⟩⟩⟩
set_option maxRecDepth 100000 in
theorem x_z5 : ∀ q ∈ x_PL5.zip x_infL5, ∃ p1 p2 p3 p4, x_mkC q.1 q.2 p1 p2 p3 p4 = true := List.forall_mem_cons.mpr ⟨⟨_, _, _, _, x_mk_Ref_laysStands⟩, List.forall_mem_cons.mpr ⟨⟨_, _, _, _, x_mk_Ref_stands⟩, List.forall_mem_cons.mpr ⟨⟨_, _, _, _, x_mk_Ref_isFree⟩, List.forall_mem_cons.mpr ⟨⟨_, _, _, _, x_mk_Ref_laysFar⟩, List.forall_mem_cons.mpr ⟨⟨_, _, _, _, x_mk_Ref_way⟩, List.forall_mem_cons.mpr ⟨⟨_, _, _, _, x_mk_Ref_reach⟩, List.forall_mem_cons.mpr ⟨⟨_, _, _, _, x_mk_Ref_partsMany⟩, List.forall_mem_cons.mpr ⟨⟨_, _, _, _, x_mk_Ref_parts⟩, List.forall_mem_cons.mpr ⟨⟨_, _, _, _, x_mk_Ref_gates⟩, List.forall_mem_cons.mpr ⟨⟨_, _, _, _, x_mk_Ref_nearest⟩, List.forall_mem_cons.mpr ⟨⟨_, _, _, _, x_mk_Ref_finds⟩, List.forall_mem_cons.mpr ⟨⟨_, _, _, _, x_mk_Ref_placeBy⟩, List.forall_mem_cons.mpr ⟨⟨_, _, _, _, x_mk_Ref_laysPlaces⟩, List.forall_mem_cons.mpr ⟨⟨_, _, _, _, x_mk_Ref_entersPath⟩, List.forall_mem_cons.mpr ⟨⟨_, _, _, _, x_mk_Ref_forms⟩, List.forall_mem_cons.mpr ⟨⟨_, _, _, _, x_mk_Ref_most⟩, List.forall_mem_cons.mpr ⟨⟨_, _, _, _, x_mk_Ref_waysFrom⟩, List.forall_mem_cons.mpr ⟨⟨_, _, _, _, x_mk_Ref_ways⟩, List.forall_mem_cons.mpr ⟨⟨_, _, _, _, x_mk_Ref_strays⟩, List.forall_mem_cons.mpr ⟨⟨_, _, _, _, x_mk_Ref_stopOf⟩, List.forall_mem_cons.mpr ⟨⟨_, _, _, _, x_mk_Ref_stops⟩, List.forall_mem_cons.mpr ⟨⟨_, _, _, _, x_mk_Ref_rounds⟩, List.forall_mem_cons.mpr ⟨⟨_, _, _, _, x_mk_Ref_basin⟩, List.forall_mem_cons.mpr ⟨⟨_, _, _, _, x_mk_Ref_saw⟩, List.forall_mem_cons.mpr ⟨⟨_, _, _, _, x_mk_Ref_denies⟩, List.forall_mem_cons.mpr ⟨⟨_, _, _, _, x_mk_Ref_isFormedBy⟩, List.forall_mem_cons.mpr ⟨⟨_, _, _, _, x_mk_Ref_isLaw⟩, List.forall_mem_cons.mpr ⟨⟨_, _, _, _, x_mk_Ref_laws⟩, List.forall_mem_cons.mpr ⟨⟨_, _, _, _, x_mk_Ref_looks⟩, List.forall_mem_cons.mpr ⟨⟨_, _, _, _, x_mk_Ref_highest⟩, List.forall_mem_cons.mpr ⟨⟨_, _, _, _, x_mk_Ref_heard⟩, List.forall_mem_cons.mpr ⟨⟨_, _, _, _, x_mk_Ref_forget⟩, List.forall_mem_cons.mpr ⟨⟨_, _, _, _, x_mk_Ref_isSo⟩, List.forall_mem_cons.mpr ⟨⟨_, _, _, _, x_mk_Ref_fitting⟩, List.forall_mem_cons.mpr ⟨⟨_, _, _, _, x_mk_Ref_fits⟩, List.forall_mem_cons.mpr ⟨⟨_, _, _, _, x_mk_Ref_asks⟩, List.forall_mem_cons.mpr ⟨⟨_, _, _, _, x_mk_Ref_goodMove⟩, List.forall_mem_cons.mpr ⟨⟨_, _, _, _, x_mk_Ref_pond⟩, List.forall_mem_cons.mpr ⟨⟨_, _, _, _, x_mk_Ref_formedByAll⟩, List.forall_mem_cons.mpr ⟨⟨_, _, _, _, x_mk_Ref_law⟩, List.forall_mem_cons.mpr ⟨⟨_, _, _, _, x_mk_Ref_gets⟩, List.forall_mem_cons.mpr ⟨⟨_, _, _, _, x_mk_Ref_isRest⟩, List.forall_mem_cons.mpr ⟨⟨_, _, _, _, x_mk_Ref_shoulders⟩, List.forall_mem_cons.mpr ⟨⟨_, _, _, _, x_mk_Ref_draws⟩, List.forall_mem_cons.mpr ⟨⟨_, _, _, _, x_mk_Ref_years⟩, List.forall_mem_cons.mpr ⟨⟨_, _, _, _, x_mk_Ref_keep⟩, List.forall_mem_cons.mpr ⟨⟨_, _, _, _, x_mk_Ref_again⟩, List.forall_mem_cons.mpr ⟨⟨_, _, _, _, x_mk_Ref_openMany⟩, List.forall_mem_cons.mpr ⟨⟨_, _, _, _, x_mk_Ref_sightsThere⟩, List.forall_mem_cons.mpr ⟨⟨_, _, _, _, x_mk_Ref_looseOnes⟩, fun _ h => absurd h List.not_mem_nil⟩⟩⟩⟩⟩⟩⟩⟩⟩⟩⟩⟩⟩⟩⟩⟩⟩⟩⟩⟩⟩⟩⟩⟩⟩⟩⟩⟩⟩⟩⟩⟩⟩⟩⟩⟩⟩⟩⟩⟩⟩⟩⟩⟩⟩⟩⟩⟩⟩⟩
set_option maxRecDepth 100000 in
theorem x_z6 : ∀ q ∈ x_PL6.zip x_infL6, ∃ p1 p2 p3 p4, x_mkC q.1 q.2 p1 p2 p3 p4 = true := List.forall_mem_cons.mpr ⟨⟨_, _, _, _, x_mk_Ref_count⟩, List.forall_mem_cons.mpr ⟨⟨_, _, _, _, x_mk_Ref_row⟩, List.forall_mem_cons.mpr ⟨⟨_, _, _, _, x_mk_Integer_bitCount⟩, List.forall_mem_cons.mpr ⟨⟨_, _, _, _, x_mk_Long_bitCount⟩, List.forall_mem_cons.mpr ⟨⟨_, _, _, _, x_mk_Math_max⟩, List.forall_mem_cons.mpr ⟨⟨_, _, _, _, x_mk_Math_min⟩, List.forall_mem_cons.mpr ⟨⟨_, _, _, _, x_mk_Arrays_fill⟩, fun _ h => absurd h List.not_mem_nil⟩⟩⟩⟩⟩⟩⟩
set_option maxRecDepth 100000 in
theorem x_kdK0 : x_PL0.all (fun M => M.2.2.2.all x_kdB) = true := by decide +kernel
set_option maxRecDepth 100000 in
theorem x_kdK1 : x_PL1.all (fun M => M.2.2.2.all x_kdB) = true := by decide +kernel
set_option maxRecDepth 100000 in
theorem x_kdK2 : x_PL2.all (fun M => M.2.2.2.all x_kdB) = true := by decide +kernel
set_option maxRecDepth 100000 in
theorem x_kdK3 : x_PL3.all (fun M => M.2.2.2.all x_kdB) = true := by decide +kernel
set_option maxRecDepth 100000 in
theorem x_kdK4 : x_PL4.all (fun M => M.2.2.2.all x_kdB) = true := by decide +kernel
set_option maxRecDepth 100000 in
theorem x_kdK5 : x_PL5.all (fun M => M.2.2.2.all x_kdB) = true := by decide +kernel
set_option maxRecDepth 100000 in
theorem x_kdK6 : x_PL6.all (fun M => M.2.2.2.all x_kdB) = true := by decide +kernel
theorem x_Pq_ok {f : Nat} {M : xM} (h : x_Pq f = some M) : ∃ o y cc ret np stc, x_inf f = some (o, y, cc, ret, np, stc) ∧ x_Mok x_Ts x_Pr x_N vwCl M o y cc ret np stc := by
  unfold x_Pq at h
  unfold x_inf
  cases h0 : Nat.blt f 50 with
  | true =>
    rw [h0] at h
    obtain ⟨⟨o, y, cc, ret, np, stc⟩, hb, hm⟩ := x_zip_mem (l1 := x_PL0) (l2 := x_infL0) (i := f - 0) (a := M) (by decide) h
    obtain ⟨_, _, _, _, hk⟩ := x_z0 _ hm
    exact ⟨o, y, cc, ret, np, stc, hb, x_mkC_ok hk (List.all_eq_true.mp x_kdK0 M (List.mem_of_getElem? (l := x_PL0) (i := f - 0) h))⟩
  | false =>
    rw [h0] at h
    dsimp only [cond] at h ⊢
    cases h1 : Nat.blt f 100 with
    | true =>
      rw [h1] at h
      obtain ⟨⟨o, y, cc, ret, np, stc⟩, hb, hm⟩ := x_zip_mem (l1 := x_PL1) (l2 := x_infL1) (i := f - 50) (a := M) (by decide) h
      obtain ⟨_, _, _, _, hk⟩ := x_z1 _ hm
      exact ⟨o, y, cc, ret, np, stc, hb, x_mkC_ok hk (List.all_eq_true.mp x_kdK1 M (List.mem_of_getElem? (l := x_PL1) (i := f - 50) h))⟩
    | false =>
      rw [h1] at h
      dsimp only [cond] at h ⊢
      cases h2 : Nat.blt f 150 with
      | true =>
        rw [h2] at h
        obtain ⟨⟨o, y, cc, ret, np, stc⟩, hb, hm⟩ := x_zip_mem (l1 := x_PL2) (l2 := x_infL2) (i := f - 100) (a := M) (by decide) h
        obtain ⟨_, _, _, _, hk⟩ := x_z2 _ hm
        exact ⟨o, y, cc, ret, np, stc, hb, x_mkC_ok hk (List.all_eq_true.mp x_kdK2 M (List.mem_of_getElem? (l := x_PL2) (i := f - 100) h))⟩
      | false =>
        rw [h2] at h
        dsimp only [cond] at h ⊢
        cases h3 : Nat.blt f 200 with
        | true =>
          rw [h3] at h
          obtain ⟨⟨o, y, cc, ret, np, stc⟩, hb, hm⟩ := x_zip_mem (l1 := x_PL3) (l2 := x_infL3) (i := f - 150) (a := M) (by decide) h
          obtain ⟨_, _, _, _, hk⟩ := x_z3 _ hm
          exact ⟨o, y, cc, ret, np, stc, hb, x_mkC_ok hk (List.all_eq_true.mp x_kdK3 M (List.mem_of_getElem? (l := x_PL3) (i := f - 150) h))⟩
        | false =>
          rw [h3] at h
          dsimp only [cond] at h ⊢
          cases h4 : Nat.blt f 250 with
          | true =>
            rw [h4] at h
            obtain ⟨⟨o, y, cc, ret, np, stc⟩, hb, hm⟩ := x_zip_mem (l1 := x_PL4) (l2 := x_infL4) (i := f - 200) (a := M) (by decide) h
            obtain ⟨_, _, _, _, hk⟩ := x_z4 _ hm
            exact ⟨o, y, cc, ret, np, stc, hb, x_mkC_ok hk (List.all_eq_true.mp x_kdK4 M (List.mem_of_getElem? (l := x_PL4) (i := f - 200) h))⟩
          | false =>
            rw [h4] at h
            dsimp only [cond] at h ⊢
            cases h5 : Nat.blt f 300 with
            | true =>
              rw [h5] at h
              obtain ⟨⟨o, y, cc, ret, np, stc⟩, hb, hm⟩ := x_zip_mem (l1 := x_PL5) (l2 := x_infL5) (i := f - 250) (a := M) (by decide) h
              obtain ⟨_, _, _, _, hk⟩ := x_z5 _ hm
              exact ⟨o, y, cc, ret, np, stc, hb, x_mkC_ok hk (List.all_eq_true.mp x_kdK5 M (List.mem_of_getElem? (l := x_PL5) (i := f - 250) h))⟩
            | false =>
              rw [h5] at h
              dsimp only [cond] at h ⊢
              cases h6 : Nat.blt f 350 with
              | true =>
                rw [h6] at h
                obtain ⟨⟨o, y, cc, ret, np, stc⟩, hb, hm⟩ := x_zip_mem (l1 := x_PL6) (l2 := x_infL6) (i := f - 300) (a := M) (by decide) h
                obtain ⟨_, _, _, _, hk⟩ := x_z6 _ hm
                exact ⟨o, y, cc, ret, np, stc, hb, x_mkC_ok hk (List.all_eq_true.mp x_kdK6 M (List.mem_of_getElem? (l := x_PL6) (i := f - 300) h))⟩
              | false =>
                rw [h6] at h
                dsimp only [cond] at h ⊢
                cases h
theorem x_Pq_none {f : Nat} (h : x_Pq f = none) : x_inf f = none := by
  unfold x_Pq at h
  unfold x_inf
  cases h0 : Nat.blt f 50 with
  | true =>
    rw [h0] at h
    exact x_zip_none (l1 := x_PL0) (l2 := x_infL0) (i := f - 0) (by decide) h
  | false =>
    rw [h0] at h
    dsimp only [cond] at h ⊢
    cases h1 : Nat.blt f 100 with
    | true =>
      rw [h1] at h
      exact x_zip_none (l1 := x_PL1) (l2 := x_infL1) (i := f - 50) (by decide) h
    | false =>
      rw [h1] at h
      dsimp only [cond] at h ⊢
      cases h2 : Nat.blt f 150 with
      | true =>
        rw [h2] at h
        exact x_zip_none (l1 := x_PL2) (l2 := x_infL2) (i := f - 100) (by decide) h
      | false =>
        rw [h2] at h
        dsimp only [cond] at h ⊢
        cases h3 : Nat.blt f 200 with
        | true =>
          rw [h3] at h
          exact x_zip_none (l1 := x_PL3) (l2 := x_infL3) (i := f - 150) (by decide) h
        | false =>
          rw [h3] at h
          dsimp only [cond] at h ⊢
          cases h4 : Nat.blt f 250 with
          | true =>
            rw [h4] at h
            exact x_zip_none (l1 := x_PL4) (l2 := x_infL4) (i := f - 200) (by decide) h
          | false =>
            rw [h4] at h
            dsimp only [cond] at h ⊢
            cases h5 : Nat.blt f 300 with
            | true =>
              rw [h5] at h
              exact x_zip_none (l1 := x_PL5) (l2 := x_infL5) (i := f - 250) (by decide) h
            | false =>
              rw [h5] at h
              dsimp only [cond] at h ⊢
              cases h6 : Nat.blt f 350 with
              | true =>
                rw [h6] at h
                exact x_zip_none (l1 := x_PL6) (l2 := x_infL6) (i := f - 300) (by decide) h
              | false => rfl
theorem x_flA : ∀ o q, q ∈ x_flT o → x_flC o q = true := by
  intro o q h
  unfold x_flT at h
  split at h
  · exact List.all_eq_true.mp x_flK0 q h
  · exact List.all_eq_true.mp x_flK1 q h
  · exact List.all_eq_true.mp x_flK2 q h
  · exact List.all_eq_true.mp x_flK3 q h
  · exact List.all_eq_true.mp x_flK4 q h
  · exact List.all_eq_true.mp x_flK5 q h
  · exact List.all_eq_true.mp x_flK6 q h
  · exact List.all_eq_true.mp x_flK7 q h
  · exact List.all_eq_true.mp x_flK8 q h
  · exact List.all_eq_true.mp x_flK9 q h
  · exact List.all_eq_true.mp x_flK10 q h
  · exact List.all_eq_true.mp x_flK11 q h
  · exact List.all_eq_true.mp x_flK12 q h
  · cases h
theorem x_lmA : ∀ o q, q ∈ x_lmT o → x_lmC o q = true := by
  intro o q h
  unfold x_lmT at h
  split at h
  · exact List.all_eq_true.mp x_lmK0 q h
  · exact List.all_eq_true.mp x_lmK1 q h
  · exact List.all_eq_true.mp x_lmK2 q h
  · exact List.all_eq_true.mp x_lmK3 q h
  · exact List.all_eq_true.mp x_lmK5 q h
  · exact List.all_eq_true.mp x_lmK6 q h
  · exact List.all_eq_true.mp x_lmK7 q h
  · exact List.all_eq_true.mp x_lmK8 q h
  · exact List.all_eq_true.mp x_lmK9 q h
  · exact List.all_eq_true.mp x_lmK10 q h
  · exact List.all_eq_true.mp x_lmK11 q h
  · exact List.all_eq_true.mp x_lmK12 q h
  · cases h
theorem x_kIA : ∀ o q, q ∈ x_kIT o → x_wd q.2.2 (.constant (x_nm o) q.1 q.2.1) = true := by
  intro o q h
  unfold x_kIT at h
  split at h
  · exact List.all_eq_true.mp x_kIK0 q h
  · exact List.all_eq_true.mp x_kIK12 q h
  · exact List.all_eq_true.mp x_kIK13 q h
  · cases h
theorem x_kLA : ∀ o q, q ∈ x_kLT o → x_wd q.2.2 (.constantLong (x_nm o) q.1 q.2.1) = true := by
  intro o q h
  unfold x_kLT at h
  split at h
  · exact List.all_eq_true.mp x_kLK6 q h
  · exact List.all_eq_true.mp x_kLK11 q h
  · exact List.all_eq_true.mp x_kLK12 q h
  · exact List.all_eq_true.mp x_kLK14 q h
  · cases h
theorem x_Fm_ok : x_Fm x_Ts x_Nw x_Pr x_N vwCl := by
  refine ⟨x_Ts_good, fun f M h => ?_, fun f g h => ?_, fun o i f o' y cc ret np stc h1 h2 => ?_⟩
  · unfold x_Pr at h
    split at h
    · next M' e => cases h; exact x_Pq_ok e
    · cases h
  · unfold x_Pr at h
    split at h
    · cases h
    · next e => exact x_Pq_none e
  · obtain ⟨q, hq, rfl⟩ := Option.map_eq_some_iff.mp h1
    have z := x_lmA o _ (x_lk_mem hq)
    obtain ⟨f, p, nest⟩ := q
    have h2 : x_inf f = some (o', y, cc, ret, np, stc) := h2
    simp only [x_lmC, h2] at z
    cases nest with
    | false => exact Or.inl (x_wd_mem z)
    | true =>
      simp only [cond_true, Bool.and_eq_true, decide_eq_true_eq] at z
      exact Or.inr ⟨z.1, _, x_nw_mem z.2 rfl⟩
