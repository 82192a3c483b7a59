/-! ===== the tables against the Statement's words ===== -/
def mcn : Nat → String
  | 0 => RX0
  | 1 => RX1
  | 2 => RX2
  | 3 => RX3
  | 4 => RX4
  | 5 => RX5
  | 6 => RX6
  | 7 => RX7
  | 8 => RX8
  | 9 => RX9
  | 10 => RX10
  | 11 => RX11
  | 12 => RL
  | 13 => RJ7
  | 14 => RJ13
  | _ => ""
def gtbl : List Cond := lw_tbl.filter goodWord
def mhs (hs : List (Nat × Nat × Nat × Nat)) : List (Nat × Nat × Nat × Nat) := hs.map fun h => (h.1, h.2.1, h.2.2.1, if h.2.2.2 = 0 then 21 else 13)
/-- a method's own word -/
def mcw (M : mM) : Cond := if M.hs = [] then .code M.nm M.cc M.nL M.ret else .codeWith M.nm M.cc M.nL M.ret (mhs M.hs)
def mfw (own : Nat) (e : Nat × Nat × Nat) : Cond := .fieldLink (mcn own) e.1 (mtx e.2.1 e.2.2).1 (mtx e.2.1 e.2.2).2.1 (mtx e.2.1 e.2.2).2.2.1
/-- the words of a call -/
def mew (own : Nat) (e : Nat × Nat × Nat × mM) : List Cond := match e.2.1 with
  | 0 => [.methodLink (mcn own) e.1 e.2.2.2.nm, .instanceMethod e.2.2.2.nm, .selects e.2.2.2.nm.cls e.2.2.2.nm e.2.2.2.nm, .initialized e.2.2.2.nm.cls]
  | 1 => [.methodLink (mcn own) e.1 e.2.2.2.nm, .instanceMethod e.2.2.2.nm, .initialized e.2.2.2.nm.cls]
  | 2 => [.methodLink (mcn own) e.1 e.2.2.2.nm, .static e.2.2.2.nm, .initialized e.2.2.2.nm.cls]
  | 4 => [.instanceMethod e.2.2.2.nm, .initialized e.2.2.2.nm.cls]
  | 5 => [.static e.2.2.2.nm, .initialized e.2.2.2.nm.cls]
  | 10 => [.methodLink (mcn own) e.1 objectInit, .instanceMethod objectInit, .code objectInit ⟨#[0xb1]⟩ 1 none]
  | 11 => [.methodLink (mcn own) e.1 arraycopyName, .native arraycopyName, .static arraycopyName, .initialized "java/lang/System"]
  | _ => []
/-- what else is asked of a callee -/
def mep (e : Nat × Nat × Nat × mM) : Bool := decide (e.2.2.2.nm.cls ≠ "java/lang/invoke/MethodHandle") && decide (e.2.2.2.nm.cls ≠ "java/lang/invoke/VarHandle") && decide (e.2.2.2.nL ≤ 24) && decide (mcn e.2.2.2.own = e.2.2.2.nm.cls) && plainName e.2.2.2.nm.cls && goodWord (mcw e.2.2.2) &&
  (match e.2.1 with
  | 0 => decide ((parseMethodDescriptor e.2.2.2.nm.desc).map (fun d => d.parameters.length) = some (e.2.2.1 - 1)) && decide (1 ≤ e.2.2.1) && decide (e.2.2.2.own < 12) && decide (e.2.2.2.hs = [])
  | 1 => decide ((parseMethodDescriptor e.2.2.2.nm.desc).map (fun d => d.parameters.length) = some (e.2.2.1 - 1)) && decide (1 ≤ e.2.2.1) && decide (e.2.2.2.nm.name = "<init>") && decide (e.2.2.2.ret = none) && decide (e.2.2.2.hs = [])
  | 2 => decide ((parseMethodDescriptor e.2.2.2.nm.desc).map (fun d => d.parameters.length) = some e.2.2.1)
  | 4 => decide ((parseMethodDescriptor e.2.2.2.nm.desc).map (fun d => d.parameters.length) = some (e.2.2.1 - 1)) && decide (1 ≤ e.2.2.1) && decide (e.2.2.2.nm.name = "<init>") && decide (e.2.2.2.ret = none) && decide (e.2.2.2.hs = [])
  | 5 => decide ((parseMethodDescriptor e.2.2.2.nm.desc).map (fun d => d.parameters.length) = some e.2.2.1) && decide (e.2.2.2.hs = [])
  | 10 => decide (e.2.2.1 = 1)
  | 11 => decide (e.2.2.1 = 5)
  | _ => true)
def mchkw : List Cond → List Nat → Bool
  | [], [] => true
  | w :: ws, i :: is => decide (lw_tbl[i]? = some w) && goodWord w && mchkw ws is
  | _, _ => false
def mchk (own : Nat) : List (Nat × Nat × Nat × mM) → List (List Nat) → Bool
  | [], [] => true
  | e :: es, ps :: pss => mchkw (mew own e) ps && mep e && mchk own es pss
  | _, _ => false
theorem mchkw_ok : ∀ (ws : List Cond) (is : List Nat), mchkw ws is = true → ∀ w ∈ ws, w ∈ lw_tbl ∧ goodWord w = true
  | [], _, _, w, h => nomatch h
  | w :: ws, [], h, _, _ => by simp [mchkw] at h
  | w :: ws, i :: is, h, v, hv => by
    simp only [mchkw, Bool.and_eq_true, decide_eq_true_eq] at h
    rcases List.mem_cons.mp hv with rfl | hv
    · exact ⟨List.mem_of_getElem? h.1.1, h.1.2⟩
    · exact mchkw_ok ws is h.2 v hv
theorem mchk_ok (own : Nat) : ∀ (es : List (Nat × Nat × Nat × mM)) (pss : List (List Nat)), mchk own es pss = true → ∀ e ∈ es, (∀ w ∈ mew own e, w ∈ lw_tbl ∧ goodWord w = true) ∧ mep e = true
  | [], _, _, w, h => nomatch h
  | e :: es, [], h, _, _ => by simp [mchk] at h
  | e :: es, ps :: pss, h, v, hv => by
    simp only [mchk, Bool.and_eq_true] at h
    rcases List.mem_cons.mp hv with rfl | hv
    · exact ⟨mchkw_ok _ _ h.1.1, h.1.2⟩
    · exact mchk_ok own es pss h.2 v hv
theorem mchkf_ok (own : Nat) (es : List (Nat × Nat × Nat)) (ps : List Nat) (h : mchkw (es.map (mfw own)) ps = true) : ∀ e ∈ es, mfw own e ∈ lw_tbl ∧ goodWord (mfw own e) = true :=
  fun e he => mchkw_ok _ _ h _ (List.mem_map.mpr ⟨e, he, rfl⟩)
set_option maxRecDepth 100000 in
theorem mk_X0_init : mcw MX0_init ∈ lw_tbl := List.mem_of_getElem? (i := 380) rfl
set_option maxRecDepth 100000 in
theorem mk_X0_clear : mcw MX0_clear ∈ lw_tbl := List.mem_of_getElem? (i := 940) rfl
set_option maxRecDepth 100000 in
theorem mk_X0_stateAt : mcw MX0_stateAt ∈ lw_tbl := List.mem_of_getElem? (i := 559) rfl
set_option maxRecDepth 100000 in
theorem mk_X0_ahead : mcw MX0_ahead ∈ lw_tbl := List.mem_of_getElem? (i := 555) rfl
set_option maxRecDepth 100000 in
theorem mk_X0_stand : mcw MX0_stand ∈ lw_tbl := List.mem_of_getElem? (i := 658) rfl
set_option maxRecDepth 100000 in
theorem mk_X0_giveUp : mcw MX0_giveUp ∈ lw_tbl := List.mem_of_getElem? (i := 1005) rfl
set_option maxRecDepth 100000 in
theorem mk_X0_back : mcw MX0_back ∈ lw_tbl := List.mem_of_getElem? (i := 682) rfl
set_option maxRecDepth 100000 in
theorem mk_X0_become : mcw MX0_become ∈ lw_tbl := List.mem_of_getElem? (i := 708) rfl
set_option maxRecDepth 100000 in
theorem mk_X1_init : mcw MX1_init ∈ lw_tbl := List.mem_of_getElem? (i := 267) rfl
set_option maxRecDepth 100000 in
theorem mk_X1_become : mcw MX1_become ∈ lw_tbl := List.mem_of_getElem? (i := 703) rfl
set_option maxRecDepth 100000 in
theorem mk_X1_lastNoted : mcw MX1_lastNoted ∈ lw_tbl := List.mem_of_getElem? (i := 1259) rfl
set_option maxRecDepth 100000 in
theorem mk_X2_init : mcw MX2_init ∈ lw_tbl := List.mem_of_getElem? (i := 484) rfl
set_option maxRecDepth 100000 in
theorem mk_X2_drawOf : mcw MX2_drawOf ∈ lw_tbl := List.mem_of_getElem? (i := 1300) rfl
set_option maxRecDepth 100000 in
theorem mk_X3_init : mcw MX3_init ∈ lw_tbl := List.mem_of_getElem? (i := 429) rfl
set_option maxRecDepth 100000 in
theorem mk_X3_makeAll : mcw MX3_makeAll ∈ lw_tbl := List.mem_of_getElem? (i := 798) rfl
set_option maxRecDepth 100000 in
theorem mk_X3_makeClause : mcw MX3_makeClause ∈ lw_tbl := List.mem_of_getElem? (i := 815) rfl
set_option maxRecDepth 100000 in
theorem mk_X3_tellOnce : mcw MX3_tellOnce ∈ lw_tbl := List.mem_of_getElem? (i := 876) rfl
set_option maxRecDepth 100000 in
theorem mk_X3_makeGuest : mcw MX3_makeGuest ∈ lw_tbl := List.mem_of_getElem? (i := 890) rfl
set_option maxRecDepth 100000 in
theorem mk_X3_makePage : mcw MX3_makePage ∈ lw_tbl := List.mem_of_getElem? (i := 903) rfl
set_option maxRecDepth 100000 in
theorem mk_X3_makeAdvised : mcw MX3_makeAdvised ∈ lw_tbl := List.mem_of_getElem? (i := 918) rfl
set_option maxRecDepth 100000 in
theorem mk_X4_init : mcw MX4_init ∈ lw_tbl := List.mem_of_getElem? (i := 451) rfl
set_option maxRecDepth 100000 in
theorem mk_X4_countAll : mcw MX4_countAll ∈ lw_tbl := List.mem_of_getElem? (i := 951) rfl
set_option maxRecDepth 100000 in
theorem mk_X4_isNext : mcw MX4_isNext ∈ lw_tbl := List.mem_of_getElem? (i := 955) rfl
set_option maxRecDepth 100000 in
theorem mk_X5_init : mcw MX5_init ∈ lw_tbl := List.mem_of_getElem? (i := 157) rfl
set_option maxRecDepth 100000 in
theorem mk_X5_clear : mcw MX5_clear ∈ lw_tbl := List.mem_of_getElem? (i := 162) rfl
set_option maxRecDepth 100000 in
theorem mk_X5_become : mcw MX5_become ∈ lw_tbl := List.mem_of_getElem? (i := 935) rfl
set_option maxRecDepth 100000 in
theorem mk_X5_addGuest : mcw MX5_addGuest ∈ lw_tbl := List.mem_of_getElem? (i := 898) rfl
set_option maxRecDepth 100000 in
theorem mk_X5_placeAt : mcw MX5_placeAt ∈ lw_tbl := List.mem_of_getElem? (i := 912) rfl
set_option maxRecDepth 100000 in
theorem mk_X5_labelOf : mcw MX5_labelOf ∈ lw_tbl := List.mem_of_getElem? (i := 1117) rfl
set_option maxRecDepth 100000 in
theorem mk_X5_realmOf : mcw MX5_realmOf ∈ lw_tbl := List.mem_of_getElem? (i := 605) rfl
set_option maxRecDepth 100000 in
theorem mk_X6_init : mcw MX6_init ∈ lw_tbl := List.mem_of_getElem? (i := 279) rfl
set_option maxRecDepth 100000 in
theorem mk_X6_clear : mcw MX6_clear ∈ lw_tbl := List.mem_of_getElem? (i := 284) rfl
set_option maxRecDepth 100000 in
theorem mk_X6_become : mcw MX6_become ∈ lw_tbl := List.mem_of_getElem? (i := 568) rfl
set_option maxRecDepth 100000 in
theorem mk_X6_add : mcw MX6_add ∈ lw_tbl := List.mem_of_getElem? (i := 625) rfl
set_option maxRecDepth 100000 in
theorem mk_X6_remove : mcw MX6_remove ∈ lw_tbl := List.mem_of_getElem? (i := 601) rfl
set_option maxRecDepth 100000 in
theorem mk_X6_sizeOf : mcw MX6_sizeOf ∈ lw_tbl := List.mem_of_getElem? (i := 621) rfl
set_option maxRecDepth 100000 in
theorem mk_X6_nth : mcw MX6_nth ∈ lw_tbl := List.mem_of_getElem? (i := 1113) rfl
set_option maxRecDepth 100000 in
theorem mk_X7_init : mcw MX7_init ∈ lw_tbl := List.mem_of_getElem? (i := 273) rfl
set_option maxRecDepth 100000 in
theorem mk_X7_clear : mcw MX7_clear ∈ lw_tbl := List.mem_of_getElem? (i := 323) rfl
set_option maxRecDepth 100000 in
theorem mk_X7_become : mcw MX7_become ∈ lw_tbl := List.mem_of_getElem? (i := 564) rfl
set_option maxRecDepth 100000 in
theorem mk_X7_used : mcw MX7_used ∈ lw_tbl := List.mem_of_getElem? (i := 1017) rfl
set_option maxRecDepth 100000 in
theorem mk_X7_mergedFrames : mcw MX7_mergedFrames ∈ lw_tbl := List.mem_of_getElem? (i := 1021) rfl
set_option maxRecDepth 100000 in
theorem mk_X7_mergedPages : mcw MX7_mergedPages ∈ lw_tbl := List.mem_of_getElem? (i := 1025) rfl
set_option maxRecDepth 100000 in
theorem mk_X7_absentPages : mcw MX7_absentPages ∈ lw_tbl := List.mem_of_getElem? (i := 1033) rfl
set_option maxRecDepth 100000 in
theorem mk_X7_advisedPages : mcw MX7_advisedPages ∈ lw_tbl := List.mem_of_getElem? (i := 1037) rfl
set_option maxRecDepth 100000 in
theorem mk_X7_framesOf : mcw MX7_framesOf ∈ lw_tbl := List.mem_of_getElem? (i := 1070) rfl
set_option maxRecDepth 100000 in
theorem mk_X7_isMerged : mcw MX7_isMerged ∈ lw_tbl := List.mem_of_getElem? (i := 1029) rfl
set_option maxRecDepth 100000 in
theorem mk_X7_cellsAt : mcw MX7_cellsAt ∈ lw_tbl := List.mem_of_getElem? (i := 979) rfl
set_option maxRecDepth 100000 in
theorem mk_X7_freeFrame : mcw MX7_freeFrame ∈ lw_tbl := List.mem_of_getElem? (i := 995) rfl
set_option maxRecDepth 100000 in
theorem mk_X7_put : mcw MX7_put ∈ lw_tbl := List.mem_of_getElem? (i := 983) rfl
set_option maxRecDepth 100000 in
theorem mk_X7_putCell : mcw MX7_putCell ∈ lw_tbl := List.mem_of_getElem? (i := 975) rfl
set_option maxRecDepth 100000 in
theorem mk_X7_makeOwn : mcw MX7_makeOwn ∈ lw_tbl := List.mem_of_getElem? (i := 987) rfl
set_option maxRecDepth 100000 in
theorem mk_X7_leaveKnot : mcw MX7_leaveKnot ∈ lw_tbl := List.mem_of_getElem? (i := 991) rfl
set_option maxRecDepth 100000 in
theorem mk_X7_dropPage : mcw MX7_dropPage ∈ lw_tbl := List.mem_of_getElem? (i := 1001) rfl
set_option maxRecDepth 100000 in
theorem mk_X7_adviseAll : mcw MX7_adviseAll ∈ lw_tbl := List.mem_of_getElem? (i := 923) rfl
set_option maxRecDepth 100000 in
theorem mk_X7_adviseNoMore : mcw MX7_adviseNoMore ∈ lw_tbl := List.mem_of_getElem? (i := 1191) rfl
set_option maxRecDepth 100000 in
theorem mk_X7_scanMany : mcw MX7_scanMany ∈ lw_tbl := List.mem_of_getElem? (i := 581) rfl
set_option maxRecDepth 100000 in
theorem mk_X7_hasTimeFor : mcw MX7_hasTimeFor ∈ lw_tbl := List.mem_of_getElem? (i := 666) rfl
set_option maxRecDepth 100000 in
theorem mk_X7_tick : mcw MX7_tick ∈ lw_tbl := List.mem_of_getElem? (i := 670) rfl
set_option maxRecDepth 100000 in
theorem mk_X7_scanNext : mcw MX7_scanNext ∈ lw_tbl := List.mem_of_getElem? (i := 585) rfl
set_option maxRecDepth 100000 in
theorem mk_X7_advisedFrom : mcw MX7_advisedFrom ∈ lw_tbl := List.mem_of_getElem? (i := 589) rfl
set_option maxRecDepth 100000 in
theorem mk_X7_endRound : mcw MX7_endRound ∈ lw_tbl := List.mem_of_getElem? (i := 593) rfl
set_option maxRecDepth 100000 in
theorem mk_X7_restAt : mcw MX7_restAt ∈ lw_tbl := List.mem_of_getElem? (i := 650) rfl
set_option maxRecDepth 100000 in
theorem mk_X7_befall : mcw MX7_befall ∈ lw_tbl := List.mem_of_getElem? (i := 597) rfl
set_option maxRecDepth 100000 in
theorem mk_X7_seek : mcw MX7_seek ∈ lw_tbl := List.mem_of_getElem? (i := 609) rfl
set_option maxRecDepth 100000 in
theorem mk_X7_compared : mcw MX7_compared ∈ lw_tbl := List.mem_of_getElem? (i := 613) rfl
set_option maxRecDepth 100000 in
theorem mk_X7_sumOf : mcw MX7_sumOf ∈ lw_tbl := List.mem_of_getElem? (i := 628) rfl
set_option maxRecDepth 100000 in
theorem mk_X7_roomIn : mcw MX7_roomIn ∈ lw_tbl := List.mem_of_getElem? (i := 617) rfl
set_option maxRecDepth 100000 in
theorem mk_X7_pairUp : mcw MX7_pairUp ∈ lw_tbl := List.mem_of_getElem? (i := 635) rfl
set_option maxRecDepth 100000 in
theorem mk_X7_freeKnot : mcw MX7_freeKnot ∈ lw_tbl := List.mem_of_getElem? (i := 647) rfl
set_option maxRecDepth 100000 in
theorem mk_X7_fewest : mcw MX7_fewest ∈ lw_tbl := List.mem_of_getElem? (i := 1217) rfl
set_option maxRecDepth 100000 in
theorem mk_X7_likeAhead : mcw MX7_likeAhead ∈ lw_tbl := List.mem_of_getElem? (i := 1221) rfl
set_option maxRecDepth 100000 in
theorem mk_X7_risk : mcw MX7_risk ∈ lw_tbl := List.mem_of_getElem? (i := 1225) rfl
set_option maxRecDepth 100000 in
theorem mk_X8_init : mcw MX8_init ∈ lw_tbl := List.mem_of_getElem? (i := 230) rfl
set_option maxRecDepth 100000 in
theorem mk_X8_append : mcw MX8_append ∈ lw_tbl := List.mem_of_getElem? (i := 539) rfl
set_option maxRecDepth 100000 in
theorem mk_X8_begin : mcw MX8_begin ∈ lw_tbl := List.mem_of_getElem? (i := 794) rfl
set_option maxRecDepth 100000 in
theorem mk_X8_kindOf : mcw MX8_kindOf ∈ lw_tbl := List.mem_of_getElem? (i := 811) rfl
set_option maxRecDepth 100000 in
theorem mk_X8_step : mcw MX8_step ∈ lw_tbl := List.mem_of_getElem? (i := 808) rfl
set_option maxRecDepth 100000 in
theorem mk_X8_fail : mcw MX8_fail ∈ lw_tbl := List.mem_of_getElem? (i := 872) rfl
set_option maxRecDepth 100000 in
theorem mk_X8_atClause : mcw MX8_atClause ∈ lw_tbl := List.mem_of_getElem? (i := 804) rfl
set_option maxRecDepth 100000 in
theorem mk_X8_isWord : mcw MX8_isWord ∈ lw_tbl := List.mem_of_getElem? (i := 820) rfl
set_option maxRecDepth 100000 in
theorem mk_X8_numberIn : mcw MX8_numberIn ∈ lw_tbl := List.mem_of_getElem? (i := 880) rfl
set_option maxRecDepth 100000 in
theorem mk_X8_numberIsNext : mcw MX8_numberIsNext ∈ lw_tbl := List.mem_of_getElem? (i := 894) rfl
set_option maxRecDepth 100000 in
theorem mk_X8_clauseEnds : mcw MX8_clauseEnds ∈ lw_tbl := List.mem_of_getElem? (i := 927) rfl
set_option maxRecDepth 100000 in
theorem mk_X8_pageIn : mcw MX8_pageIn ∈ lw_tbl := List.mem_of_getElem? (i := 907) rfl
set_option maxRecDepth 100000 in
theorem mk_X9_init : mcw MX9_init ∈ lw_tbl := List.mem_of_getElem? (i := 308) rfl
set_option maxRecDepth 100000 in
theorem mk_X9_clear : mcw MX9_clear ∈ lw_tbl := List.mem_of_getElem? (i := 313) rfl
set_option maxRecDepth 100000 in
theorem mk_X9_become : mcw MX9_become ∈ lw_tbl := List.mem_of_getElem? (i := 575) rfl
set_option maxRecDepth 100000 in
theorem mk_X9_size : mcw MX9_size ∈ lw_tbl := List.mem_of_getElem? (i := 1041) rfl
set_option maxRecDepth 100000 in
theorem mk_X9_slotOf : mcw MX9_slotOf ∈ lw_tbl := List.mem_of_getElem? (i := 643) rfl
set_option maxRecDepth 100000 in
theorem mk_X9_leave : mcw MX9_leave ∈ lw_tbl := List.mem_of_getElem? (i := 639) rfl
set_option maxRecDepth 100000 in
theorem mk_X9_above : mcw MX9_above ∈ lw_tbl := List.mem_of_getElem? (i := 1151) rfl
set_option maxRecDepth 100000 in
theorem mk_X9_leftmost : mcw MX9_leftmost ∈ lw_tbl := List.mem_of_getElem? (i := 1139) rfl
set_option maxRecDepth 100000 in
theorem mk_X9_after : mcw MX9_after ∈ lw_tbl := List.mem_of_getElem? (i := 1143) rfl
set_option maxRecDepth 100000 in
theorem mk_X9_sizeOf : mcw MX9_sizeOf ∈ lw_tbl := List.mem_of_getElem? (i := 1135) rfl
set_option maxRecDepth 100000 in
theorem mk_X9_nth : mcw MX9_nth ∈ lw_tbl := List.mem_of_getElem? (i := 1147) rfl
set_option maxRecDepth 100000 in
theorem mk_X10_init : mcw MX10_init ∈ lw_tbl := List.mem_of_getElem? (i := 149) rfl
set_option maxRecDepth 100000 in
theorem mk_X10_feed : mcw MX10_feed ∈ lw_tbl := List.mem_of_getElem? (i := 535) rfl
set_option maxRecDepth 100000 in
theorem mk_X10_machine : mcw MX10_machine ∈ lw_tbl := List.mem_of_getElem? (i := 721) rfl
set_option maxRecDepth 100000 in
theorem mk_X10_orders : mcw MX10_orders ∈ lw_tbl := List.mem_of_getElem? (i := 947) rfl
set_option maxRecDepth 100000 in
theorem mk_X10_fault : mcw MX10_fault ∈ lw_tbl := List.mem_of_getElem? (i := 543) rfl
set_option maxRecDepth 100000 in
theorem mk_X10_count : mcw MX10_count ∈ lw_tbl := List.mem_of_getElem? (i := 1013) rfl
set_option maxRecDepth 100000 in
theorem mk_X10_guest : mcw MX10_guest ∈ lw_tbl := List.mem_of_getElem? (i := 1063) rfl
set_option maxRecDepth 100000 in
theorem mk_X10_read : mcw MX10_read ∈ lw_tbl := List.mem_of_getElem? (i := 1083) rfl
set_option maxRecDepth 100000 in
theorem mk_X10_page : mcw MX10_page ∈ lw_tbl := List.mem_of_getElem? (i := 1099) rfl
set_option maxRecDepth 100000 in
theorem mk_X10_frame : mcw MX10_frame ∈ lw_tbl := List.mem_of_getElem? (i := 1108) rfl
set_option maxRecDepth 100000 in
theorem mk_X10_chain : mcw MX10_chain ∈ lw_tbl := List.mem_of_getElem? (i := 1124) rfl
set_option maxRecDepth 100000 in
theorem mk_X10_knot : mcw MX10_knot ∈ lw_tbl := List.mem_of_getElem? (i := 1131) rfl
set_option maxRecDepth 100000 in
theorem mk_X10_like : mcw MX10_like ∈ lw_tbl := List.mem_of_getElem? (i := 1158) rfl
set_option maxRecDepth 100000 in
theorem mk_X10_write : mcw MX10_write ∈ lw_tbl := List.mem_of_getElem? (i := 1165) rfl
set_option maxRecDepth 100000 in
theorem mk_X10_copy : mcw MX10_copy ∈ lw_tbl := List.mem_of_getElem? (i := 1172) rfl
set_option maxRecDepth 100000 in
theorem mk_X10_drop : mcw MX10_drop ∈ lw_tbl := List.mem_of_getElem? (i := 1179) rfl
set_option maxRecDepth 100000 in
theorem mk_X10_advise : mcw MX10_advise ∈ lw_tbl := List.mem_of_getElem? (i := 1186) rfl
set_option maxRecDepth 100000 in
theorem mk_X10_scan : mcw MX10_scan ∈ lw_tbl := List.mem_of_getElem? (i := 547) rfl
set_option maxRecDepth 100000 in
theorem mk_X10_ticks : mcw MX10_ticks ∈ lw_tbl := List.mem_of_getElem? (i := 662) rfl
set_option maxRecDepth 100000 in
theorem mk_X10_rate : mcw MX10_rate ∈ lw_tbl := List.mem_of_getElem? (i := 674) rfl
set_option maxRecDepth 100000 in
theorem mk_X10_undo : mcw MX10_undo ∈ lw_tbl := List.mem_of_getElem? (i := 678) rfl
set_option maxRecDepth 100000 in
theorem mk_X10_then : mcw MX10_then ∈ lw_tbl := List.mem_of_getElem? (i := 1198) rfl
set_option maxRecDepth 100000 in
theorem mk_X10_quiet : mcw MX10_quiet ∈ lw_tbl := List.mem_of_getElem? (i := 686) rfl
set_option maxRecDepth 100000 in
theorem mk_X10_merges : mcw MX10_merges ∈ lw_tbl := List.mem_of_getElem? (i := 1205) rfl
set_option maxRecDepth 100000 in
theorem mk_X10_ideal : mcw MX10_ideal ∈ lw_tbl := List.mem_of_getElem? (i := 1213) rfl
set_option maxRecDepth 100000 in
theorem mk_X10_probe : mcw MX10_probe ∈ lw_tbl := List.mem_of_getElem? (i := 1233) rfl
set_option maxRecDepth 100000 in
theorem mk_X10_toAdvise : mcw MX10_toAdvise ∈ lw_tbl := List.mem_of_getElem? (i := 1241) rfl
set_option maxRecDepth 100000 in
theorem mk_X10_toRate : mcw MX10_toRate ∈ lw_tbl := List.mem_of_getElem? (i := 1248) rfl
set_option maxRecDepth 100000 in
theorem mk_X10_note : mcw MX10_note ∈ lw_tbl := List.mem_of_getElem? (i := 691) rfl
set_option maxRecDepth 100000 in
theorem mk_X10_guess : mcw MX10_guess ∈ lw_tbl := List.mem_of_getElem? (i := 1255) rfl
set_option maxRecDepth 100000 in
theorem mk_X10_look : mcw MX10_look ∈ lw_tbl := List.mem_of_getElem? (i := 1270) rfl
set_option maxRecDepth 100000 in
theorem mk_X10_forget : mcw MX10_forget ∈ lw_tbl := List.mem_of_getElem? (i := 695) rfl
set_option maxRecDepth 100000 in
theorem mk_X10_dirt : mcw MX10_dirt ∈ lw_tbl := List.mem_of_getElem? (i := 1281) rfl
set_option maxRecDepth 100000 in
theorem mk_X10_years : mcw MX10_years ∈ lw_tbl := List.mem_of_getElem? (i := 1292) rfl
set_option maxRecDepth 100000 in
theorem mk_X10_image : mcw MX10_image ∈ lw_tbl := List.mem_of_getElem? (i := 699) rfl
set_option maxRecDepth 100000 in
theorem mk_X10_restore : mcw MX10_restore ∈ lw_tbl := List.mem_of_getElem? (i := 713) rfl
set_option maxRecDepth 100000 in
theorem mk_X10_mustBe : mcw MX10_mustBe ∈ lw_tbl := List.mem_of_getElem? (i := 1066) rfl
set_option maxRecDepth 100000 in
theorem mk_X10_mustFit : mcw MX10_mustFit ∈ lw_tbl := List.mem_of_getElem? (i := 728) rfl
set_option maxRecDepth 100000 in
theorem mk_X10_mustBeCell : mcw MX10_mustBeCell ∈ lw_tbl := List.mem_of_getElem? (i := 1091) rfl
set_option maxRecDepth 100000 in
theorem mk_X10_placeOf : mcw MX10_placeOf ∈ lw_tbl := List.mem_of_getElem? (i := 1087) rfl
set_option maxRecDepth 100000 in
theorem mk_X10_cellOf : mcw MX10_cellOf ∈ lw_tbl := List.mem_of_getElem? (i := 631) rfl
set_option maxRecDepth 100000 in
theorem mk_X10_refused : mcw MX10_refused ∈ lw_tbl := List.mem_of_getElem? (i := 551) rfl
set_option maxRecDepth 100000 in
theorem mk_X10_acted : mcw MX10_acted ∈ lw_tbl := List.mem_of_getElem? (i := 654) rfl
set_option maxRecDepth 100000 in
theorem mk_X10_openText : mcw MX10_openText ∈ lw_tbl := List.mem_of_getElem? (i := 725) rfl
set_option maxRecDepth 100000 in
theorem mk_X10_closeText : mcw MX10_closeText ∈ lw_tbl := List.mem_of_getElem? (i := 931) rfl
set_option maxRecDepth 100000 in
theorem mk_X10_obey : mcw MX10_obey ∈ lw_tbl := List.mem_of_getElem? (i := 971) rfl
set_option maxRecDepth 100000 in
theorem mk_X10_fits : mcw MX10_fits ∈ lw_tbl := List.mem_of_getElem? (i := 1263) rfl
set_option maxRecDepth 100000 in
theorem mk_X10_usedBy : mcw MX10_usedBy ∈ lw_tbl := List.mem_of_getElem? (i := 1285) rfl
set_option maxRecDepth 100000 in
theorem mk_X10_befallsByChance : mcw MX10_befallsByChance ∈ lw_tbl := List.mem_of_getElem? (i := 1296) rfl
set_option maxRecDepth 100000 in
theorem mk_X11_init : mcw MX11_init ∈ lw_tbl := List.mem_of_getElem? (i := 1306) rfl
set_option maxRecDepth 100000 in
theorem mk_X11_thrown : mcw MX11_thrown ∈ lw_tbl := List.mem_of_getElem? (i := 1494) rfl
set_option maxRecDepth 100000 in
theorem mk_X11_right : mcw MX11_right ∈ lw_tbl := List.mem_of_getElem? (i := 1510) rfl
set_option maxRecDepth 100000 in
theorem mk_X11_within : mcw MX11_within ∈ lw_tbl := List.mem_of_getElem? (i := 1554) rfl
set_option maxRecDepth 100000 in
theorem mk_X11_lesser : mcw MX11_lesser ∈ lw_tbl := List.mem_of_getElem? (i := 1685) rfl
set_option maxRecDepth 100000 in
theorem mk_X11_greater : mcw MX11_greater ∈ lw_tbl := List.mem_of_getElem? (i := 1688) rfl
set_option maxRecDepth 100000 in
theorem mk_X11_copies : mcw MX11_copies ∈ lw_tbl := List.mem_of_getElem? (i := 1606) rfl
set_option maxRecDepth 100000 in
theorem mk_X11_begins : mcw MX11_begins ∈ lw_tbl := List.mem_of_getElem? (i := 1312) rfl
set_option maxRecDepth 100000 in
theorem mk_X11_cellOf : mcw MX11_cellOf ∈ lw_tbl := List.mem_of_getElem? (i := 1622) rfl
set_option maxRecDepth 100000 in
theorem mk_X11_free : mcw MX11_free ∈ lw_tbl := List.mem_of_getElem? (i := 1630) rfl
set_option maxRecDepth 100000 in
theorem mk_X11_usedOf : mcw MX11_usedOf ∈ lw_tbl := List.mem_of_getElem? (i := 1790) rfl
set_option maxRecDepth 100000 in
theorem mk_X11_isMerged : mcw MX11_isMerged ∈ lw_tbl := List.mem_of_getElem? (i := 1700) rfl
set_option maxRecDepth 100000 in
theorem mk_X11_liesIn : mcw MX11_liesIn ∈ lw_tbl := List.mem_of_getElem? (i := 1586) rfl
set_option maxRecDepth 100000 in
theorem mk_X11_leavesFrame : mcw MX11_leavesFrame ∈ lw_tbl := List.mem_of_getElem? (i := 1634) rfl
set_option maxRecDepth 100000 in
theorem mk_X11_realm : mcw MX11_realm ∈ lw_tbl := List.mem_of_getElem? (i := 1712) rfl
set_option maxRecDepth 100000 in
theorem mk_X11_framesOf : mcw MX11_framesOf ∈ lw_tbl := List.mem_of_getElem? (i := 1642) rfl
set_option maxRecDepth 100000 in
theorem mk_X11_frameAt : mcw MX11_frameAt ∈ lw_tbl := List.mem_of_getElem? (i := 1732) rfl
set_option maxRecDepth 100000 in
theorem mk_X11_leavesKnot : mcw MX11_leavesKnot ∈ lw_tbl := List.mem_of_getElem? (i := 1638) rfl
set_option maxRecDepth 100000 in
theorem mk_X11_comesTo : mcw MX11_comesTo ∈ lw_tbl := List.mem_of_getElem? (i := 1764) rfl
set_option maxRecDepth 100000 in
theorem mk_X11_newKnot : mcw MX11_newKnot ∈ lw_tbl := List.mem_of_getElem? (i := 1760) rfl
set_option maxRecDepth 100000 in
theorem mk_X11_placeIn : mcw MX11_placeIn ∈ lw_tbl := List.mem_of_getElem? (i := 1646) rfl
set_option maxRecDepth 100000 in
theorem mk_X11_begin : mcw MX11_begin ∈ lw_tbl := List.mem_of_getElem? (i := 1654) rfl
set_option maxRecDepth 100000 in
theorem mk_X11_end : mcw MX11_end ∈ lw_tbl := List.mem_of_getElem? (i := 1658) rfl
set_option maxRecDepth 100000 in
theorem mk_X11_putsIn : mcw MX11_putsIn ∈ lw_tbl := List.mem_of_getElem? (i := 1752) rfl
set_option maxRecDepth 100000 in
theorem mk_X11_cutsOut : mcw MX11_cutsOut ∈ lw_tbl := List.mem_of_getElem? (i := 1666) rfl
set_option maxRecDepth 100000 in
theorem mk_X11_liftsOut : mcw MX11_liftsOut ∈ lw_tbl := List.mem_of_getElem? (i := 1662) rfl
set_option maxRecDepth 100000 in
theorem mk_X11_takesOut : mcw MX11_takesOut ∈ lw_tbl := List.mem_of_getElem? (i := 1650) rfl
set_option maxRecDepth 100000 in
theorem mk_X11_seeks : mcw MX11_seeks ∈ lw_tbl := List.mem_of_getElem? (i := 1716) rfl
set_option maxRecDepth 100000 in
theorem mk_X11_top : mcw MX11_top ∈ lw_tbl := List.mem_of_getElem? (i := 1724) rfl
set_option maxRecDepth 100000 in
theorem mk_X11_compares : mcw MX11_compares ∈ lw_tbl := List.mem_of_getElem? (i := 1736) rfl
set_option maxRecDepth 100000 in
theorem mk_X11_cellsOf : mcw MX11_cellsOf ∈ lw_tbl := List.mem_of_getElem? (i := 1728) rfl
set_option maxRecDepth 100000 in
theorem mk_X11_searches : mcw MX11_searches ∈ lw_tbl := List.mem_of_getElem? (i := 1720) rfl
set_option maxRecDepth 100000 in
theorem mk_X11_laysCells : mcw MX11_laysCells ∈ lw_tbl := List.mem_of_getElem? (i := 1590) rfl
set_option maxRecDepth 100000 in
theorem mk_X11_writes : mcw MX11_writes ∈ lw_tbl := List.mem_of_getElem? (i := 1626) rfl
set_option maxRecDepth 100000 in
theorem mk_X11_saysAs : mcw MX11_saysAs ∈ lw_tbl := List.mem_of_getElem? (i := 1618) rfl
set_option maxRecDepth 100000 in
theorem mk_X11_writesCell : mcw MX11_writesCell ∈ lw_tbl := List.mem_of_getElem? (i := 1614) rfl
set_option maxRecDepth 100000 in
theorem mk_X11_drops : mcw MX11_drops ∈ lw_tbl := List.mem_of_getElem? (i := 1670) rfl
set_option maxRecDepth 100000 in
theorem mk_X11_waitsNoMore : mcw MX11_waitsNoMore ∈ lw_tbl := List.mem_of_getElem? (i := 1756) rfl
set_option maxRecDepth 100000 in
theorem mk_X11_advises : mcw MX11_advises ∈ lw_tbl := List.mem_of_getElem? (i := 1898) rfl
set_option maxRecDepth 100000 in
theorem mk_X11_nextAdvised : mcw MX11_nextAdvised ∈ lw_tbl := List.mem_of_getElem? (i := 1678) rfl
set_option maxRecDepth 100000 in
theorem mk_X11_endsRound : mcw MX11_endsRound ∈ lw_tbl := List.mem_of_getElem? (i := 1682) rfl
set_option maxRecDepth 100000 in
theorem mk_X11_sumOf : mcw MX11_sumOf ∈ lw_tbl := List.mem_of_getElem? (i := 1748) rfl
set_option maxRecDepth 100000 in
theorem mk_X11_roomIn : mcw MX11_roomIn ∈ lw_tbl := List.mem_of_getElem? (i := 1740) rfl
set_option maxRecDepth 100000 in
theorem mk_X11_movesTo : mcw MX11_movesTo ∈ lw_tbl := List.mem_of_getElem? (i := 1744) rfl
set_option maxRecDepth 100000 in
theorem mk_X11_isZero : mcw MX11_isZero ∈ lw_tbl := List.mem_of_getElem? (i := 1704) rfl
set_option maxRecDepth 100000 in
theorem mk_X11_looksFor : mcw MX11_looksFor ∈ lw_tbl := List.mem_of_getElem? (i := 1708) rfl
set_option maxRecDepth 100000 in
theorem mk_X11_befalls : mcw MX11_befalls ∈ lw_tbl := List.mem_of_getElem? (i := 1696) rfl
set_option maxRecDepth 100000 in
theorem mk_X11_restOf : mcw MX11_restOf ∈ lw_tbl := List.mem_of_getElem? (i := 1767) rfl
set_option maxRecDepth 100000 in
theorem mk_X11_scansPage : mcw MX11_scansPage ∈ lw_tbl := List.mem_of_getElem? (i := 1692) rfl
set_option maxRecDepth 100000 in
theorem mk_X11_scans : mcw MX11_scans ∈ lw_tbl := List.mem_of_getElem? (i := 1674) rfl
set_option maxRecDepth 100000 in
theorem mk_X11_ticksOf : mcw MX11_ticksOf ∈ lw_tbl := List.mem_of_getElem? (i := 1771) rfl
set_option maxRecDepth 100000 in
theorem mk_X11_isLetter : mcw MX11_isLetter ∈ lw_tbl := List.mem_of_getElem? (i := 1525) rfl
set_option maxRecDepth 100000 in
theorem mk_X11_byteAt : mcw MX11_byteAt ∈ lw_tbl := List.mem_of_getElem? (i := 1522) rfl
set_option maxRecDepth 100000 in
theorem mk_X11_wordOf : mcw MX11_wordOf ∈ lw_tbl := List.mem_of_getElem? (i := 1529) rfl
set_option maxRecDepth 100000 in
theorem mk_X11_go : mcw MX11_go ∈ lw_tbl := List.mem_of_getElem? (i := 1518) rfl
set_option maxRecDepth 100000 in
theorem mk_X11_wants : mcw MX11_wants ∈ lw_tbl := List.mem_of_getElem? (i := 1543) rfl
set_option maxRecDepth 100000 in
theorem mk_X11_number : mcw MX11_number ∈ lw_tbl := List.mem_of_getElem? (i := 1551) rfl
set_option maxRecDepth 100000 in
theorem mk_X11_opens : mcw MX11_opens ∈ lw_tbl := List.mem_of_getElem? (i := 1514) rfl
set_option maxRecDepth 100000 in
theorem mk_X11_pageHere : mcw MX11_pageHere ∈ lw_tbl := List.mem_of_getElem? (i := 1566) rfl
set_option maxRecDepth 100000 in
theorem mk_X11_pageOf : mcw MX11_pageOf ∈ lw_tbl := List.mem_of_getElem? (i := 1570) rfl
set_option maxRecDepth 100000 in
theorem mk_X11_once : mcw MX11_once ∈ lw_tbl := List.mem_of_getElem? (i := 1547) rfl
set_option maxRecDepth 100000 in
theorem mk_X11_page1 : mcw MX11_page1 ∈ lw_tbl := List.mem_of_getElem? (i := 1562) rfl
set_option maxRecDepth 100000 in
theorem mk_X11_advise1 : mcw MX11_advise1 ∈ lw_tbl := List.mem_of_getElem? (i := 1574) rfl
set_option maxRecDepth 100000 in
theorem mk_X11_guest1 : mcw MX11_guest1 ∈ lw_tbl := List.mem_of_getElem? (i := 1558) rfl
set_option maxRecDepth 100000 in
theorem mk_X11_clause1 : mcw MX11_clause1 ∈ lw_tbl := List.mem_of_getElem? (i := 1539) rfl
set_option maxRecDepth 100000 in
theorem mk_X11_ends : mcw MX11_ends ∈ lw_tbl := List.mem_of_getElem? (i := 1578) rfl
set_option maxRecDepth 100000 in
theorem mk_X11_without1 : mcw MX11_without1 ∈ lw_tbl := List.mem_of_getElem? (i := 1535) rfl
set_option maxRecDepth 100000 in
theorem mk_X11_becomes : mcw MX11_becomes ∈ lw_tbl := List.mem_of_getElem? (i := 1582) rfl
set_option maxRecDepth 100000 in
theorem mk_X11_feed : mcw MX11_feed ∈ lw_tbl := List.mem_of_getElem? (i := 1498) rfl
set_option maxRecDepth 100000 in
theorem mk_X11_reads : mcw MX11_reads ∈ lw_tbl := List.mem_of_getElem? (i := 1506) rfl
set_option maxRecDepth 100000 in
theorem mk_X11_machine : mcw MX11_machine ∈ lw_tbl := List.mem_of_getElem? (i := 1502) rfl
set_option maxRecDepth 100000 in
theorem mk_X11_pageThere : mcw MX11_pageThere ∈ lw_tbl := List.mem_of_getElem? (i := 1602) rfl
set_option maxRecDepth 100000 in
theorem mk_X11_order : mcw MX11_order ∈ lw_tbl := List.mem_of_getElem? (i := 1598) rfl
set_option maxRecDepth 100000 in
theorem mk_X11_isDone : mcw MX11_isDone ∈ lw_tbl := List.mem_of_getElem? (i := 1610) rfl
set_option maxRecDepth 100000 in
theorem mk_X11_orders : mcw MX11_orders ∈ lw_tbl := List.mem_of_getElem? (i := 1594) rfl
set_option maxRecDepth 100000 in
theorem mk_X11_fault : mcw MX11_fault ∈ lw_tbl := List.mem_of_getElem? (i := 1782) rfl
set_option maxRecDepth 100000 in
theorem mk_X11_merged : mcw MX11_merged ∈ lw_tbl := List.mem_of_getElem? (i := 1798) rfl
set_option maxRecDepth 100000 in
theorem mk_X11_waiting : mcw MX11_waiting ∈ lw_tbl := List.mem_of_getElem? (i := 1810) rfl
set_option maxRecDepth 100000 in
theorem mk_X11_absent : mcw MX11_absent ∈ lw_tbl := List.mem_of_getElem? (i := 1802) rfl
set_option maxRecDepth 100000 in
theorem mk_X11_advised : mcw MX11_advised ∈ lw_tbl := List.mem_of_getElem? (i := 1806) rfl
set_option maxRecDepth 100000 in
theorem mk_X11_mergedFrames : mcw MX11_mergedFrames ∈ lw_tbl := List.mem_of_getElem? (i := 1794) rfl
set_option maxRecDepth 100000 in
theorem mk_X11_count : mcw MX11_count ∈ lw_tbl := List.mem_of_getElem? (i := 1786) rfl
set_option maxRecDepth 100000 in
theorem mk_X11_number0 : mcw MX11_number0 ∈ lw_tbl := List.mem_of_getElem? (i := 1814) rfl
set_option maxRecDepth 100000 in
theorem mk_X11_isGuest : mcw MX11_isGuest ∈ lw_tbl := List.mem_of_getElem? (i := 1822) rfl
set_option maxRecDepth 100000 in
theorem mk_X11_isPage : mcw MX11_isPage ∈ lw_tbl := List.mem_of_getElem? (i := 1834) rfl
set_option maxRecDepth 100000 in
theorem mk_X11_lying : mcw MX11_lying ∈ lw_tbl := List.mem_of_getElem? (i := 1826) rfl
set_option maxRecDepth 100000 in
theorem mk_X11_guest : mcw MX11_guest ∈ lw_tbl := List.mem_of_getElem? (i := 1818) rfl
set_option maxRecDepth 100000 in
theorem mk_X11_read : mcw MX11_read ∈ lw_tbl := List.mem_of_getElem? (i := 1830) rfl
set_option maxRecDepth 100000 in
theorem mk_X11_page : mcw MX11_page ∈ lw_tbl := List.mem_of_getElem? (i := 1838) rfl
set_option maxRecDepth 100000 in
theorem mk_X11_told : mcw MX11_told ∈ lw_tbl := List.mem_of_getElem? (i := 1850) rfl
set_option maxRecDepth 100000 in
theorem mk_X11_isFrame : mcw MX11_isFrame ∈ lw_tbl := List.mem_of_getElem? (i := 1846) rfl
set_option maxRecDepth 100000 in
theorem mk_X11_frame : mcw MX11_frame ∈ lw_tbl := List.mem_of_getElem? (i := 1842) rfl
set_option maxRecDepth 100000 in
theorem mk_X11_chain : mcw MX11_chain ∈ lw_tbl := List.mem_of_getElem? (i := 1854) rfl
set_option maxRecDepth 100000 in
theorem mk_X11_knot : mcw MX11_knot ∈ lw_tbl := List.mem_of_getElem? (i := 1858) rfl
set_option maxRecDepth 100000 in
theorem mk_X11_areLike : mcw MX11_areLike ∈ lw_tbl := List.mem_of_getElem? (i := 1866) rfl
set_option maxRecDepth 100000 in
theorem mk_X11_like : mcw MX11_like ∈ lw_tbl := List.mem_of_getElem? (i := 1862) rfl
set_option maxRecDepth 100000 in
theorem mk_X11_keptAt : mcw MX11_keptAt ∈ lw_tbl := List.mem_of_getElem? (i := 1778) rfl
set_option maxRecDepth 100000 in
theorem mk_X11_keeps : mcw MX11_keeps ∈ lw_tbl := List.mem_of_getElem? (i := 1775) rfl
set_option maxRecDepth 100000 in
theorem mk_X11_refuses : mcw MX11_refuses ∈ lw_tbl := List.mem_of_getElem? (i := 1882) rfl
set_option maxRecDepth 100000 in
theorem mk_X11_does : mcw MX11_does ∈ lw_tbl := List.mem_of_getElem? (i := 1878) rfl
set_option maxRecDepth 100000 in
theorem mk_X11_tries : mcw MX11_tries ∈ lw_tbl := List.mem_of_getElem? (i := 1874) rfl
set_option maxRecDepth 100000 in
theorem mk_X11_write : mcw MX11_write ∈ lw_tbl := List.mem_of_getElem? (i := 1870) rfl
set_option maxRecDepth 100000 in
theorem mk_X11_copy : mcw MX11_copy ∈ lw_tbl := List.mem_of_getElem? (i := 1886) rfl
set_option maxRecDepth 100000 in
theorem mk_X11_drop : mcw MX11_drop ∈ lw_tbl := List.mem_of_getElem? (i := 1890) rfl
set_option maxRecDepth 100000 in
theorem mk_X11_advise : mcw MX11_advise ∈ lw_tbl := List.mem_of_getElem? (i := 1894) rfl
set_option maxRecDepth 100000 in
theorem mk_X11_scan : mcw MX11_scan ∈ lw_tbl := List.mem_of_getElem? (i := 1902) rfl
set_option maxRecDepth 100000 in
theorem mk_X11_ticks : mcw MX11_ticks ∈ lw_tbl := List.mem_of_getElem? (i := 1906) rfl
set_option maxRecDepth 100000 in
theorem mk_X11_rate : mcw MX11_rate ∈ lw_tbl := List.mem_of_getElem? (i := 1910) rfl
set_option maxRecDepth 100000 in
theorem mk_X11_undo : mcw MX11_undo ∈ lw_tbl := List.mem_of_getElem? (i := 1914) rfl
set_option maxRecDepth 100000 in
theorem mk_X11_toldOf : mcw MX11_toldOf ∈ lw_tbl := List.mem_of_getElem? (i := 1922) rfl
set_option maxRecDepth 100000 in
theorem mk_X11_then : mcw MX11_then ∈ lw_tbl := List.mem_of_getElem? (i := 1918) rfl
set_option maxRecDepth 100000 in
theorem mk_X11_quiet : mcw MX11_quiet ∈ lw_tbl := List.mem_of_getElem? (i := 1926) rfl
set_option maxRecDepth 100000 in
theorem mk_X11_merges : mcw MX11_merges ∈ lw_tbl := List.mem_of_getElem? (i := 1930) rfl
set_option maxRecDepth 100000 in
theorem mk_X11_isCounted : mcw MX11_isCounted ∈ lw_tbl := List.mem_of_getElem? (i := 1946) rfl
set_option maxRecDepth 100000 in
theorem mk_X11_classOf : mcw MX11_classOf ∈ lw_tbl := List.mem_of_getElem? (i := 1942) rfl
set_option maxRecDepth 100000 in
theorem mk_X11_least : mcw MX11_least ∈ lw_tbl := List.mem_of_getElem? (i := 1938) rfl
set_option maxRecDepth 100000 in
theorem mk_X11_risk : mcw MX11_risk ∈ lw_tbl := List.mem_of_getElem? (i := 1950) rfl
set_option maxRecDepth 100000 in
theorem mk_X11_ideal : mcw MX11_ideal ∈ lw_tbl := List.mem_of_getElem? (i := 1934) rfl
set_option maxRecDepth 100000 in
theorem mk_X11_probe : mcw MX11_probe ∈ lw_tbl := List.mem_of_getElem? (i := 1954) rfl
set_option maxRecDepth 100000 in
theorem mk_X11_toAdvise : mcw MX11_toAdvise ∈ lw_tbl := List.mem_of_getElem? (i := 1959) rfl
set_option maxRecDepth 100000 in
theorem mk_X11_toRate : mcw MX11_toRate ∈ lw_tbl := List.mem_of_getElem? (i := 1963) rfl
set_option maxRecDepth 100000 in
theorem mk_X11_note : mcw MX11_note ∈ lw_tbl := List.mem_of_getElem? (i := 1967) rfl
set_option maxRecDepth 100000 in
theorem mk_X11_isNoted : mcw MX11_isNoted ∈ lw_tbl := List.mem_of_getElem? (i := 1975) rfl
set_option maxRecDepth 100000 in
theorem mk_X11_isGuess : mcw MX11_isGuess ∈ lw_tbl := List.mem_of_getElem? (i := 1979) rfl
set_option maxRecDepth 100000 in
theorem mk_X11_guess : mcw MX11_guess ∈ lw_tbl := List.mem_of_getElem? (i := 1971) rfl
set_option maxRecDepth 100000 in
theorem mk_X11_ones : mcw MX11_ones ∈ lw_tbl := List.mem_of_getElem? (i := 1986) rfl
set_option maxRecDepth 100000 in
theorem mk_X11_look : mcw MX11_look ∈ lw_tbl := List.mem_of_getElem? (i := 1983) rfl
set_option maxRecDepth 100000 in
theorem mk_X11_forget : mcw MX11_forget ∈ lw_tbl := List.mem_of_getElem? (i := 1990) rfl
set_option maxRecDepth 100000 in
theorem mk_X11_dirt : mcw MX11_dirt ∈ lw_tbl := List.mem_of_getElem? (i := 1994) rfl
set_option maxRecDepth 100000 in
theorem mk_X11_draw : mcw MX11_draw ∈ lw_tbl := List.mem_of_getElem? (i := 2006) rfl
set_option maxRecDepth 100000 in
theorem mk_X11_fails : mcw MX11_fails ∈ lw_tbl := List.mem_of_getElem? (i := 2002) rfl
set_option maxRecDepth 100000 in
theorem mk_X11_years : mcw MX11_years ∈ lw_tbl := List.mem_of_getElem? (i := 1998) rfl
set_option maxRecDepth 100000 in
theorem mk_X11_image : mcw MX11_image ∈ lw_tbl := List.mem_of_getElem? (i := 2011) rfl
set_option maxRecDepth 100000 in
theorem mk_X11_restore : mcw MX11_restore ∈ lw_tbl := List.mem_of_getElem? (i := 2018) rfl
set_option maxRecDepth 100000 in
theorem mk_J13_bitCount_95d88 : mcw MJ13_bitCount_95d88 ∈ lw_tbl := List.mem_of_getElem? (i := 1073) rfl
set_option maxRecDepth 100000 in
theorem mk_J7_fill_d0a16 : mcw MJ7_fill_d0a16 ∈ lw_tbl := List.mem_of_getElem? (i := 1273) rfl
set_option maxRecDepth 100000 in
theorem mk_J7_fill_53178 : mcw MJ7_fill_53178 ∈ lw_tbl := List.mem_of_getElem? (i := 287) rfl
set_option maxRecDepth 100000 in
theorem mk_L_machine : mcw ML_machine ∈ lw_tbl := List.mem_of_getElem? (i := 716) rfl
set_option maxRecDepth 100000 in
theorem mk_L_orders : mcw ML_orders ∈ lw_tbl := List.mem_of_getElem? (i := 943) rfl
set_option maxRecDepth 100000 in
theorem mk_L_count : mcw ML_count ∈ lw_tbl := List.mem_of_getElem? (i := 1008) rfl
set_option maxRecDepth 100000 in
theorem mk_L_guest : mcw ML_guest ∈ lw_tbl := List.mem_of_getElem? (i := 1059) rfl
set_option maxRecDepth 100000 in
theorem mk_L_read : mcw ML_read ∈ lw_tbl := List.mem_of_getElem? (i := 1079) rfl
set_option maxRecDepth 100000 in
theorem mk_L_page : mcw ML_page ∈ lw_tbl := List.mem_of_getElem? (i := 1095) rfl
set_option maxRecDepth 100000 in
theorem mk_L_frame : mcw ML_frame ∈ lw_tbl := List.mem_of_getElem? (i := 1104) rfl
set_option maxRecDepth 100000 in
theorem mk_L_chain : mcw ML_chain ∈ lw_tbl := List.mem_of_getElem? (i := 1120) rfl
set_option maxRecDepth 100000 in
theorem mk_L_knot : mcw ML_knot ∈ lw_tbl := List.mem_of_getElem? (i := 1127) rfl
set_option maxRecDepth 100000 in
theorem mk_L_like : mcw ML_like ∈ lw_tbl := List.mem_of_getElem? (i := 1154) rfl
set_option maxRecDepth 100000 in
theorem mk_L_write : mcw ML_write ∈ lw_tbl := List.mem_of_getElem? (i := 1161) rfl
set_option maxRecDepth 100000 in
theorem mk_L_copy : mcw ML_copy ∈ lw_tbl := List.mem_of_getElem? (i := 1168) rfl
set_option maxRecDepth 100000 in
theorem mk_L_drop : mcw ML_drop ∈ lw_tbl := List.mem_of_getElem? (i := 1175) rfl
set_option maxRecDepth 100000 in
theorem mk_L_advise : mcw ML_advise ∈ lw_tbl := List.mem_of_getElem? (i := 1182) rfl
set_option maxRecDepth 100000 in
theorem mk_L_then : mcw ML_then ∈ lw_tbl := List.mem_of_getElem? (i := 1194) rfl
set_option maxRecDepth 100000 in
theorem mk_L_merges : mcw ML_merges ∈ lw_tbl := List.mem_of_getElem? (i := 1201) rfl
set_option maxRecDepth 100000 in
theorem mk_L_ideal : mcw ML_ideal ∈ lw_tbl := List.mem_of_getElem? (i := 1209) rfl
set_option maxRecDepth 100000 in
theorem mk_L_probe : mcw ML_probe ∈ lw_tbl := List.mem_of_getElem? (i := 1229) rfl
set_option maxRecDepth 100000 in
theorem mk_L_toAdvise : mcw ML_toAdvise ∈ lw_tbl := List.mem_of_getElem? (i := 1237) rfl
set_option maxRecDepth 100000 in
theorem mk_L_toRate : mcw ML_toRate ∈ lw_tbl := List.mem_of_getElem? (i := 1244) rfl
set_option maxRecDepth 100000 in
theorem mk_L_guess : mcw ML_guess ∈ lw_tbl := List.mem_of_getElem? (i := 1251) rfl
set_option maxRecDepth 100000 in
theorem mk_L_look : mcw ML_look ∈ lw_tbl := List.mem_of_getElem? (i := 1266) rfl
set_option maxRecDepth 100000 in
theorem mk_L_dirt : mcw ML_dirt ∈ lw_tbl := List.mem_of_getElem? (i := 1277) rfl
set_option maxRecDepth 100000 in
theorem mk_L_years : mcw ML_years ∈ lw_tbl := List.mem_of_getElem? (i := 1288) rfl
set_option maxRecDepth 100000 in
set_option maxHeartbeats 4000000 in
theorem mk_ok0 : ∀ e ∈ mcTab 0, mcw e.2.2.2 ∈ lw_tbl := List.forall_mem_cons.mpr ⟨mk_X7_put, List.forall_mem_cons.mpr ⟨mk_X7_init, List.forall_mem_cons.mpr ⟨mk_X0_stateAt, List.forall_mem_cons.mpr ⟨mk_X7_become, fun _ h => nomatch h⟩⟩⟩⟩
set_option maxRecDepth 100000 in
set_option maxHeartbeats 4000000 in
theorem mf_ok0 : ∀ e ∈ mfTab 0, mfw 0 e ∈ lw_tbl ∧ goodWord (mfw 0 e) = true := mchkf_ok 0 _ [385, 386, 387, 384] (by decide +kernel)
set_option maxRecDepth 100000 in
set_option maxHeartbeats 4000000 in
theorem mc_ok0 : ∀ e ∈ mcTab 0, (∀ w ∈ mew 0 e, w ∈ lw_tbl ∧ goodWord w = true) ∧ mep e = true := mchk_ok 0 _ [[381, 151, 152], [560, 272, 125], [556, 558, 1, 129], [561, 562, 563, 125]] (by decide +kernel)
set_option maxRecDepth 100000 in
set_option maxHeartbeats 4000000 in
theorem mk_ok1 : ∀ e ∈ mcTab 1, mcw e.2.2.2 ∈ lw_tbl := List.forall_mem_cons.mpr ⟨mk_X7_put, List.forall_mem_cons.mpr ⟨mk_X7_init, List.forall_mem_cons.mpr ⟨mk_X0_init, List.forall_mem_cons.mpr ⟨mk_X7_become, List.forall_mem_cons.mpr ⟨mk_X0_become, List.forall_mem_cons.mpr ⟨mk_X7_put, fun _ h => nomatch h⟩⟩⟩⟩⟩⟩
set_option maxRecDepth 100000 in
set_option maxHeartbeats 4000000 in
theorem mf_ok1 : ∀ e ∈ mfTab 1, mfw 1 e ∈ lw_tbl ∧ goodWord (mfw 1 e) = true := mchkf_ok 1 _ [402, 404, 406, 408, 398, 400] (by decide +kernel)
set_option maxRecDepth 100000 in
set_option maxHeartbeats 4000000 in
theorem mc_ok1 : ∀ e ∈ mcTab 1, (∀ w ∈ mew 1 e, w ∈ lw_tbl ∧ goodWord w = true) ∧ mep e = true := mchk_ok 1 _ [[268, 151, 152], [271, 272, 125], [378, 379, 129], [704, 562, 563, 125], [705, 706, 707, 129], [709, 571, 570, 142]] (by decide +kernel)
set_option maxRecDepth 100000 in
set_option maxHeartbeats 4000000 in
theorem mk_ok2 : ∀ e ∈ mcTab 2, mcw e.2.2.2 ∈ lw_tbl := List.forall_mem_cons.mpr ⟨mk_X7_put, fun _ h => nomatch h⟩
set_option maxRecDepth 100000 in
set_option maxHeartbeats 4000000 in
theorem mf_ok2 : ∀ e ∈ mfTab 2, mfw 2 e ∈ lw_tbl ∧ goodWord (mfw 2 e) = true := mchkf_ok 2 _ [486] (by decide +kernel)
set_option maxRecDepth 100000 in
set_option maxHeartbeats 4000000 in
theorem mc_ok2 : ∀ e ∈ mcTab 2, (∀ w ∈ mew 2 e, w ∈ lw_tbl ∧ goodWord w = true) ∧ mep e = true := mchk_ok 2 _ [[485, 151, 152]] (by decide +kernel)
set_option maxRecDepth 100000 in
set_option maxHeartbeats 4000000 in
theorem mk_ok3 : ∀ e ∈ mcTab 3, mcw e.2.2.2 ∈ lw_tbl := List.forall_mem_cons.mpr ⟨mk_X7_put, List.forall_mem_cons.mpr ⟨mk_X5_clear, List.forall_mem_cons.mpr ⟨mk_X7_clear, List.forall_mem_cons.mpr ⟨mk_X8_atClause, List.forall_mem_cons.mpr ⟨mk_X3_makeClause, List.forall_mem_cons.mpr ⟨mk_X8_isWord, List.forall_mem_cons.mpr ⟨mk_X8_fail, List.forall_mem_cons.mpr ⟨mk_X3_tellOnce, List.forall_mem_cons.mpr ⟨mk_X8_numberIn, List.forall_mem_cons.mpr ⟨mk_X3_makeGuest, List.forall_mem_cons.mpr ⟨mk_X3_makePage, List.forall_mem_cons.mpr ⟨mk_X3_makeAdvised, List.forall_mem_cons.mpr ⟨mk_X8_clauseEnds, List.forall_mem_cons.mpr ⟨mk_X8_numberIsNext, List.forall_mem_cons.mpr ⟨mk_X5_addGuest, List.forall_mem_cons.mpr ⟨mk_X8_pageIn, List.forall_mem_cons.mpr ⟨mk_X6_add, List.forall_mem_cons.mpr ⟨mk_X5_placeAt, List.forall_mem_cons.mpr ⟨mk_X7_adviseAll, fun _ h => nomatch h⟩⟩⟩⟩⟩⟩⟩⟩⟩⟩⟩⟩⟩⟩⟩⟩⟩⟩⟩
set_option maxRecDepth 100000 in
set_option maxHeartbeats 4000000 in
theorem mf_ok3 : ∀ e ∈ mfTab 3, mfw 3 e ∈ lw_tbl ∧ goodWord (mfw 3 e) = true := mchkf_ok 3 _ [434, 435, 431, 432, 433, 164, 168, 174, 176, 180, 183, 186, 242, 329, 290, 338, 199] (by decide +kernel)
set_option maxRecDepth 100000 in
set_option maxHeartbeats 4000000 in
theorem mc_ok3 : ∀ e ∈ mcTab 3, (∀ w ∈ mew 3 e, w ∈ lw_tbl ∧ goodWord w = true) ∧ mep e = true := mchk_ok 3 _ [[430, 151, 152], [799, 160, 161, 122], [800, 321, 322, 125], [801, 802, 803, 123], [812, 814, 13, 130], [817, 818, 819, 123], [869, 870, 871, 123], [873, 875, 14, 130], [877, 878, 879, 123], [887, 889, 15, 130], [900, 902, 16, 130], [915, 917, 17, 130], [924, 925, 926, 123], [891, 892, 893, 123], [895, 896, 897, 122], [904, 905, 906, 123], [913, 623, 624, 126], [919, 910, 911, 122], [920, 921, 922, 125]] (by decide +kernel)
set_option maxRecDepth 100000 in
set_option maxHeartbeats 4000000 in
theorem mk_ok4 : ∀ e ∈ mcTab 4, mcw e.2.2.2 ∈ lw_tbl := List.forall_mem_cons.mpr ⟨mk_X7_put, List.forall_mem_cons.mpr ⟨mk_X4_isNext, List.forall_mem_cons.mpr ⟨mk_X8_atClause, List.forall_mem_cons.mpr ⟨mk_X8_isWord, List.forall_mem_cons.mpr ⟨mk_X8_pageIn, List.forall_mem_cons.mpr ⟨mk_X8_numberIn, List.forall_mem_cons.mpr ⟨mk_X8_fail, List.forall_mem_cons.mpr ⟨mk_X8_clauseEnds, fun _ h => nomatch h⟩⟩⟩⟩⟩⟩⟩⟩
set_option maxRecDepth 100000 in
set_option maxHeartbeats 4000000 in
theorem mf_ok4 : ∀ e ∈ mfTab 4, mfw 4 e ∈ lw_tbl ∧ goodWord (mfw 4 e) = true := mchkf_ok 4 _ [455, 457, 459, 461, 463, 453, 454, 241] (by decide +kernel)
set_option maxRecDepth 100000 in
set_option maxHeartbeats 4000000 in
theorem mc_ok4 : ∀ e ∈ mcTab 4, (∀ w ∈ mew 4 e, w ∈ lw_tbl ∧ goodWord w = true) ∧ mep e = true := mchk_ok 4 _ [[452, 151, 152], [952, 953, 954, 131], [956, 802, 803, 123], [958, 818, 819, 123], [959, 905, 906, 123], [960, 878, 879, 123], [965, 870, 871, 123], [966, 925, 926, 123]] (by decide +kernel)
set_option maxRecDepth 100000 in
set_option maxHeartbeats 4000000 in
theorem mk_ok5 : ∀ e ∈ mcTab 5, mcw e.2.2.2 ∈ lw_tbl := List.forall_mem_cons.mpr ⟨mk_X7_put, List.forall_mem_cons.mpr ⟨mk_X5_clear, List.forall_mem_cons.mpr ⟨mk_X7_put, fun _ h => nomatch h⟩⟩⟩
set_option maxRecDepth 100000 in
set_option maxHeartbeats 4000000 in
theorem mf_ok5 : ∀ e ∈ mfTab 5, mfw 5 e ∈ lw_tbl ∧ goodWord (mfw 5 e) = true := mchkf_ok 5 _ [192, 194, 196, 198, 163, 167, 171, 175, 179, 182, 185, 189] (by decide +kernel)
set_option maxRecDepth 100000 in
set_option maxHeartbeats 4000000 in
theorem mc_ok5 : ∀ e ∈ mcTab 5, (∀ w ∈ mew 5 e, w ∈ lw_tbl ∧ goodWord w = true) ∧ mep e = true := mchk_ok 5 _ [[158, 151, 152], [159, 160, 161, 122], [936, 571, 570, 142]] (by decide +kernel)
set_option maxRecDepth 100000 in
set_option maxHeartbeats 4000000 in
theorem mk_ok6 : ∀ e ∈ mcTab 6, mcw e.2.2.2 ∈ lw_tbl := List.forall_mem_cons.mpr ⟨mk_X7_put, List.forall_mem_cons.mpr ⟨mk_X6_clear, List.forall_mem_cons.mpr ⟨mk_J7_fill_53178, List.forall_mem_cons.mpr ⟨mk_X7_put, fun _ h => nomatch h⟩⟩⟩⟩
set_option maxRecDepth 100000 in
set_option maxHeartbeats 4000000 in
theorem mf_ok6 : ∀ e ∈ mfTab 6, mfw 6 e ∈ lw_tbl ∧ goodWord (mfw 6 e) = true := mchkf_ok 6 _ [288, 292, 294] (by decide +kernel)
set_option maxRecDepth 100000 in
set_option maxHeartbeats 4000000 in
theorem mc_ok6 : ∀ e ∈ mcTab 6, (∀ w ∈ mew 6 e, w ∈ lw_tbl ∧ goodWord w = true) ∧ mep e = true := mchk_ok 6 _ [[280, 151, 152], [281, 282, 283, 126], [285, 286, 127], [569, 571, 570, 142]] (by decide +kernel)
set_option maxRecDepth 100000 in
set_option maxHeartbeats 4000000 in
theorem mk_ok7 : ∀ e ∈ mcTab 7, mcw e.2.2.2 ∈ lw_tbl := List.forall_mem_cons.mpr ⟨mk_X7_put, List.forall_mem_cons.mpr ⟨mk_X6_init, List.forall_mem_cons.mpr ⟨mk_X9_init, List.forall_mem_cons.mpr ⟨mk_X7_clear, List.forall_mem_cons.mpr ⟨mk_X6_clear, List.forall_mem_cons.mpr ⟨mk_X9_clear, List.forall_mem_cons.mpr ⟨mk_J7_fill_53178, List.forall_mem_cons.mpr ⟨mk_X6_become, List.forall_mem_cons.mpr ⟨mk_X9_become, List.forall_mem_cons.mpr ⟨mk_X7_put, List.forall_mem_cons.mpr ⟨mk_X7_isMerged, List.forall_mem_cons.mpr ⟨mk_J13_bitCount_95d88, List.forall_mem_cons.mpr ⟨mk_X7_makeOwn, List.forall_mem_cons.mpr ⟨mk_X7_cellsAt, List.forall_mem_cons.mpr ⟨mk_X7_put, List.forall_mem_cons.mpr ⟨mk_X6_sizeOf, List.forall_mem_cons.mpr ⟨mk_X7_leaveKnot, List.forall_mem_cons.mpr ⟨mk_X7_freeFrame, List.forall_mem_cons.mpr ⟨mk_X6_remove, List.forall_mem_cons.mpr ⟨mk_X6_add, List.forall_mem_cons.mpr ⟨mk_X9_leave, List.forall_mem_cons.mpr ⟨mk_X7_scanNext, List.forall_mem_cons.mpr ⟨mk_X7_advisedFrom, List.forall_mem_cons.mpr ⟨mk_X7_endRound, List.forall_mem_cons.mpr ⟨mk_X7_befall, List.forall_mem_cons.mpr ⟨mk_X7_restAt, List.forall_mem_cons.mpr ⟨mk_X5_realmOf, List.forall_mem_cons.mpr ⟨mk_X7_seek, List.forall_mem_cons.mpr ⟨mk_X7_roomIn, List.forall_mem_cons.mpr ⟨mk_X7_sumOf, List.forall_mem_cons.mpr ⟨mk_X7_pairUp, List.forall_mem_cons.mpr ⟨mk_X7_compared, List.forall_mem_cons.mpr ⟨mk_X10_cellOf, List.forall_mem_cons.mpr ⟨mk_X7_freeKnot, List.forall_mem_cons.mpr ⟨mk_X7_likeAhead, List.forall_mem_cons.mpr ⟨mk_X7_used, fun _ h => nomatch h⟩⟩⟩⟩⟩⟩⟩⟩⟩⟩⟩⟩⟩⟩⟩⟩⟩⟩⟩⟩⟩⟩⟩⟩⟩⟩⟩⟩⟩⟩⟩⟩⟩⟩⟩⟩
set_option maxRecDepth 100000 in
set_option maxHeartbeats 4000000 in
theorem mf_ok7 : ∀ e ∈ mfTab 7, mfw 7 e ∈ lw_tbl ∧ goodWord (mfw 7 e) = true := mchkf_ok 7 _ [328, 331, 333, 335, 337, 339, 341, 343, 345, 347, 349, 327, 172, 165, 295, 289, 191, 178, 184, 181, 316, 170, 293] (by decide +kernel)
set_option maxRecDepth 100000 in
set_option maxHeartbeats 4000000 in
theorem mc_ok7 : ∀ e ∈ mcTab 7, (∀ w ∈ mew 7 e, w ∈ lw_tbl ∧ goodWord w = true) ∧ mep e = true := mchk_ok 7 _ [[274, 151, 152], [277, 278, 126], [306, 307, 128], [320, 321, 322, 125], [324, 282, 283, 126], [325, 311, 312, 128], [326, 286, 127], [565, 566, 567, 126], [572, 573, 574, 128], [577, 571, 570, 142], [1026, 1027, 1028, 125], [1071, 1072, 144], [984, 986, 20, 125], [976, 977, 978, 125], [980, 981, 982, 125], [618, 619, 620, 126], [988, 990, 21, 125], [992, 994, 22, 125], [598, 599, 600, 126], [622, 623, 624, 126], [636, 637, 638, 128], [582, 583, 584, 125], [586, 588, 2, 125], [590, 592, 3, 125], [594, 596, 4, 125], [648, 649, 125], [602, 603, 604, 122], [606, 608, 5, 125], [614, 616, 7, 125], [626, 627, 125], [632, 634, 8, 125], [610, 612, 6, 125], [630, 121], [644, 646, 9, 125], [1218, 1220, 26, 125], [1226, 1015, 1016, 125]] (by decide +kernel)
set_option maxRecDepth 100000 in
set_option maxHeartbeats 4000000 in
theorem mk_ok8 : ∀ e ∈ mcTab 8, mcw e.2.2.2 ∈ lw_tbl := List.forall_mem_cons.mpr ⟨mk_X7_put, List.forall_mem_cons.mpr ⟨mk_X8_kindOf, List.forall_mem_cons.mpr ⟨mk_X8_step, List.forall_mem_cons.mpr ⟨mk_X7_put, List.forall_mem_cons.mpr ⟨mk_X7_put, List.forall_mem_cons.mpr ⟨mk_X8_fail, List.forall_mem_cons.mpr ⟨mk_X8_numberIn, List.forall_mem_cons.mpr ⟨mk_X5_placeAt, fun _ h => nomatch h⟩⟩⟩⟩⟩⟩⟩⟩
set_option maxRecDepth 100000 in
set_option maxHeartbeats 4000000 in
theorem mf_ok8 : ∀ e ∈ mfTab 8, mfw 8 e ∈ lw_tbl ∧ goodWord (mfw 8 e) = true := mchkf_ok 8 _ [232, 233, 235, 236, 237, 238, 239, 243, 188] (by decide +kernel)
set_option maxRecDepth 100000 in
set_option maxHeartbeats 4000000 in
theorem mc_ok8 : ∀ e ∈ mcTab 8, (∀ w ∈ mew 8 e, w ∈ lw_tbl ∧ goodWord w = true) ∧ mep e = true := mchk_ok 8 _ [[231, 151, 152], [809, 810, 123], [805, 806, 807, 123], [], [], [881, 870, 871, 123], [908, 878, 879, 123], [909, 910, 911, 122]] (by decide +kernel)
set_option maxRecDepth 100000 in
set_option maxHeartbeats 4000000 in
theorem mk_ok9 : ∀ e ∈ mcTab 9, mcw e.2.2.2 ∈ lw_tbl := List.forall_mem_cons.mpr ⟨mk_X7_put, List.forall_mem_cons.mpr ⟨mk_X9_clear, List.forall_mem_cons.mpr ⟨mk_J7_fill_53178, List.forall_mem_cons.mpr ⟨mk_X7_put, List.forall_mem_cons.mpr ⟨mk_X9_slotOf, List.forall_mem_cons.mpr ⟨mk_X9_leftmost, List.forall_mem_cons.mpr ⟨mk_X9_after, fun _ h => nomatch h⟩⟩⟩⟩⟩⟩⟩
set_option maxRecDepth 100000 in
set_option maxHeartbeats 4000000 in
theorem mf_ok9 : ∀ e ∈ mfTab 9, mfw 9 e ∈ lw_tbl ∧ goodWord (mfw 9 e) = true := mchkf_ok 9 _ [315] (by decide +kernel)
set_option maxRecDepth 100000 in
set_option maxHeartbeats 4000000 in
theorem mc_ok9 : ∀ e ∈ mcTab 9, (∀ w ∈ mew 9 e, w ∈ lw_tbl ∧ goodWord w = true) ∧ mep e = true := mchk_ok 9 _ [[309, 151, 152], [310, 311, 312, 128], [314, 286, 127], [576, 571, 570, 142], [640, 641, 642, 128], [1136, 1138, 24, 128], [1140, 1142, 25, 128]] (by decide +kernel)
set_option maxRecDepth 100000 in
set_option maxHeartbeats 4000000 in
theorem mk_ok10 : ∀ e ∈ mcTab 10, mcw e.2.2.2 ∈ lw_tbl := List.forall_mem_cons.mpr ⟨mk_X7_put, List.forall_mem_cons.mpr ⟨mk_X5_init, List.forall_mem_cons.mpr ⟨mk_X8_init, List.forall_mem_cons.mpr ⟨mk_X1_init, List.forall_mem_cons.mpr ⟨mk_X7_init, List.forall_mem_cons.mpr ⟨mk_X3_init, List.forall_mem_cons.mpr ⟨mk_X4_init, List.forall_mem_cons.mpr ⟨mk_X2_init, List.forall_mem_cons.mpr ⟨mk_X8_append, List.forall_mem_cons.mpr ⟨mk_X10_openText, List.forall_mem_cons.mpr ⟨mk_X3_makeAll, List.forall_mem_cons.mpr ⟨mk_X10_closeText, List.forall_mem_cons.mpr ⟨mk_X5_become, List.forall_mem_cons.mpr ⟨mk_X7_become, List.forall_mem_cons.mpr ⟨mk_X0_clear, List.forall_mem_cons.mpr ⟨mk_X4_countAll, List.forall_mem_cons.mpr ⟨mk_X0_ahead, List.forall_mem_cons.mpr ⟨mk_X8_begin, List.forall_mem_cons.mpr ⟨mk_X4_isNext, List.forall_mem_cons.mpr ⟨mk_X10_obey, List.forall_mem_cons.mpr ⟨mk_X0_giveUp, List.forall_mem_cons.mpr ⟨mk_X0_stand, List.forall_mem_cons.mpr ⟨mk_X7_used, List.forall_mem_cons.mpr ⟨mk_X7_mergedFrames, List.forall_mem_cons.mpr ⟨mk_X7_mergedPages, List.forall_mem_cons.mpr ⟨mk_X7_absentPages, List.forall_mem_cons.mpr ⟨mk_X7_advisedPages, List.forall_mem_cons.mpr ⟨mk_X9_size, List.forall_mem_cons.mpr ⟨mk_X10_mustBe, List.forall_mem_cons.mpr ⟨mk_X7_framesOf, List.forall_mem_cons.mpr ⟨mk_X10_placeOf, List.forall_mem_cons.mpr ⟨mk_X10_mustBeCell, List.forall_mem_cons.mpr ⟨mk_X7_cellsAt, List.forall_mem_cons.mpr ⟨mk_X10_cellOf, List.forall_mem_cons.mpr ⟨mk_X7_isMerged, List.forall_mem_cons.mpr ⟨mk_X9_slotOf, List.forall_mem_cons.mpr ⟨mk_X6_sizeOf, List.forall_mem_cons.mpr ⟨mk_X6_nth, List.forall_mem_cons.mpr ⟨mk_X5_labelOf, List.forall_mem_cons.mpr ⟨mk_X9_sizeOf, List.forall_mem_cons.mpr ⟨mk_X9_nth, List.forall_mem_cons.mpr ⟨mk_X9_above, List.forall_mem_cons.mpr ⟨mk_X10_refused, List.forall_mem_cons.mpr ⟨mk_X7_putCell, List.forall_mem_cons.mpr ⟨mk_X10_acted, List.forall_mem_cons.mpr ⟨mk_X7_put, List.forall_mem_cons.mpr ⟨mk_X7_dropPage, List.forall_mem_cons.mpr ⟨mk_X7_adviseAll, List.forall_mem_cons.mpr ⟨mk_X7_adviseNoMore, List.forall_mem_cons.mpr ⟨mk_X7_scanMany, List.forall_mem_cons.mpr ⟨mk_X7_hasTimeFor, List.forall_mem_cons.mpr ⟨mk_X7_tick, List.forall_mem_cons.mpr ⟨mk_X0_back, List.forall_mem_cons.mpr ⟨mk_X10_mustFit, List.forall_mem_cons.mpr ⟨mk_X7_scanNext, List.forall_mem_cons.mpr ⟨mk_X7_fewest, List.forall_mem_cons.mpr ⟨mk_X7_risk, List.forall_mem_cons.mpr ⟨mk_X1_lastNoted, List.forall_mem_cons.mpr ⟨mk_X10_fits, List.forall_mem_cons.mpr ⟨mk_J7_fill_d0a16, List.forall_mem_cons.mpr ⟨mk_J13_bitCount_95d88, List.forall_mem_cons.mpr ⟨mk_X10_usedBy, List.forall_mem_cons.mpr ⟨mk_X10_befallsByChance, List.forall_mem_cons.mpr ⟨mk_X1_become, List.forall_mem_cons.mpr ⟨mk_X5_placeAt, List.forall_mem_cons.mpr ⟨mk_X2_drawOf, fun _ h => nomatch h⟩⟩⟩⟩⟩⟩⟩⟩⟩⟩⟩⟩⟩⟩⟩⟩⟩⟩⟩⟩⟩⟩⟩⟩⟩⟩⟩⟩⟩⟩⟩⟩⟩⟩⟩⟩⟩⟩⟩⟩⟩⟩⟩⟩⟩⟩⟩⟩⟩⟩⟩⟩⟩⟩⟩⟩⟩⟩⟩⟩⟩⟩⟩⟩⟩⟩
set_option maxRecDepth 100000 in
set_option maxHeartbeats 4000000 in
theorem mf_ok10 : ∀ e ∈ mfTab 10, mfw 10 e ∈ lw_tbl ∧ goodWord (mfw 10 e) = true := mchkf_ok 10 _ [491, 492, 493, 494, 495, 496, 497, 498, 499, 500, 501, 502, 503, 234, 240, 350, 173, 399, 401, 409, 407, 166, 187, 190, 336, 334, 169, 388, 197, 193, 195, 330, 291, 340, 342, 344, 346, 348, 332, 296, 177, 403, 405, 487, 244, 456, 458, 462, 464, 460] (by decide +kernel)
set_option maxRecDepth 100000 in
set_option maxHeartbeats 4000000 in
theorem mc_ok10 : ∀ e ∈ mcTab 10, (∀ w ∈ mew 10 e, w ∈ lw_tbl ∧ goodWord w = true) ∧ mep e = true := mchk_ok 10 _ [[150, 151, 152], [155, 156, 122], [229, 123], [265, 266, 124], [424, 272, 125], [427, 428, 130], [449, 450, 131], [483, 132], [536, 537, 538, 123], [722, 724, 11, 121], [795, 796, 797, 130], [928, 930, 18, 121], [932, 933, 934, 122], [687, 562, 563, 125], [937, 938, 939, 129], [948, 949, 950, 131], [552, 553, 554, 129], [791, 792, 793, 123], [967, 953, 954, 131], [968, 970, 19, 121], [1002, 1003, 1004, 129], [655, 656, 657, 129], [1014, 1015, 1016, 125], [1018, 1019, 1020, 125], [1022, 1023, 1024, 125], [1030, 1031, 1032, 125], [1034, 1035, 1036, 125], [1038, 1039, 1040, 128], [1064, 1065, 121], [1067, 1068, 1069, 125], [1084, 1086, 23, 121], [1089, 1090, 121], [996, 977, 978, 125], [1092, 630, 121], [1100, 1027, 1028, 125], [1101, 641, 642, 128], [1109, 619, 620, 126], [1110, 1111, 1112, 126], [1114, 1115, 1116, 122], [1132, 1133, 1134, 128], [1144, 1145, 1146, 128], [1148, 1149, 1150, 128], [548, 550, 0, 121], [972, 973, 974, 125], [651, 653, 10, 121], [997, 981, 982, 125], [998, 999, 1000, 125], [1187, 921, 922, 125], [1188, 1189, 1190, 125], [578, 579, 580, 125], [663, 664, 665, 125], [667, 668, 669, 125], [679, 680, 681, 129], [726, 727, 121], [1206, 583, 584, 125], [1214, 1215, 1216, 125], [1222, 1223, 1224, 125], [1256, 1257, 1258, 124], [1260, 1262, 27, 121], [1271, 1272, 127], [1274, 1072, 144], [1282, 1284, 28, 121], [1293, 1295, 29, 121], [700, 701, 702, 124], [1088, 910, 911, 122], [1297, 1298, 1299, 132]] (by decide +kernel)
set_option maxRecDepth 100000 in
set_option maxHeartbeats 4000000 in
theorem mk_ok11 : ∀ e ∈ mcTab 11, mcw e.2.2.2 ∈ lw_tbl := List.forall_mem_cons.mpr ⟨mk_X7_put, List.forall_mem_cons.mpr ⟨mk_X11_begins, List.forall_mem_cons.mpr ⟨mk_X11_leavesKnot, List.forall_mem_cons.mpr ⟨mk_X11_framesOf, List.forall_mem_cons.mpr ⟨mk_X11_placeIn, List.forall_mem_cons.mpr ⟨mk_X11_takesOut, List.forall_mem_cons.mpr ⟨mk_X11_begin, List.forall_mem_cons.mpr ⟨mk_X11_end, List.forall_mem_cons.mpr ⟨mk_X11_cutsOut, List.forall_mem_cons.mpr ⟨mk_X11_liftsOut, List.forall_mem_cons.mpr ⟨mk_X11_cellOf, List.forall_mem_cons.mpr ⟨mk_X11_frameAt, List.forall_mem_cons.mpr ⟨mk_X11_top, List.forall_mem_cons.mpr ⟨mk_X11_cellsOf, List.forall_mem_cons.mpr ⟨mk_X11_compares, List.forall_mem_cons.mpr ⟨mk_X11_free, List.forall_mem_cons.mpr ⟨mk_X11_leavesFrame, List.forall_mem_cons.mpr ⟨mk_X11_liesIn, List.forall_mem_cons.mpr ⟨mk_X11_laysCells, List.forall_mem_cons.mpr ⟨mk_X11_saysAs, List.forall_mem_cons.mpr ⟨mk_X11_writes, List.forall_mem_cons.mpr ⟨mk_X11_realm, List.forall_mem_cons.mpr ⟨mk_X11_isMerged, List.forall_mem_cons.mpr ⟨mk_X11_waitsNoMore, List.forall_mem_cons.mpr ⟨mk_X11_lesser, List.forall_mem_cons.mpr ⟨mk_X11_greater, List.forall_mem_cons.mpr ⟨mk_X11_seeks, List.forall_mem_cons.mpr ⟨mk_X11_searches, List.forall_mem_cons.mpr ⟨mk_X11_roomIn, List.forall_mem_cons.mpr ⟨mk_X11_movesTo, List.forall_mem_cons.mpr ⟨mk_X11_sumOf, List.forall_mem_cons.mpr ⟨mk_X11_putsIn, List.forall_mem_cons.mpr ⟨mk_X11_newKnot, List.forall_mem_cons.mpr ⟨mk_X11_comesTo, List.forall_mem_cons.mpr ⟨mk_X11_isZero, List.forall_mem_cons.mpr ⟨mk_X11_looksFor, List.forall_mem_cons.mpr ⟨mk_X11_befalls, List.forall_mem_cons.mpr ⟨mk_X11_drops, List.forall_mem_cons.mpr ⟨mk_X11_restOf, List.forall_mem_cons.mpr ⟨mk_X11_nextAdvised, List.forall_mem_cons.mpr ⟨mk_X11_endsRound, List.forall_mem_cons.mpr ⟨mk_X11_scansPage, List.forall_mem_cons.mpr ⟨mk_X11_scans, List.forall_mem_cons.mpr ⟨mk_X11_byteAt, List.forall_mem_cons.mpr ⟨mk_X11_isLetter, List.forall_mem_cons.mpr ⟨mk_X11_wordOf, List.forall_mem_cons.mpr ⟨mk_X11_wants, List.forall_mem_cons.mpr ⟨mk_X11_within, List.forall_mem_cons.mpr ⟨mk_X11_go, List.forall_mem_cons.mpr ⟨mk_X11_pageOf, List.forall_mem_cons.mpr ⟨mk_X11_pageHere, List.forall_mem_cons.mpr ⟨mk_X11_number, List.forall_mem_cons.mpr ⟨mk_X11_once, List.forall_mem_cons.mpr ⟨mk_X11_guest1, List.forall_mem_cons.mpr ⟨mk_X11_page1, List.forall_mem_cons.mpr ⟨mk_X11_advise1, List.forall_mem_cons.mpr ⟨mk_X11_right, List.forall_mem_cons.mpr ⟨mk_X11_opens, List.forall_mem_cons.mpr ⟨mk_X11_reads, List.forall_mem_cons.mpr ⟨mk_X11_without1, List.forall_mem_cons.mpr ⟨mk_X11_clause1, List.forall_mem_cons.mpr ⟨mk_X11_ends, List.forall_mem_cons.mpr ⟨mk_X11_becomes, List.forall_mem_cons.mpr ⟨mk_X11_pageThere, List.forall_mem_cons.mpr ⟨mk_X11_writesCell, List.forall_mem_cons.mpr ⟨mk_X11_ticksOf, List.forall_mem_cons.mpr ⟨mk_X11_order, List.forall_mem_cons.mpr ⟨mk_X11_copies, List.forall_mem_cons.mpr ⟨mk_X11_isDone, List.forall_mem_cons.mpr ⟨mk_X11_keeps, List.forall_mem_cons.mpr ⟨mk_X11_usedOf, List.forall_mem_cons.mpr ⟨mk_X11_mergedFrames, List.forall_mem_cons.mpr ⟨mk_X11_merged, List.forall_mem_cons.mpr ⟨mk_X11_absent, List.forall_mem_cons.mpr ⟨mk_X11_advised, List.forall_mem_cons.mpr ⟨mk_X11_waiting, List.forall_mem_cons.mpr ⟨mk_X11_number0, List.forall_mem_cons.mpr ⟨mk_X11_isGuest, List.forall_mem_cons.mpr ⟨mk_X11_lying, List.forall_mem_cons.mpr ⟨mk_X11_isPage, List.forall_mem_cons.mpr ⟨mk_X11_isFrame, List.forall_mem_cons.mpr ⟨mk_X11_told, List.forall_mem_cons.mpr ⟨mk_X11_areLike, List.forall_mem_cons.mpr ⟨mk_X11_keptAt, List.forall_mem_cons.mpr ⟨mk_X11_refuses, List.forall_mem_cons.mpr ⟨mk_X11_tries, List.forall_mem_cons.mpr ⟨mk_X11_does, List.forall_mem_cons.mpr ⟨mk_X11_advises, List.forall_mem_cons.mpr ⟨mk_X11_toldOf, List.forall_mem_cons.mpr ⟨mk_X11_isCounted, List.forall_mem_cons.mpr ⟨mk_X11_classOf, List.forall_mem_cons.mpr ⟨mk_X11_least, List.forall_mem_cons.mpr ⟨mk_X11_risk, List.forall_mem_cons.mpr ⟨mk_X11_isNoted, List.forall_mem_cons.mpr ⟨mk_X11_isGuess, List.forall_mem_cons.mpr ⟨mk_X11_ones, List.forall_mem_cons.mpr ⟨mk_X11_draw, List.forall_mem_cons.mpr ⟨mk_X11_fails, fun _ h => nomatch h⟩⟩⟩⟩⟩⟩⟩⟩⟩⟩⟩⟩⟩⟩⟩⟩⟩⟩⟩⟩⟩⟩⟩⟩⟩⟩⟩⟩⟩⟩⟩⟩⟩⟩⟩⟩⟩⟩⟩⟩⟩⟩⟩⟩⟩⟩⟩⟩⟩⟩⟩⟩⟩⟩⟩⟩⟩⟩⟩⟩⟩⟩⟩⟩⟩⟩⟩⟩⟩⟩⟩⟩⟩⟩⟩⟩⟩⟩⟩⟩⟩⟩⟩⟩⟩⟩⟩⟩⟩⟩⟩⟩⟩⟩⟩⟩⟩⟩
set_option maxRecDepth 100000 in
set_option maxHeartbeats 4000000 in
theorem mf_ok11 : ∀ e ∈ mfTab 11, mfw 11 e ∈ lw_tbl ∧ goodWord (mfw 11 e) = true := mchkf_ok 11 _ [1313, 1314, 1315, 1316, 1325, 1326, 1327, 1328, 1333, 1334, 1335, 1336, 1337, 1339, 1340, 1345, 1362, 1363, 1364, 1365, 1366, 1367, 1369, 1370, 1317, 1343, 1344, 1342, 1341, 1332, 1330, 1329, 1348, 1346, 1347, 1351, 1350, 1349, 1352, 1360, 1361, 1353, 1359, 1354, 1355, 1356, 1357, 1358, 1331, 1324, 1320, 1319, 1318, 1338, 1368, 1371, 1321, 1322, 1323] (by decide +kernel)
set_option maxRecDepth 100000 in
set_option maxHeartbeats 4000000 in
theorem mc_ok11 : ∀ e ∈ mcTab 11, (∀ w ∈ mew 11 e, w ∈ lw_tbl ∧ goodWord w = true) ∧ mep e = true := mchk_ok 11 _ [[1307, 151, 152], [1309, 1311, 30, 133], [1635, 1637, 61, 133], [1639, 1641, 62, 133], [1643, 1645, 63, 133], [1647, 1649, 64, 133], [1651, 1653, 65, 133], [1655, 1657, 66, 133], [1663, 1665, 68, 133], [1659, 1661, 67, 133], [1619, 1621, 57, 133], [1729, 1731, 83, 133], [1721, 1723, 81, 133], [1725, 1727, 82, 133], [1733, 1735, 84, 133], [1627, 1629, 59, 133], [1631, 1633, 60, 133], [1583, 1585, 49, 133], [1587, 1589, 50, 133], [1615, 1617, 56, 133], [1623, 1625, 58, 133], [1709, 1711, 78, 133], [1697, 1699, 75, 133], [1753, 1755, 89, 133], [1683, 1684, 133], [1686, 1687, 133], [1713, 1715, 79, 133], [1717, 1719, 80, 133], [1737, 1739, 85, 133], [1741, 1743, 86, 133], [1745, 1747, 87, 133], [1749, 1751, 88, 133], [1757, 1759, 90, 133], [1761, 1763, 91, 133], [1701, 1703, 76, 133], [1705, 1707, 77, 133], [1693, 1695, 74, 133], [1667, 1669, 69, 133], [1765, 1766, 133], [1675, 1677, 71, 133], [1679, 1681, 72, 133], [1689, 1691, 73, 133], [1671, 1673, 70, 133], [1519, 1521, 35, 133], [1523, 1524, 133], [1526, 1528, 36, 133], [1540, 1542, 39, 133], [1552, 1553, 133], [1515, 1517, 34, 133], [1567, 1569, 45, 133], [1563, 1565, 44, 133], [1548, 1550, 41, 133], [1544, 1546, 40, 133], [1555, 1557, 42, 133], [1559, 1561, 43, 133], [1571, 1573, 46, 133], [1507, 1509, 32, 133], [1511, 1513, 33, 133], [1503, 1505, 31, 133], [1532, 1534, 37, 133], [1536, 1538, 38, 133], [1575, 1577, 47, 133], [1579, 1581, 48, 133], [1599, 1601, 52, 133], [1611, 1613, 55, 133], [1768, 1770, 92, 133], [1595, 1597, 51, 133], [1603, 1605, 53, 133], [1607, 1609, 54, 133], [1772, 1774, 93, 133], [1787, 1789, 94, 133], [1791, 1793, 95, 133], [1795, 1797, 96, 133], [1799, 1801, 97, 133], [1803, 1805, 98, 133], [1807, 1809, 99, 133], [1811, 1813, 100, 133], [1819, 1821, 101, 133], [1823, 1825, 102, 133], [1831, 1833, 103, 133], [1843, 1845, 104, 133], [1847, 1849, 105, 133], [1863, 1865, 106, 133], [1776, 1777, 133], [1879, 1881, 109, 133], [1871, 1873, 107, 133], [1875, 1877, 108, 133], [1895, 1897, 110, 133], [1919, 1921, 111, 133], [1943, 1945, 114, 133], [1939, 1941, 113, 133], [1935, 1937, 112, 133], [1947, 1949, 115, 133], [1972, 1974, 116, 133], [1976, 1978, 117, 133], [1984, 1985, 133], [2003, 2005, 119, 133], [1999, 2001, 118, 133]] (by decide +kernel)
set_option maxRecDepth 100000 in
set_option maxHeartbeats 4000000 in
theorem mk_ok12 : ∀ e ∈ mcTab 12, mcw e.2.2.2 ∈ lw_tbl := List.forall_mem_cons.mpr ⟨mk_X10_machine, List.forall_mem_cons.mpr ⟨mk_X10_orders, List.forall_mem_cons.mpr ⟨mk_X10_count, List.forall_mem_cons.mpr ⟨mk_X10_guest, List.forall_mem_cons.mpr ⟨mk_X10_read, List.forall_mem_cons.mpr ⟨mk_X10_page, List.forall_mem_cons.mpr ⟨mk_X10_frame, List.forall_mem_cons.mpr ⟨mk_X10_chain, List.forall_mem_cons.mpr ⟨mk_X10_knot, List.forall_mem_cons.mpr ⟨mk_X10_like, List.forall_mem_cons.mpr ⟨mk_X10_write, List.forall_mem_cons.mpr ⟨mk_X10_copy, List.forall_mem_cons.mpr ⟨mk_X10_drop, List.forall_mem_cons.mpr ⟨mk_X10_advise, List.forall_mem_cons.mpr ⟨mk_X10_then, List.forall_mem_cons.mpr ⟨mk_X10_merges, List.forall_mem_cons.mpr ⟨mk_X10_ideal, List.forall_mem_cons.mpr ⟨mk_X10_probe, List.forall_mem_cons.mpr ⟨mk_X10_toAdvise, List.forall_mem_cons.mpr ⟨mk_X10_toRate, List.forall_mem_cons.mpr ⟨mk_X10_guess, List.forall_mem_cons.mpr ⟨mk_X10_look, List.forall_mem_cons.mpr ⟨mk_X10_dirt, List.forall_mem_cons.mpr ⟨mk_X10_years, List.forall_mem_cons.mpr ⟨mk_X10_init, List.forall_mem_cons.mpr ⟨mk_X11_init, List.forall_mem_cons.mpr ⟨mk_X10_feed, List.forall_mem_cons.mpr ⟨mk_X11_feed, List.forall_mem_cons.mpr ⟨mk_L_machine, List.forall_mem_cons.mpr ⟨mk_X11_machine, List.forall_mem_cons.mpr ⟨mk_X11_thrown, List.forall_mem_cons.mpr ⟨mk_L_orders, List.forall_mem_cons.mpr ⟨mk_X11_orders, List.forall_mem_cons.mpr ⟨mk_X10_fault, List.forall_mem_cons.mpr ⟨mk_X11_fault, List.forall_mem_cons.mpr ⟨mk_L_count, List.forall_mem_cons.mpr ⟨mk_X11_count, List.forall_mem_cons.mpr ⟨mk_L_guest, List.forall_mem_cons.mpr ⟨mk_X11_guest, List.forall_mem_cons.mpr ⟨mk_L_read, List.forall_mem_cons.mpr ⟨mk_X11_read, List.forall_mem_cons.mpr ⟨mk_L_page, List.forall_mem_cons.mpr ⟨mk_X11_page, List.forall_mem_cons.mpr ⟨mk_L_frame, List.forall_mem_cons.mpr ⟨mk_X11_frame, List.forall_mem_cons.mpr ⟨mk_L_chain, List.forall_mem_cons.mpr ⟨mk_X11_chain, List.forall_mem_cons.mpr ⟨mk_L_knot, List.forall_mem_cons.mpr ⟨mk_X11_knot, List.forall_mem_cons.mpr ⟨mk_L_like, List.forall_mem_cons.mpr ⟨mk_X11_like, List.forall_mem_cons.mpr ⟨mk_L_write, List.forall_mem_cons.mpr ⟨mk_X11_write, List.forall_mem_cons.mpr ⟨mk_L_copy, List.forall_mem_cons.mpr ⟨mk_X11_copy, List.forall_mem_cons.mpr ⟨mk_L_drop, List.forall_mem_cons.mpr ⟨mk_X11_drop, List.forall_mem_cons.mpr ⟨mk_L_advise, List.forall_mem_cons.mpr ⟨mk_X11_advise, List.forall_mem_cons.mpr ⟨mk_X10_scan, List.forall_mem_cons.mpr ⟨mk_X11_scan, List.forall_mem_cons.mpr ⟨mk_X10_ticks, List.forall_mem_cons.mpr ⟨mk_X11_ticks, List.forall_mem_cons.mpr ⟨mk_X10_rate, List.forall_mem_cons.mpr ⟨mk_X11_rate, List.forall_mem_cons.mpr ⟨mk_X10_undo, List.forall_mem_cons.mpr ⟨mk_X11_undo, List.forall_mem_cons.mpr ⟨mk_L_then, List.forall_mem_cons.mpr ⟨mk_X11_then, List.forall_mem_cons.mpr ⟨mk_X10_quiet, List.forall_mem_cons.mpr ⟨mk_X11_quiet, List.forall_mem_cons.mpr ⟨mk_L_merges, List.forall_mem_cons.mpr ⟨mk_X11_merges, List.forall_mem_cons.mpr ⟨mk_L_ideal, List.forall_mem_cons.mpr ⟨mk_X11_ideal, List.forall_mem_cons.mpr ⟨mk_L_probe, List.forall_mem_cons.mpr ⟨mk_X11_probe, List.forall_mem_cons.mpr ⟨mk_L_toAdvise, List.forall_mem_cons.mpr ⟨mk_X11_toAdvise, List.forall_mem_cons.mpr ⟨mk_L_toRate, List.forall_mem_cons.mpr ⟨mk_X11_toRate, List.forall_mem_cons.mpr ⟨mk_X10_note, List.forall_mem_cons.mpr ⟨mk_X11_note, List.forall_mem_cons.mpr ⟨mk_L_guess, List.forall_mem_cons.mpr ⟨mk_X11_guess, List.forall_mem_cons.mpr ⟨mk_L_look, List.forall_mem_cons.mpr ⟨mk_X11_look, List.forall_mem_cons.mpr ⟨mk_X10_forget, List.forall_mem_cons.mpr ⟨mk_X11_forget, List.forall_mem_cons.mpr ⟨mk_L_dirt, List.forall_mem_cons.mpr ⟨mk_X11_dirt, List.forall_mem_cons.mpr ⟨mk_L_years, List.forall_mem_cons.mpr ⟨mk_X11_years, List.forall_mem_cons.mpr ⟨mk_X10_image, List.forall_mem_cons.mpr ⟨mk_X11_image, List.forall_mem_cons.mpr ⟨mk_X10_restore, List.forall_mem_cons.mpr ⟨mk_X11_restore, fun _ h => nomatch h⟩⟩⟩⟩⟩⟩⟩⟩⟩⟩⟩⟩⟩⟩⟩⟩⟩⟩⟩⟩⟩⟩⟩⟩⟩⟩⟩⟩⟩⟩⟩⟩⟩⟩⟩⟩⟩⟩⟩⟩⟩⟩⟩⟩⟩⟩⟩⟩⟩⟩⟩⟩⟩⟩⟩⟩⟩⟩⟩⟩⟩⟩⟩⟩⟩⟩⟩⟩⟩⟩⟩⟩⟩⟩⟩⟩⟩⟩⟩⟩⟩⟩⟩⟩⟩⟩⟩⟩⟩⟩⟩⟩⟩⟩⟩⟩⟩
set_option maxRecDepth 100000 in
set_option maxHeartbeats 4000000 in
theorem mf_ok12 : ∀ e ∈ mfTab 12, mfw 12 e ∈ lw_tbl ∧ goodWord (mfw 12 e) = true := mchkf_ok 12 _ [] (by decide +kernel)
set_option maxRecDepth 100000 in
set_option maxHeartbeats 4000000 in
theorem mc_ok12 : ∀ e ∈ mcTab 12, (∀ w ∈ mew 12 e, w ∈ lw_tbl ∧ goodWord w = true) ∧ mep e = true := mchk_ok 12 _ [[718, 719, 720, 121], [944, 945, 946, 121], [1010, 1011, 1012, 121], [1060, 1061, 1062, 121], [1080, 1081, 1082, 121], [1096, 1097, 1098, 121], [1105, 1106, 1107, 121], [1121, 1122, 1123, 121], [1128, 1129, 1130, 121], [1155, 1156, 1157, 121], [1162, 1163, 1164, 121], [1169, 1170, 1171, 121], [1176, 1177, 1178, 121], [1183, 1184, 1185, 121], [1195, 1196, 1197, 121], [1202, 1203, 1204, 121], [1210, 1211, 1212, 121], [1230, 1231, 1232, 121], [1238, 1239, 1240, 121], [1245, 1246, 1247, 121], [1252, 1253, 1254, 121], [1267, 1268, 1269, 121], [1278, 1279, 1280, 121], [1289, 1290, 1291, 121], [147, 148, 121], [1304, 1305, 133], [532, 533, 534, 121], [1495, 1496, 1497, 133], [714, 715, 120], [1499, 1500, 1501, 133], [1491, 1492, 1493, 133], [941, 942, 120], [1591, 1592, 1593, 133], [540, 541, 542, 121], [1779, 1780, 1781, 133], [1006, 1007, 120], [1783, 1784, 1785, 133], [1057, 1058, 120], [1815, 1816, 1817, 133], [1077, 1078, 120], [1827, 1828, 1829, 133], [1093, 1094, 120], [1835, 1836, 1837, 133], [1102, 1103, 120], [1839, 1840, 1841, 133], [1118, 1119, 120], [1851, 1852, 1853, 133], [1125, 1126, 120], [1855, 1856, 1857, 133], [1152, 1153, 120], [1859, 1860, 1861, 133], [1159, 1160, 120], [1867, 1868, 1869, 133], [1166, 1167, 120], [1883, 1884, 1885, 133], [1173, 1174, 120], [1887, 1888, 1889, 133], [1180, 1181, 120], [1891, 1892, 1893, 133], [544, 545, 546, 121], [1899, 1900, 1901, 133], [659, 660, 661, 121], [1903, 1904, 1905, 133], [671, 672, 673, 121], [1907, 1908, 1909, 133], [675, 676, 677, 121], [1911, 1912, 1913, 133], [1192, 1193, 120], [1915, 1916, 1917, 133], [683, 684, 685, 121], [1923, 1924, 1925, 133], [1199, 1200, 120], [1927, 1928, 1929, 133], [1207, 1208, 120], [1931, 1932, 1933, 133], [1227, 1228, 120], [1951, 1952, 1953, 133], [1235, 1236, 120], [1956, 1957, 1958, 133], [1242, 1243, 120], [1960, 1961, 1962, 133], [688, 689, 690, 121], [1964, 1965, 1966, 133], [1249, 1250, 120], [1968, 1969, 1970, 133], [1264, 1265, 120], [1980, 1981, 1982, 133], [692, 693, 694, 121], [1987, 1988, 1989, 133], [1275, 1276, 120], [1991, 1992, 1993, 133], [1286, 1287, 120], [1995, 1996, 1997, 133], [696, 697, 698, 121], [2008, 2009, 2010, 133], [710, 711, 712, 121], [2015, 2016, 2017, 133]] (by decide +kernel)
theorem mfT_ok : ∀ own, ∀ e ∈ mfTab own, mfw own e ∈ lw_tbl ∧ goodWord (mfw own e) = true
  | 0 => mf_ok0
  | 1 => mf_ok1
  | 2 => mf_ok2
  | 3 => mf_ok3
  | 4 => mf_ok4
  | 5 => mf_ok5
  | 6 => mf_ok6
  | 7 => mf_ok7
  | 8 => mf_ok8
  | 9 => mf_ok9
  | 10 => mf_ok10
  | 11 => mf_ok11
  | 12 => mf_ok12
  | _ + 13 => fun _ h => by first | (cases h; done) | (exact absurd h (by decide))
theorem mkT_ok : ∀ own, ∀ e ∈ mcTab own, mcw e.2.2.2 ∈ lw_tbl
  | 0 => mk_ok0
  | 1 => mk_ok1
  | 2 => mk_ok2
  | 3 => mk_ok3
  | 4 => mk_ok4
  | 5 => mk_ok5
  | 6 => mk_ok6
  | 7 => mk_ok7
  | 8 => mk_ok8
  | 9 => mk_ok9
  | 10 => mk_ok10
  | 11 => mk_ok11
  | 12 => mk_ok12
  | _ + 13 => fun _ h => by first | (cases h; done) | (exact absurd h (by decide))
theorem mcT_ok : ∀ own, ∀ e ∈ mcTab own, (∀ w ∈ mew own e, w ∈ lw_tbl ∧ goodWord w = true) ∧ mep e = true
  | 0 => mc_ok0
  | 1 => mc_ok1
  | 2 => mc_ok2
  | 3 => mc_ok3
  | 4 => mc_ok4
  | 5 => mc_ok5
  | 6 => mc_ok6
  | 7 => mc_ok7
  | 8 => mc_ok8
  | 9 => mc_ok9
  | 10 => mc_ok10
  | 11 => mc_ok11
  | 12 => mc_ok12
  | _ + 13 => fun _ h => by first | (cases h; done) | (exact absurd h (by decide))
theorem mlook_mem {α : Type} : ∀ {l : List (Nat × α)} {k : Nat} {v : α}, mlook l k = some v → (k, v) ∈ l
  | [], _, _, h => by cases h
  | (i, w) :: r, k, v, h => by
    unfold mlook at h
    by_cases hik : i = k
    · rw [if_pos hik] at h
      cases h
      subst hik
      exact List.mem_cons_self
    · rw [if_neg hik] at h
      exact List.mem_cons_of_mem _ (mlook_mem h)
