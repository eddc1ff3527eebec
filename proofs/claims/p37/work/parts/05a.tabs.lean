/-! RUNNING the abstract machine as a function; what it says is sound. The tables by program (wip/gen/run.py). -/
def jmsL : List jM := [m_X0_init, m_X0_becomes, m_X0_answer, m_X0_runs, m_X0_sells, m_X0_gives, m_X0_tells, m_X1_init, m_X1_start, m_X1_go, m_X1_sell, m_X1_share, m_X1_beginYear, m_X1_wanted, m_X1_freeDay, m_X1_putOff, m_X1_takes, m_X1_allows, m_X1_valueOf, m_X2_init, m_X2_add, m_X2_copy, m_X3_init, m_X3_become, m_X3_holds, m_X3_fitted, m_X4_init, m_X4_parse, m_X4_next, m_X4_word, m_X4_number, m_X4_clause, m_X4_either, m_X4_one, m_X4_relation, m_X4_isLetter, m_X5_init, m_X5_clear, m_X5_addTest, m_X5_addJoint, m_X5_addTake, m_X6_init, m_X6_person, m_X6_of, m_X6_set, m_X6_there, m_X6_row, m_X6_feed, m_X6_town, m_X6_told, m_X6_day, m_X6_by, m_X6_years, m_X6_birth, m_X6_plan, m_X6_quiet, m_X6_foundling, m_X6_forged, m_X6_change, m_X6_rest, m_X6_reckoning, m_X6_high, m_X6_last, m_X6_odds, m_X6_mean, m_X6_book, m_X6_looked, m_X6_judge, m_X6_image, m_X6_undo, m_X6_act, m_X6_trace, m_X6_taken, m_X6_count, m_X6_tape, m_X6_item, m_X6_read, m_X6_shift, m_X6_isDay, m_X6_isTape, m_X6_isPerson, m_X6_bornOn, m_X6_sellingOn, m_X6_allPurses, m_X6_goYear, m_X6_gainOfOthers, m_X6_tryDays, m_X6_firstMost, m_X6_bestOf, m_X6_betterPlan, m_X6_fraction, m_X7_init, m_X7_in, m_X7_isPerson, m_X7_isDay, m_X7_lay, m_X7_person, m_X7_set, m_X7_there, m_X7_row, m_X7_feed, m_X7_next, m_X7_takes, m_X7_takesWord, m_X7_isDigit, m_X7_takesNumber, m_X7_emits, m_X7_whole, m_X7_settle, m_X7_place, m_X7_takesTest, m_X7_takesE, m_X7_takesHead, m_X7_takesClause, m_X7_goesText, m_X7_town, m_X7_clauseFrom, m_X7_clauseTo, m_X7_lastOf, m_X7_dueNow, m_X7_manyBorn, m_X7_factOf, m_X7_holds, m_X7_takesOf, m_X7_thatOne, m_X7_behindHated, m_X7_shunned, m_X7_wishedDay, m_X7_sells, m_X7_putOff, m_X7_of, m_X7_allPurses, m_X7_bornOn, m_X7_sellOn, m_X7_told, m_X7_goDay, m_X7_day, m_X7_keep, m_X7_putBack, m_X7_by, m_X7_layYear, m_X7_yearOf, m_X7_years, m_X7_layBest, m_X7_birth, m_X7_plan, m_X7_quiet, m_X7_foundling, m_X7_forged, m_X7_wouldChange, m_X7_change, m_X7_layRest, m_X7_rest, m_X7_allMore, m_X7_reckoning, m_X7_high, m_X7_othersMore, m_X7_last, m_X7_divisor, m_X7_lowest, m_X7_yearIf, m_X7_odds, m_X7_mean, m_X7_book, m_X7_looked, m_X7_judge, m_X7_image, m_X7_undo, m_X7_body, m_X7_sellerSells, m_X7_sellsAct, m_X7_sellerGives, m_X7_haterGives, m_X7_givesAct, m_X7_sellerTells, m_X7_tellsAct, m_X7_act, m_X7_trace, m_X7_taken, m_X7_count, m_X7_isTape, m_X7_tape, m_X7_narrow, m_X7_item, m_X7_read, m_X7_shift]
def jR (o : Nat) : String := match o with
  | 0 => RX0
  | 1 => RX1
  | 2 => RX2
  | 3 => RX3
  | 4 => RX4
  | 5 => RX5
  | 6 => RX6
  | 7 => RX7
  | _ => RL
def jMp (M : jM) : Prop := jok M ∧ jR M.1 = M.2.1.cls ∧ ∀ q, vwCl[M.1]? = some q → q.1 = M.2.1.cls
theorem mp_X0_init : jMp m_X0_init := ⟨ok_X0_init, rfl, fun q hq => by cases hq; rfl⟩
theorem mp_X0_becomes : jMp m_X0_becomes := ⟨ok_X0_becomes, rfl, fun q hq => by cases hq; rfl⟩
theorem mp_X0_answer : jMp m_X0_answer := ⟨ok_X0_answer, rfl, fun q hq => by cases hq; rfl⟩
theorem mp_X0_runs : jMp m_X0_runs := ⟨ok_X0_runs, rfl, fun q hq => by cases hq; rfl⟩
theorem mp_X0_sells : jMp m_X0_sells := ⟨ok_X0_sells, rfl, fun q hq => by cases hq; rfl⟩
theorem mp_X0_gives : jMp m_X0_gives := ⟨ok_X0_gives, rfl, fun q hq => by cases hq; rfl⟩
theorem mp_X0_tells : jMp m_X0_tells := ⟨ok_X0_tells, rfl, fun q hq => by cases hq; rfl⟩
theorem mp_X1_init : jMp m_X1_init := ⟨ok_X1_init, rfl, fun q hq => by cases hq; rfl⟩
theorem mp_X1_start : jMp m_X1_start := ⟨ok_X1_start, rfl, fun q hq => by cases hq; rfl⟩
theorem mp_X1_go : jMp m_X1_go := ⟨ok_X1_go, rfl, fun q hq => by cases hq; rfl⟩
theorem mp_X1_sell : jMp m_X1_sell := ⟨ok_X1_sell, rfl, fun q hq => by cases hq; rfl⟩
theorem mp_X1_share : jMp m_X1_share := ⟨ok_X1_share, rfl, fun q hq => by cases hq; rfl⟩
theorem mp_X1_beginYear : jMp m_X1_beginYear := ⟨ok_X1_beginYear, rfl, fun q hq => by cases hq; rfl⟩
theorem mp_X1_wanted : jMp m_X1_wanted := ⟨ok_X1_wanted, rfl, fun q hq => by cases hq; rfl⟩
theorem mp_X1_freeDay : jMp m_X1_freeDay := ⟨ok_X1_freeDay, rfl, fun q hq => by cases hq; rfl⟩
theorem mp_X1_putOff : jMp m_X1_putOff := ⟨ok_X1_putOff, rfl, fun q hq => by cases hq; rfl⟩
theorem mp_X1_takes : jMp m_X1_takes := ⟨ok_X1_takes, rfl, fun q hq => by cases hq; rfl⟩
theorem mp_X1_allows : jMp m_X1_allows := ⟨ok_X1_allows, rfl, fun q hq => by cases hq; rfl⟩
theorem mp_X1_valueOf : jMp m_X1_valueOf := ⟨ok_X1_valueOf, rfl, fun q hq => by cases hq; rfl⟩
theorem mp_X2_init : jMp m_X2_init := ⟨ok_X2_init, rfl, fun q hq => by cases hq; rfl⟩
theorem mp_X2_add : jMp m_X2_add := ⟨ok_X2_add, rfl, fun q hq => by cases hq; rfl⟩
theorem mp_X2_copy : jMp m_X2_copy := ⟨ok_X2_copy, rfl, fun q hq => by cases hq; rfl⟩
theorem mp_X3_init : jMp m_X3_init := ⟨ok_X3_init, rfl, fun q hq => by cases hq; rfl⟩
theorem mp_X3_become : jMp m_X3_become := ⟨ok_X3_become, rfl, fun q hq => by cases hq; rfl⟩
theorem mp_X3_holds : jMp m_X3_holds := ⟨ok_X3_holds, rfl, fun q hq => by cases hq; rfl⟩
theorem mp_X3_fitted : jMp m_X3_fitted := ⟨ok_X3_fitted, rfl, fun q hq => by cases hq; rfl⟩
theorem mp_X4_init : jMp m_X4_init := ⟨ok_X4_init, rfl, fun q hq => by cases hq; rfl⟩
theorem mp_X4_parse : jMp m_X4_parse := ⟨ok_X4_parse, rfl, fun q hq => by cases hq; rfl⟩
theorem mp_X4_next : jMp m_X4_next := ⟨ok_X4_next, rfl, fun q hq => by cases hq; rfl⟩
theorem mp_X4_word : jMp m_X4_word := ⟨ok_X4_word, rfl, fun q hq => by cases hq; rfl⟩
theorem mp_X4_number : jMp m_X4_number := ⟨ok_X4_number, rfl, fun q hq => by cases hq; rfl⟩
theorem mp_X4_clause : jMp m_X4_clause := ⟨ok_X4_clause, rfl, fun q hq => by cases hq; rfl⟩
theorem mp_X4_either : jMp m_X4_either := ⟨ok_X4_either, rfl, fun q hq => by cases hq; rfl⟩
theorem mp_X4_one : jMp m_X4_one := ⟨ok_X4_one, rfl, fun q hq => by cases hq; rfl⟩
theorem mp_X4_relation : jMp m_X4_relation := ⟨ok_X4_relation, rfl, fun q hq => by cases hq; rfl⟩
theorem mp_X4_isLetter : jMp m_X4_isLetter := ⟨ok_X4_isLetter, rfl, fun q hq => by cases hq; rfl⟩
theorem mp_X5_init : jMp m_X5_init := ⟨ok_X5_init, rfl, fun q hq => by cases hq; rfl⟩
theorem mp_X5_clear : jMp m_X5_clear := ⟨ok_X5_clear, rfl, fun q hq => by cases hq; rfl⟩
theorem mp_X5_addTest : jMp m_X5_addTest := ⟨ok_X5_addTest, rfl, fun q hq => by cases hq; rfl⟩
theorem mp_X5_addJoint : jMp m_X5_addJoint := ⟨ok_X5_addJoint, rfl, fun q hq => by cases hq; rfl⟩
theorem mp_X5_addTake : jMp m_X5_addTake := ⟨ok_X5_addTake, rfl, fun q hq => by cases hq; rfl⟩
theorem mp_X6_init : jMp m_X6_init := ⟨ok_X6_init, rfl, fun q hq => by cases hq; rfl⟩
theorem mp_X6_person : jMp m_X6_person := ⟨ok_X6_person, rfl, fun q hq => by cases hq; rfl⟩
theorem mp_X6_of : jMp m_X6_of := ⟨ok_X6_of, rfl, fun q hq => by cases hq; rfl⟩
theorem mp_X6_set : jMp m_X6_set := ⟨ok_X6_set, rfl, fun q hq => by cases hq; rfl⟩
theorem mp_X6_there : jMp m_X6_there := ⟨ok_X6_there, rfl, fun q hq => by cases hq; rfl⟩
theorem mp_X6_row : jMp m_X6_row := ⟨ok_X6_row, rfl, fun q hq => by cases hq; rfl⟩
theorem mp_X6_feed : jMp m_X6_feed := ⟨ok_X6_feed, rfl, fun q hq => by cases hq; rfl⟩
theorem mp_X6_town : jMp m_X6_town := ⟨ok_X6_town, rfl, fun q hq => by cases hq; rfl⟩
theorem mp_X6_told : jMp m_X6_told := ⟨ok_X6_told, rfl, fun q hq => by cases hq; rfl⟩
theorem mp_X6_day : jMp m_X6_day := ⟨ok_X6_day, rfl, fun q hq => by cases hq; rfl⟩
theorem mp_X6_by : jMp m_X6_by := ⟨ok_X6_by, rfl, fun q hq => by cases hq; rfl⟩
theorem mp_X6_years : jMp m_X6_years := ⟨ok_X6_years, rfl, fun q hq => by cases hq; rfl⟩
theorem mp_X6_birth : jMp m_X6_birth := ⟨ok_X6_birth, rfl, fun q hq => by cases hq; rfl⟩
theorem mp_X6_plan : jMp m_X6_plan := ⟨ok_X6_plan, rfl, fun q hq => by cases hq; rfl⟩
theorem mp_X6_quiet : jMp m_X6_quiet := ⟨ok_X6_quiet, rfl, fun q hq => by cases hq; rfl⟩
theorem mp_X6_foundling : jMp m_X6_foundling := ⟨ok_X6_foundling, rfl, fun q hq => by cases hq; rfl⟩
theorem mp_X6_forged : jMp m_X6_forged := ⟨ok_X6_forged, rfl, fun q hq => by cases hq; rfl⟩
theorem mp_X6_change : jMp m_X6_change := ⟨ok_X6_change, rfl, fun q hq => by cases hq; rfl⟩
theorem mp_X6_rest : jMp m_X6_rest := ⟨ok_X6_rest, rfl, fun q hq => by cases hq; rfl⟩
theorem mp_X6_reckoning : jMp m_X6_reckoning := ⟨ok_X6_reckoning, rfl, fun q hq => by cases hq; rfl⟩
theorem mp_X6_high : jMp m_X6_high := ⟨ok_X6_high, rfl, fun q hq => by cases hq; rfl⟩
theorem mp_X6_last : jMp m_X6_last := ⟨ok_X6_last, rfl, fun q hq => by cases hq; rfl⟩
theorem mp_X6_odds : jMp m_X6_odds := ⟨ok_X6_odds, rfl, fun q hq => by cases hq; rfl⟩
theorem mp_X6_mean : jMp m_X6_mean := ⟨ok_X6_mean, rfl, fun q hq => by cases hq; rfl⟩
theorem mp_X6_book : jMp m_X6_book := ⟨ok_X6_book, rfl, fun q hq => by cases hq; rfl⟩
theorem mp_X6_looked : jMp m_X6_looked := ⟨ok_X6_looked, rfl, fun q hq => by cases hq; rfl⟩
theorem mp_X6_judge : jMp m_X6_judge := ⟨ok_X6_judge, rfl, fun q hq => by cases hq; rfl⟩
theorem mp_X6_image : jMp m_X6_image := ⟨ok_X6_image, rfl, fun q hq => by cases hq; rfl⟩
theorem mp_X6_undo : jMp m_X6_undo := ⟨ok_X6_undo, rfl, fun q hq => by cases hq; rfl⟩
theorem mp_X6_act : jMp m_X6_act := ⟨ok_X6_act, rfl, fun q hq => by cases hq; rfl⟩
theorem mp_X6_trace : jMp m_X6_trace := ⟨ok_X6_trace, rfl, fun q hq => by cases hq; rfl⟩
theorem mp_X6_taken : jMp m_X6_taken := ⟨ok_X6_taken, rfl, fun q hq => by cases hq; rfl⟩
theorem mp_X6_count : jMp m_X6_count := ⟨ok_X6_count, rfl, fun q hq => by cases hq; rfl⟩
theorem mp_X6_tape : jMp m_X6_tape := ⟨ok_X6_tape, rfl, fun q hq => by cases hq; rfl⟩
theorem mp_X6_item : jMp m_X6_item := ⟨ok_X6_item, rfl, fun q hq => by cases hq; rfl⟩
theorem mp_X6_read : jMp m_X6_read := ⟨ok_X6_read, rfl, fun q hq => by cases hq; rfl⟩
theorem mp_X6_shift : jMp m_X6_shift := ⟨ok_X6_shift, rfl, fun q hq => by cases hq; rfl⟩
theorem mp_X6_isDay : jMp m_X6_isDay := ⟨ok_X6_isDay, rfl, fun q hq => by cases hq; rfl⟩
theorem mp_X6_isTape : jMp m_X6_isTape := ⟨ok_X6_isTape, rfl, fun q hq => by cases hq; rfl⟩
theorem mp_X6_isPerson : jMp m_X6_isPerson := ⟨ok_X6_isPerson, rfl, fun q hq => by cases hq; rfl⟩
theorem mp_X6_bornOn : jMp m_X6_bornOn := ⟨ok_X6_bornOn, rfl, fun q hq => by cases hq; rfl⟩
theorem mp_X6_sellingOn : jMp m_X6_sellingOn := ⟨ok_X6_sellingOn, rfl, fun q hq => by cases hq; rfl⟩
theorem mp_X6_allPurses : jMp m_X6_allPurses := ⟨ok_X6_allPurses, rfl, fun q hq => by cases hq; rfl⟩
theorem mp_X6_goYear : jMp m_X6_goYear := ⟨ok_X6_goYear, rfl, fun q hq => by cases hq; rfl⟩
theorem mp_X6_gainOfOthers : jMp m_X6_gainOfOthers := ⟨ok_X6_gainOfOthers, rfl, fun q hq => by cases hq; rfl⟩
theorem mp_X6_tryDays : jMp m_X6_tryDays := ⟨ok_X6_tryDays, rfl, fun q hq => by cases hq; rfl⟩
theorem mp_X6_firstMost : jMp m_X6_firstMost := ⟨ok_X6_firstMost, rfl, fun q hq => by cases hq; rfl⟩
theorem mp_X6_bestOf : jMp m_X6_bestOf := ⟨ok_X6_bestOf, rfl, fun q hq => by cases hq; rfl⟩
theorem mp_X6_betterPlan : jMp m_X6_betterPlan := ⟨ok_X6_betterPlan, rfl, fun q hq => by cases hq; rfl⟩
theorem mp_X6_fraction : jMp m_X6_fraction := ⟨ok_X6_fraction, rfl, fun q hq => by cases hq; rfl⟩
theorem mp_X7_init : jMp m_X7_init := ⟨ok_X7_init, rfl, fun q hq => by cases hq; rfl⟩
theorem mp_X7_in : jMp m_X7_in := ⟨ok_X7_in, rfl, fun q hq => by cases hq; rfl⟩
theorem mp_X7_isPerson : jMp m_X7_isPerson := ⟨ok_X7_isPerson, rfl, fun q hq => by cases hq; rfl⟩
theorem mp_X7_isDay : jMp m_X7_isDay := ⟨ok_X7_isDay, rfl, fun q hq => by cases hq; rfl⟩
theorem mp_X7_lay : jMp m_X7_lay := ⟨ok_X7_lay, rfl, fun q hq => by cases hq; rfl⟩
theorem mp_X7_person : jMp m_X7_person := ⟨ok_X7_person, rfl, fun q hq => by cases hq; rfl⟩
theorem mp_X7_set : jMp m_X7_set := ⟨ok_X7_set, rfl, fun q hq => by cases hq; rfl⟩
theorem mp_X7_there : jMp m_X7_there := ⟨ok_X7_there, rfl, fun q hq => by cases hq; rfl⟩
theorem mp_X7_row : jMp m_X7_row := ⟨ok_X7_row, rfl, fun q hq => by cases hq; rfl⟩
theorem mp_X7_feed : jMp m_X7_feed := ⟨ok_X7_feed, rfl, fun q hq => by cases hq; rfl⟩
theorem mp_X7_next : jMp m_X7_next := ⟨ok_X7_next, rfl, fun q hq => by cases hq; rfl⟩
theorem mp_X7_takes : jMp m_X7_takes := ⟨ok_X7_takes, rfl, fun q hq => by cases hq; rfl⟩
theorem mp_X7_takesWord : jMp m_X7_takesWord := ⟨ok_X7_takesWord, rfl, fun q hq => by cases hq; rfl⟩
theorem mp_X7_isDigit : jMp m_X7_isDigit := ⟨ok_X7_isDigit, rfl, fun q hq => by cases hq; rfl⟩
theorem mp_X7_takesNumber : jMp m_X7_takesNumber := ⟨ok_X7_takesNumber, rfl, fun q hq => by cases hq; rfl⟩
theorem mp_X7_emits : jMp m_X7_emits := ⟨ok_X7_emits, rfl, fun q hq => by cases hq; rfl⟩
theorem mp_X7_whole : jMp m_X7_whole := ⟨ok_X7_whole, rfl, fun q hq => by cases hq; rfl⟩
theorem mp_X7_settle : jMp m_X7_settle := ⟨ok_X7_settle, rfl, fun q hq => by cases hq; rfl⟩
theorem mp_X7_place : jMp m_X7_place := ⟨ok_X7_place, rfl, fun q hq => by cases hq; rfl⟩
theorem mp_X7_takesTest : jMp m_X7_takesTest := ⟨ok_X7_takesTest, rfl, fun q hq => by cases hq; rfl⟩
theorem mp_X7_takesE : jMp m_X7_takesE := ⟨ok_X7_takesE, rfl, fun q hq => by cases hq; rfl⟩
theorem mp_X7_takesHead : jMp m_X7_takesHead := ⟨ok_X7_takesHead, rfl, fun q hq => by cases hq; rfl⟩
theorem mp_X7_takesClause : jMp m_X7_takesClause := ⟨ok_X7_takesClause, rfl, fun q hq => by cases hq; rfl⟩
theorem mp_X7_goesText : jMp m_X7_goesText := ⟨ok_X7_goesText, rfl, fun q hq => by cases hq; rfl⟩
theorem mp_X7_town : jMp m_X7_town := ⟨ok_X7_town, rfl, fun q hq => by cases hq; rfl⟩
theorem mp_X7_clauseFrom : jMp m_X7_clauseFrom := ⟨ok_X7_clauseFrom, rfl, fun q hq => by cases hq; rfl⟩
theorem mp_X7_clauseTo : jMp m_X7_clauseTo := ⟨ok_X7_clauseTo, rfl, fun q hq => by cases hq; rfl⟩
theorem mp_X7_lastOf : jMp m_X7_lastOf := ⟨ok_X7_lastOf, rfl, fun q hq => by cases hq; rfl⟩
theorem mp_X7_dueNow : jMp m_X7_dueNow := ⟨ok_X7_dueNow, rfl, fun q hq => by cases hq; rfl⟩
theorem mp_X7_manyBorn : jMp m_X7_manyBorn := ⟨ok_X7_manyBorn, rfl, fun q hq => by cases hq; rfl⟩
theorem mp_X7_factOf : jMp m_X7_factOf := ⟨ok_X7_factOf, rfl, fun q hq => by cases hq; rfl⟩
theorem mp_X7_holds : jMp m_X7_holds := ⟨ok_X7_holds, rfl, fun q hq => by cases hq; rfl⟩
theorem mp_X7_takesOf : jMp m_X7_takesOf := ⟨ok_X7_takesOf, rfl, fun q hq => by cases hq; rfl⟩
theorem mp_X7_thatOne : jMp m_X7_thatOne := ⟨ok_X7_thatOne, rfl, fun q hq => by cases hq; rfl⟩
theorem mp_X7_behindHated : jMp m_X7_behindHated := ⟨ok_X7_behindHated, rfl, fun q hq => by cases hq; rfl⟩
theorem mp_X7_shunned : jMp m_X7_shunned := ⟨ok_X7_shunned, rfl, fun q hq => by cases hq; rfl⟩
theorem mp_X7_wishedDay : jMp m_X7_wishedDay := ⟨ok_X7_wishedDay, rfl, fun q hq => by cases hq; rfl⟩
theorem mp_X7_sells : jMp m_X7_sells := ⟨ok_X7_sells, rfl, fun q hq => by cases hq; rfl⟩
theorem mp_X7_putOff : jMp m_X7_putOff := ⟨ok_X7_putOff, rfl, fun q hq => by cases hq; rfl⟩
theorem mp_X7_of : jMp m_X7_of := ⟨ok_X7_of, rfl, fun q hq => by cases hq; rfl⟩
theorem mp_X7_allPurses : jMp m_X7_allPurses := ⟨ok_X7_allPurses, rfl, fun q hq => by cases hq; rfl⟩
theorem mp_X7_bornOn : jMp m_X7_bornOn := ⟨ok_X7_bornOn, rfl, fun q hq => by cases hq; rfl⟩
theorem mp_X7_sellOn : jMp m_X7_sellOn := ⟨ok_X7_sellOn, rfl, fun q hq => by cases hq; rfl⟩
theorem mp_X7_told : jMp m_X7_told := ⟨ok_X7_told, rfl, fun q hq => by cases hq; rfl⟩
theorem mp_X7_goDay : jMp m_X7_goDay := ⟨ok_X7_goDay, rfl, fun q hq => by cases hq; rfl⟩
theorem mp_X7_day : jMp m_X7_day := ⟨ok_X7_day, rfl, fun q hq => by cases hq; rfl⟩
theorem mp_X7_keep : jMp m_X7_keep := ⟨ok_X7_keep, rfl, fun q hq => by cases hq; rfl⟩
theorem mp_X7_putBack : jMp m_X7_putBack := ⟨ok_X7_putBack, rfl, fun q hq => by cases hq; rfl⟩
theorem mp_X7_by : jMp m_X7_by := ⟨ok_X7_by, rfl, fun q hq => by cases hq; rfl⟩
theorem mp_X7_layYear : jMp m_X7_layYear := ⟨ok_X7_layYear, rfl, fun q hq => by cases hq; rfl⟩
theorem mp_X7_yearOf : jMp m_X7_yearOf := ⟨ok_X7_yearOf, rfl, fun q hq => by cases hq; rfl⟩
theorem mp_X7_years : jMp m_X7_years := ⟨ok_X7_years, rfl, fun q hq => by cases hq; rfl⟩
theorem mp_X7_layBest : jMp m_X7_layBest := ⟨ok_X7_layBest, rfl, fun q hq => by cases hq; rfl⟩
theorem mp_X7_birth : jMp m_X7_birth := ⟨ok_X7_birth, rfl, fun q hq => by cases hq; rfl⟩
theorem mp_X7_plan : jMp m_X7_plan := ⟨ok_X7_plan, rfl, fun q hq => by cases hq; rfl⟩
theorem mp_X7_quiet : jMp m_X7_quiet := ⟨ok_X7_quiet, rfl, fun q hq => by cases hq; rfl⟩
theorem mp_X7_foundling : jMp m_X7_foundling := ⟨ok_X7_foundling, rfl, fun q hq => by cases hq; rfl⟩
theorem mp_X7_forged : jMp m_X7_forged := ⟨ok_X7_forged, rfl, fun q hq => by cases hq; rfl⟩
theorem mp_X7_wouldChange : jMp m_X7_wouldChange := ⟨ok_X7_wouldChange, rfl, fun q hq => by cases hq; rfl⟩
theorem mp_X7_change : jMp m_X7_change := ⟨ok_X7_change, rfl, fun q hq => by cases hq; rfl⟩
theorem mp_X7_layRest : jMp m_X7_layRest := ⟨ok_X7_layRest, rfl, fun q hq => by cases hq; rfl⟩
theorem mp_X7_rest : jMp m_X7_rest := ⟨ok_X7_rest, rfl, fun q hq => by cases hq; rfl⟩
theorem mp_X7_allMore : jMp m_X7_allMore := ⟨ok_X7_allMore, rfl, fun q hq => by cases hq; rfl⟩
theorem mp_X7_reckoning : jMp m_X7_reckoning := ⟨ok_X7_reckoning, rfl, fun q hq => by cases hq; rfl⟩
theorem mp_X7_high : jMp m_X7_high := ⟨ok_X7_high, rfl, fun q hq => by cases hq; rfl⟩
theorem mp_X7_othersMore : jMp m_X7_othersMore := ⟨ok_X7_othersMore, rfl, fun q hq => by cases hq; rfl⟩
theorem mp_X7_last : jMp m_X7_last := ⟨ok_X7_last, rfl, fun q hq => by cases hq; rfl⟩
theorem mp_X7_divisor : jMp m_X7_divisor := ⟨ok_X7_divisor, rfl, fun q hq => by cases hq; rfl⟩
theorem mp_X7_lowest : jMp m_X7_lowest := ⟨ok_X7_lowest, rfl, fun q hq => by cases hq; rfl⟩
theorem mp_X7_yearIf : jMp m_X7_yearIf := ⟨ok_X7_yearIf, rfl, fun q hq => by cases hq; rfl⟩
theorem mp_X7_odds : jMp m_X7_odds := ⟨ok_X7_odds, rfl, fun q hq => by cases hq; rfl⟩
theorem mp_X7_mean : jMp m_X7_mean := ⟨ok_X7_mean, rfl, fun q hq => by cases hq; rfl⟩
theorem mp_X7_book : jMp m_X7_book := ⟨ok_X7_book, rfl, fun q hq => by cases hq; rfl⟩
theorem mp_X7_looked : jMp m_X7_looked := ⟨ok_X7_looked, rfl, fun q hq => by cases hq; rfl⟩
theorem mp_X7_judge : jMp m_X7_judge := ⟨ok_X7_judge, rfl, fun q hq => by cases hq; rfl⟩
theorem mp_X7_image : jMp m_X7_image := ⟨ok_X7_image, rfl, fun q hq => by cases hq; rfl⟩
theorem mp_X7_undo : jMp m_X7_undo := ⟨ok_X7_undo, rfl, fun q hq => by cases hq; rfl⟩
theorem mp_X7_body : jMp m_X7_body := ⟨ok_X7_body, rfl, fun q hq => by cases hq; rfl⟩
theorem mp_X7_sellerSells : jMp m_X7_sellerSells := ⟨ok_X7_sellerSells, rfl, fun q hq => by cases hq; rfl⟩
theorem mp_X7_sellsAct : jMp m_X7_sellsAct := ⟨ok_X7_sellsAct, rfl, fun q hq => by cases hq; rfl⟩
theorem mp_X7_sellerGives : jMp m_X7_sellerGives := ⟨ok_X7_sellerGives, rfl, fun q hq => by cases hq; rfl⟩
theorem mp_X7_haterGives : jMp m_X7_haterGives := ⟨ok_X7_haterGives, rfl, fun q hq => by cases hq; rfl⟩
theorem mp_X7_givesAct : jMp m_X7_givesAct := ⟨ok_X7_givesAct, rfl, fun q hq => by cases hq; rfl⟩
theorem mp_X7_sellerTells : jMp m_X7_sellerTells := ⟨ok_X7_sellerTells, rfl, fun q hq => by cases hq; rfl⟩
theorem mp_X7_tellsAct : jMp m_X7_tellsAct := ⟨ok_X7_tellsAct, rfl, fun q hq => by cases hq; rfl⟩
theorem mp_X7_act : jMp m_X7_act := ⟨ok_X7_act, rfl, fun q hq => by cases hq; rfl⟩
theorem mp_X7_trace : jMp m_X7_trace := ⟨ok_X7_trace, rfl, fun q hq => by cases hq; rfl⟩
theorem mp_X7_taken : jMp m_X7_taken := ⟨ok_X7_taken, rfl, fun q hq => by cases hq; rfl⟩
theorem mp_X7_count : jMp m_X7_count := ⟨ok_X7_count, rfl, fun q hq => by cases hq; rfl⟩
theorem mp_X7_isTape : jMp m_X7_isTape := ⟨ok_X7_isTape, rfl, fun q hq => by cases hq; rfl⟩
theorem mp_X7_tape : jMp m_X7_tape := ⟨ok_X7_tape, rfl, fun q hq => by cases hq; rfl⟩
theorem mp_X7_narrow : jMp m_X7_narrow := ⟨ok_X7_narrow, rfl, fun q hq => by cases hq; rfl⟩
theorem mp_X7_item : jMp m_X7_item := ⟨ok_X7_item, rfl, fun q hq => by cases hq; rfl⟩
theorem mp_X7_read : jMp m_X7_read := ⟨ok_X7_read, rfl, fun q hq => by cases hq; rfl⟩
theorem mp_X7_shift : jMp m_X7_shift := ⟨ok_X7_shift, rfl, fun q hq => by cases hq; rfl⟩
set_option maxRecDepth 100000 in
theorem jms_ok : ∀ M ∈ jmsL, jMp M := List.forall_mem_cons.mpr ⟨mp_X0_init, List.forall_mem_cons.mpr ⟨mp_X0_becomes, List.forall_mem_cons.mpr ⟨mp_X0_answer, List.forall_mem_cons.mpr ⟨mp_X0_runs, List.forall_mem_cons.mpr ⟨mp_X0_sells, List.forall_mem_cons.mpr ⟨mp_X0_gives, List.forall_mem_cons.mpr ⟨mp_X0_tells, List.forall_mem_cons.mpr ⟨mp_X1_init, List.forall_mem_cons.mpr ⟨mp_X1_start, List.forall_mem_cons.mpr ⟨mp_X1_go, List.forall_mem_cons.mpr ⟨mp_X1_sell, List.forall_mem_cons.mpr ⟨mp_X1_share, List.forall_mem_cons.mpr ⟨mp_X1_beginYear, List.forall_mem_cons.mpr ⟨mp_X1_wanted, List.forall_mem_cons.mpr ⟨mp_X1_freeDay, List.forall_mem_cons.mpr ⟨mp_X1_putOff, List.forall_mem_cons.mpr ⟨mp_X1_takes, List.forall_mem_cons.mpr ⟨mp_X1_allows, List.forall_mem_cons.mpr ⟨mp_X1_valueOf, List.forall_mem_cons.mpr ⟨mp_X2_init, List.forall_mem_cons.mpr ⟨mp_X2_add, List.forall_mem_cons.mpr ⟨mp_X2_copy, List.forall_mem_cons.mpr ⟨mp_X3_init, List.forall_mem_cons.mpr ⟨mp_X3_become, List.forall_mem_cons.mpr ⟨mp_X3_holds, List.forall_mem_cons.mpr ⟨mp_X3_fitted, List.forall_mem_cons.mpr ⟨mp_X4_init, List.forall_mem_cons.mpr ⟨mp_X4_parse, List.forall_mem_cons.mpr ⟨mp_X4_next, List.forall_mem_cons.mpr ⟨mp_X4_word, List.forall_mem_cons.mpr ⟨mp_X4_number, List.forall_mem_cons.mpr ⟨mp_X4_clause, List.forall_mem_cons.mpr ⟨mp_X4_either, List.forall_mem_cons.mpr ⟨mp_X4_one, List.forall_mem_cons.mpr ⟨mp_X4_relation, List.forall_mem_cons.mpr ⟨mp_X4_isLetter, List.forall_mem_cons.mpr ⟨mp_X5_init, List.forall_mem_cons.mpr ⟨mp_X5_clear, List.forall_mem_cons.mpr ⟨mp_X5_addTest, List.forall_mem_cons.mpr ⟨mp_X5_addJoint, List.forall_mem_cons.mpr ⟨mp_X5_addTake, List.forall_mem_cons.mpr ⟨mp_X6_init, List.forall_mem_cons.mpr ⟨mp_X6_person, List.forall_mem_cons.mpr ⟨mp_X6_of, List.forall_mem_cons.mpr ⟨mp_X6_set, List.forall_mem_cons.mpr ⟨mp_X6_there, List.forall_mem_cons.mpr ⟨mp_X6_row, List.forall_mem_cons.mpr ⟨mp_X6_feed, List.forall_mem_cons.mpr ⟨mp_X6_town, List.forall_mem_cons.mpr ⟨mp_X6_told, List.forall_mem_cons.mpr ⟨mp_X6_day, List.forall_mem_cons.mpr ⟨mp_X6_by, List.forall_mem_cons.mpr ⟨mp_X6_years, List.forall_mem_cons.mpr ⟨mp_X6_birth, List.forall_mem_cons.mpr ⟨mp_X6_plan, List.forall_mem_cons.mpr ⟨mp_X6_quiet, List.forall_mem_cons.mpr ⟨mp_X6_foundling, List.forall_mem_cons.mpr ⟨mp_X6_forged, List.forall_mem_cons.mpr ⟨mp_X6_change, List.forall_mem_cons.mpr ⟨mp_X6_rest, List.forall_mem_cons.mpr ⟨mp_X6_reckoning, List.forall_mem_cons.mpr ⟨mp_X6_high, List.forall_mem_cons.mpr ⟨mp_X6_last, List.forall_mem_cons.mpr ⟨mp_X6_odds, List.forall_mem_cons.mpr ⟨mp_X6_mean, List.forall_mem_cons.mpr ⟨mp_X6_book, List.forall_mem_cons.mpr ⟨mp_X6_looked, List.forall_mem_cons.mpr ⟨mp_X6_judge, List.forall_mem_cons.mpr ⟨mp_X6_image, List.forall_mem_cons.mpr ⟨mp_X6_undo, List.forall_mem_cons.mpr ⟨mp_X6_act, List.forall_mem_cons.mpr ⟨mp_X6_trace, List.forall_mem_cons.mpr ⟨mp_X6_taken, List.forall_mem_cons.mpr ⟨mp_X6_count, List.forall_mem_cons.mpr ⟨mp_X6_tape, List.forall_mem_cons.mpr ⟨mp_X6_item, List.forall_mem_cons.mpr ⟨mp_X6_read, List.forall_mem_cons.mpr ⟨mp_X6_shift, List.forall_mem_cons.mpr ⟨mp_X6_isDay, List.forall_mem_cons.mpr ⟨mp_X6_isTape, List.forall_mem_cons.mpr ⟨mp_X6_isPerson, List.forall_mem_cons.mpr ⟨mp_X6_bornOn, List.forall_mem_cons.mpr ⟨mp_X6_sellingOn, List.forall_mem_cons.mpr ⟨mp_X6_allPurses, List.forall_mem_cons.mpr ⟨mp_X6_goYear, List.forall_mem_cons.mpr ⟨mp_X6_gainOfOthers, List.forall_mem_cons.mpr ⟨mp_X6_tryDays, List.forall_mem_cons.mpr ⟨mp_X6_firstMost, List.forall_mem_cons.mpr ⟨mp_X6_bestOf, List.forall_mem_cons.mpr ⟨mp_X6_betterPlan, List.forall_mem_cons.mpr ⟨mp_X6_fraction, List.forall_mem_cons.mpr ⟨mp_X7_init, List.forall_mem_cons.mpr ⟨mp_X7_in, List.forall_mem_cons.mpr ⟨mp_X7_isPerson, List.forall_mem_cons.mpr ⟨mp_X7_isDay, List.forall_mem_cons.mpr ⟨mp_X7_lay, List.forall_mem_cons.mpr ⟨mp_X7_person, List.forall_mem_cons.mpr ⟨mp_X7_set, List.forall_mem_cons.mpr ⟨mp_X7_there, List.forall_mem_cons.mpr ⟨mp_X7_row, List.forall_mem_cons.mpr ⟨mp_X7_feed, List.forall_mem_cons.mpr ⟨mp_X7_next, List.forall_mem_cons.mpr ⟨mp_X7_takes, List.forall_mem_cons.mpr ⟨mp_X7_takesWord, List.forall_mem_cons.mpr ⟨mp_X7_isDigit, List.forall_mem_cons.mpr ⟨mp_X7_takesNumber, List.forall_mem_cons.mpr ⟨mp_X7_emits, List.forall_mem_cons.mpr ⟨mp_X7_whole, List.forall_mem_cons.mpr ⟨mp_X7_settle, List.forall_mem_cons.mpr ⟨mp_X7_place, List.forall_mem_cons.mpr ⟨mp_X7_takesTest, List.forall_mem_cons.mpr ⟨mp_X7_takesE, List.forall_mem_cons.mpr ⟨mp_X7_takesHead, List.forall_mem_cons.mpr ⟨mp_X7_takesClause, List.forall_mem_cons.mpr ⟨mp_X7_goesText, List.forall_mem_cons.mpr ⟨mp_X7_town, List.forall_mem_cons.mpr ⟨mp_X7_clauseFrom, List.forall_mem_cons.mpr ⟨mp_X7_clauseTo, List.forall_mem_cons.mpr ⟨mp_X7_lastOf, List.forall_mem_cons.mpr ⟨mp_X7_dueNow, List.forall_mem_cons.mpr ⟨mp_X7_manyBorn, List.forall_mem_cons.mpr ⟨mp_X7_factOf, List.forall_mem_cons.mpr ⟨mp_X7_holds, List.forall_mem_cons.mpr ⟨mp_X7_takesOf, List.forall_mem_cons.mpr ⟨mp_X7_thatOne, List.forall_mem_cons.mpr ⟨mp_X7_behindHated, List.forall_mem_cons.mpr ⟨mp_X7_shunned, List.forall_mem_cons.mpr ⟨mp_X7_wishedDay, List.forall_mem_cons.mpr ⟨mp_X7_sells, List.forall_mem_cons.mpr ⟨mp_X7_putOff, List.forall_mem_cons.mpr ⟨mp_X7_of, List.forall_mem_cons.mpr ⟨mp_X7_allPurses, List.forall_mem_cons.mpr ⟨mp_X7_bornOn, List.forall_mem_cons.mpr ⟨mp_X7_sellOn, List.forall_mem_cons.mpr ⟨mp_X7_told, List.forall_mem_cons.mpr ⟨mp_X7_goDay, List.forall_mem_cons.mpr ⟨mp_X7_day, List.forall_mem_cons.mpr ⟨mp_X7_keep, List.forall_mem_cons.mpr ⟨mp_X7_putBack, List.forall_mem_cons.mpr ⟨mp_X7_by, List.forall_mem_cons.mpr ⟨mp_X7_layYear, List.forall_mem_cons.mpr ⟨mp_X7_yearOf, List.forall_mem_cons.mpr ⟨mp_X7_years, List.forall_mem_cons.mpr ⟨mp_X7_layBest, List.forall_mem_cons.mpr ⟨mp_X7_birth, List.forall_mem_cons.mpr ⟨mp_X7_plan, List.forall_mem_cons.mpr ⟨mp_X7_quiet, List.forall_mem_cons.mpr ⟨mp_X7_foundling, List.forall_mem_cons.mpr ⟨mp_X7_forged, List.forall_mem_cons.mpr ⟨mp_X7_wouldChange, List.forall_mem_cons.mpr ⟨mp_X7_change, List.forall_mem_cons.mpr ⟨mp_X7_layRest, List.forall_mem_cons.mpr ⟨mp_X7_rest, List.forall_mem_cons.mpr ⟨mp_X7_allMore, List.forall_mem_cons.mpr ⟨mp_X7_reckoning, List.forall_mem_cons.mpr ⟨mp_X7_high, List.forall_mem_cons.mpr ⟨mp_X7_othersMore, List.forall_mem_cons.mpr ⟨mp_X7_last, List.forall_mem_cons.mpr ⟨mp_X7_divisor, List.forall_mem_cons.mpr ⟨mp_X7_lowest, List.forall_mem_cons.mpr ⟨mp_X7_yearIf, List.forall_mem_cons.mpr ⟨mp_X7_odds, List.forall_mem_cons.mpr ⟨mp_X7_mean, List.forall_mem_cons.mpr ⟨mp_X7_book, List.forall_mem_cons.mpr ⟨mp_X7_looked, List.forall_mem_cons.mpr ⟨mp_X7_judge, List.forall_mem_cons.mpr ⟨mp_X7_image, List.forall_mem_cons.mpr ⟨mp_X7_undo, List.forall_mem_cons.mpr ⟨mp_X7_body, List.forall_mem_cons.mpr ⟨mp_X7_sellerSells, List.forall_mem_cons.mpr ⟨mp_X7_sellsAct, List.forall_mem_cons.mpr ⟨mp_X7_sellerGives, List.forall_mem_cons.mpr ⟨mp_X7_haterGives, List.forall_mem_cons.mpr ⟨mp_X7_givesAct, List.forall_mem_cons.mpr ⟨mp_X7_sellerTells, List.forall_mem_cons.mpr ⟨mp_X7_tellsAct, List.forall_mem_cons.mpr ⟨mp_X7_act, List.forall_mem_cons.mpr ⟨mp_X7_trace, List.forall_mem_cons.mpr ⟨mp_X7_taken, List.forall_mem_cons.mpr ⟨mp_X7_count, List.forall_mem_cons.mpr ⟨mp_X7_isTape, List.forall_mem_cons.mpr ⟨mp_X7_tape, List.forall_mem_cons.mpr ⟨mp_X7_narrow, List.forall_mem_cons.mpr ⟨mp_X7_item, List.forall_mem_cons.mpr ⟨mp_X7_read, List.forall_mem_cons.mpr ⟨mp_X7_shift, fun _ h => absurd h List.not_mem_nil⟩⟩⟩⟩⟩⟩⟩⟩⟩⟩⟩⟩⟩⟩⟩⟩⟩⟩⟩⟩⟩⟩⟩⟩⟩⟩⟩⟩⟩⟩⟩⟩⟩⟩⟩⟩⟩⟩⟩⟩⟩⟩⟩⟩⟩⟩⟩⟩⟩⟩⟩⟩⟩⟩⟩⟩⟩⟩⟩⟩⟩⟩⟩⟩⟩⟩⟩⟩⟩⟩⟩⟩⟩⟩⟩⟩⟩⟩⟩⟩⟩⟩⟩⟩⟩⟩⟩⟩⟩⟩⟩⟩⟩⟩⟩⟩⟩⟩⟩⟩⟩⟩⟩⟩⟩⟩⟩⟩⟩⟩⟩⟩⟩⟩⟩⟩⟩⟩⟩⟩⟩⟩⟩⟩⟩⟩⟩⟩⟩⟩⟩⟩⟩⟩⟩⟩⟩⟩⟩⟩⟩⟩⟩⟩⟩⟩⟩⟩⟩⟩⟩⟩⟩⟩⟩⟩⟩⟩⟩⟩⟩⟩⟩⟩⟩⟩⟩⟩⟩⟩⟩⟩⟩⟩⟩⟩⟩⟩⟩⟩⟩⟩⟩⟩⟩⟩
def jclP (R : String) (e : Nat × Nat × Nat × Nat) : Prop := ∃ M' : jM, jmsL[e.2.1]? = some M' ∧ Cond.methodLink R e.1 M'.2.1 ∈ jG ∧ (parseMethodDescriptor M'.2.1.desc).map (fun d => d.parameters.length) = some e.2.2.1 ∧ (e.2.2.2 = 0 → jvirt M') ∧ (e.2.2.2 = 1 → jinit M') ∧ (e.2.2.2 = 2 → jstat M' ∧ M'.2.1.cls = R)
def jcl0 : List (Nat × Nat × Nat × Nat) := [(25, 4, 2, 0), (38, 3, 1, 0), (29, 5, 2, 0), (32, 6, 2, 0)]
set_option maxRecDepth 100000 in
theorem jcl0_ok : ∀ e ∈ jcl0, jclP RX0 e := List.forall_mem_cons.mpr ⟨⟨m_X0_sells, rfl, cl_0_25, by decide +kernel, fun _ => vi_X0_sells, fun z => absurd z (by decide), fun z => absurd z (by decide)⟩, List.forall_mem_cons.mpr ⟨⟨m_X0_runs, rfl, cl_0_38, by decide +kernel, fun _ => vi_X0_runs, fun z => absurd z (by decide), fun z => absurd z (by decide)⟩, List.forall_mem_cons.mpr ⟨⟨m_X0_gives, rfl, cl_0_29, by decide +kernel, fun _ => vi_X0_gives, fun z => absurd z (by decide), fun z => absurd z (by decide)⟩, List.forall_mem_cons.mpr ⟨⟨m_X0_tells, rfl, cl_0_32, by decide +kernel, fun _ => vi_X0_tells, fun z => absurd z (by decide), fun z => absurd z (by decide)⟩, fun _ h => absurd h List.not_mem_nil⟩⟩⟩⟩
def jfd0 : List (Nat × Nat × Nat) := [(9, 0, 0), (35, 0, 1), (19, 0, 2), (15, 0, 3), (22, 0, 4)]
set_option maxRecDepth 100000 in
theorem jfd0_ok : ∀ e ∈ jfd0, jFl RX0 e.1 e.2.1 e.2.2 := List.forall_mem_cons.mpr ⟨fl_0_9, List.forall_mem_cons.mpr ⟨fl_0_35, List.forall_mem_cons.mpr ⟨fl_0_19, List.forall_mem_cons.mpr ⟨fl_0_15, List.forall_mem_cons.mpr ⟨fl_0_22, fun _ h => absurd h List.not_mem_nil⟩⟩⟩⟩⟩
def jcl1 : List (Nat × Nat × Nat × Nat) := [(52, 12, 0, 0), (81, 13, 1, 0), (96, 14, 3, 0), (108, 17, 5, 0), (118, 18, 3, 0), (55, 10, 0, 0), (64, 16, 2, 0), (77, 15, 1, 0), (58, 11, 0, 0)]
set_option maxRecDepth 100000 in
theorem jcl1_ok : ∀ e ∈ jcl1, jclP RX1 e := List.forall_mem_cons.mpr ⟨⟨m_X1_beginYear, rfl, cl_1_52, by decide +kernel, fun _ => vi_X1_beginYear, fun z => absurd z (by decide), fun z => absurd z (by decide)⟩, List.forall_mem_cons.mpr ⟨⟨m_X1_wanted, rfl, cl_1_81, by decide +kernel, fun _ => vi_X1_wanted, fun z => absurd z (by decide), fun z => absurd z (by decide)⟩, List.forall_mem_cons.mpr ⟨⟨m_X1_freeDay, rfl, cl_1_96, by decide +kernel, fun _ => vi_X1_freeDay, fun z => absurd z (by decide), fun z => absurd z (by decide)⟩, List.forall_mem_cons.mpr ⟨⟨m_X1_allows, rfl, cl_1_108, by decide +kernel, fun _ => vi_X1_allows, fun z => absurd z (by decide), fun z => absurd z (by decide)⟩, List.forall_mem_cons.mpr ⟨⟨m_X1_valueOf, rfl, cl_1_118, by decide +kernel, fun _ => vi_X1_valueOf, fun z => absurd z (by decide), fun z => absurd z (by decide)⟩, List.forall_mem_cons.mpr ⟨⟨m_X1_sell, rfl, cl_1_55, by decide +kernel, fun _ => vi_X1_sell, fun z => absurd z (by decide), fun z => absurd z (by decide)⟩, List.forall_mem_cons.mpr ⟨⟨m_X1_takes, rfl, cl_1_64, by decide +kernel, fun _ => vi_X1_takes, fun z => absurd z (by decide), fun z => absurd z (by decide)⟩, List.forall_mem_cons.mpr ⟨⟨m_X1_putOff, rfl, cl_1_77, by decide +kernel, fun _ => vi_X1_putOff, fun z => absurd z (by decide), fun z => absurd z (by decide)⟩, List.forall_mem_cons.mpr ⟨⟨m_X1_share, rfl, cl_1_58, by decide +kernel, fun _ => vi_X1_share, fun z => absurd z (by decide), fun z => absurd z (by decide)⟩, fun _ h => absurd h List.not_mem_nil⟩⟩⟩⟩⟩⟩⟩⟩⟩
def jfd1 : List (Nat × Nat × Nat) := [(72, 5, 1), (84, 5, 2), (103, 5, 3), (115, 5, 5), (124, 5, 6), (121, 5, 7), (112, 5, 8), (105, 5, 9), (42, 2, 0), (32, 2, 1), (38, 2, 2), (68, 2, 4), (93, 2, 5), (90, 2, 6), (49, 2, 7), (87, 2, 8), (45, 2, 10), (100, 2, 11), (24, 1, 0), (28, 1, 1), (37, 1, 2), (41, 1, 3), (61, 1, 4), (9, 1, 5), (15, 1, 6), (18, 1, 7), (21, 1, 8)]
set_option maxRecDepth 100000 in
theorem jfd1_ok : ∀ e ∈ jfd1, jFl RX1 e.1 e.2.1 e.2.2 := List.forall_mem_cons.mpr ⟨fl_1_72, List.forall_mem_cons.mpr ⟨fl_1_84, List.forall_mem_cons.mpr ⟨fl_1_103, List.forall_mem_cons.mpr ⟨fl_1_115, List.forall_mem_cons.mpr ⟨fl_1_124, List.forall_mem_cons.mpr ⟨fl_1_121, List.forall_mem_cons.mpr ⟨fl_1_112, List.forall_mem_cons.mpr ⟨fl_1_105, List.forall_mem_cons.mpr ⟨fl_1_42, List.forall_mem_cons.mpr ⟨fl_1_32, List.forall_mem_cons.mpr ⟨fl_1_38, List.forall_mem_cons.mpr ⟨fl_1_68, List.forall_mem_cons.mpr ⟨fl_1_93, List.forall_mem_cons.mpr ⟨fl_1_90, List.forall_mem_cons.mpr ⟨fl_1_49, List.forall_mem_cons.mpr ⟨fl_1_87, List.forall_mem_cons.mpr ⟨fl_1_45, List.forall_mem_cons.mpr ⟨fl_1_100, List.forall_mem_cons.mpr ⟨fl_1_24, List.forall_mem_cons.mpr ⟨fl_1_28, List.forall_mem_cons.mpr ⟨fl_1_37, List.forall_mem_cons.mpr ⟨fl_1_41, List.forall_mem_cons.mpr ⟨fl_1_61, List.forall_mem_cons.mpr ⟨fl_1_9, List.forall_mem_cons.mpr ⟨fl_1_15, List.forall_mem_cons.mpr ⟨fl_1_18, List.forall_mem_cons.mpr ⟨fl_1_21, fun _ h => absurd h List.not_mem_nil⟩⟩⟩⟩⟩⟩⟩⟩⟩⟩⟩⟩⟩⟩⟩⟩⟩⟩⟩⟩⟩⟩⟩⟩⟩⟩⟩
def jcl2 : List (Nat × Nat × Nat × Nat) := []
theorem jcl2_ok : ∀ e ∈ jcl2, jclP RX2 e := fun _ h => absurd h List.not_mem_nil
def jfd2 : List (Nat × Nat × Nat) := [(41, 2, 0), (45, 2, 1), (48, 2, 2), (51, 2, 3), (37, 2, 4), (9, 2, 5), (15, 2, 6), (18, 2, 7), (21, 2, 8), (24, 2, 9), (27, 2, 10), (31, 2, 11), (34, 2, 12)]
set_option maxRecDepth 100000 in
theorem jfd2_ok : ∀ e ∈ jfd2, jFl RX2 e.1 e.2.1 e.2.2 := List.forall_mem_cons.mpr ⟨fl_2_41, List.forall_mem_cons.mpr ⟨fl_2_45, List.forall_mem_cons.mpr ⟨fl_2_48, List.forall_mem_cons.mpr ⟨fl_2_51, List.forall_mem_cons.mpr ⟨fl_2_37, List.forall_mem_cons.mpr ⟨fl_2_9, List.forall_mem_cons.mpr ⟨fl_2_15, List.forall_mem_cons.mpr ⟨fl_2_18, List.forall_mem_cons.mpr ⟨fl_2_21, List.forall_mem_cons.mpr ⟨fl_2_24, List.forall_mem_cons.mpr ⟨fl_2_27, List.forall_mem_cons.mpr ⟨fl_2_31, List.forall_mem_cons.mpr ⟨fl_2_34, fun _ h => absurd h List.not_mem_nil⟩⟩⟩⟩⟩⟩⟩⟩⟩⟩⟩⟩⟩
def jcl3 : List (Nat × Nat × Nat × Nat) := []
theorem jcl3_ok : ∀ e ∈ jcl3, jclP RX3 e := fun _ h => absurd h List.not_mem_nil
def jfd3 : List (Nat × Nat × Nat) := [(9, 3, 0), (19, 3, 1), (15, 3, 2)]
set_option maxRecDepth 100000 in
theorem jfd3_ok : ∀ e ∈ jfd3, jFl RX3 e.1 e.2.1 e.2.2 := List.forall_mem_cons.mpr ⟨fl_3_9, List.forall_mem_cons.mpr ⟨fl_3_19, List.forall_mem_cons.mpr ⟨fl_3_15, fun _ h => absurd h List.not_mem_nil⟩⟩⟩
def jcl4 : List (Nat × Nat × Nat × Nat) := [(15, 37, 0, 0), (28, 31, 1, 0), (46, 28, 0, 0), (37, 29, 1, 0), (55, 30, 0, 0), (60, 32, 2, 0), (83, 33, 2, 0), (89, 35, 1, 2), (93, 34, 0, 0), (96, 38, 3, 0), (86, 39, 1, 0), (64, 40, 1, 0)]
set_option maxRecDepth 100000 in
theorem jcl4_ok : ∀ e ∈ jcl4, jclP RX4 e := List.forall_mem_cons.mpr ⟨⟨m_X5_clear, rfl, cl_4_15, by decide +kernel, fun _ => vi_X5_clear, fun z => absurd z (by decide), fun z => absurd z (by decide)⟩, List.forall_mem_cons.mpr ⟨⟨m_X4_clause, rfl, cl_4_28, by decide +kernel, fun _ => vi_X4_clause, fun z => absurd z (by decide), fun z => absurd z (by decide)⟩, List.forall_mem_cons.mpr ⟨⟨m_X4_next, rfl, cl_4_46, by decide +kernel, fun _ => vi_X4_next, fun z => absurd z (by decide), fun z => absurd z (by decide)⟩, List.forall_mem_cons.mpr ⟨⟨m_X4_word, rfl, cl_4_37, by decide +kernel, fun _ => vi_X4_word, fun z => absurd z (by decide), fun z => absurd z (by decide)⟩, List.forall_mem_cons.mpr ⟨⟨m_X4_number, rfl, cl_4_55, by decide +kernel, fun _ => vi_X4_number, fun z => absurd z (by decide), fun z => absurd z (by decide)⟩, List.forall_mem_cons.mpr ⟨⟨m_X4_either, rfl, cl_4_60, by decide +kernel, fun _ => vi_X4_either, fun z => absurd z (by decide), fun z => absurd z (by decide)⟩, List.forall_mem_cons.mpr ⟨⟨m_X4_one, rfl, cl_4_83, by decide +kernel, fun _ => vi_X4_one, fun z => absurd z (by decide), fun z => absurd z (by decide)⟩, List.forall_mem_cons.mpr ⟨⟨m_X4_isLetter, rfl, cl_4_89, by decide +kernel, fun z => absurd z (by decide), fun z => absurd z (by decide), fun _ => ⟨st_X4_isLetter, rfl⟩⟩, List.forall_mem_cons.mpr ⟨⟨m_X4_relation, rfl, cl_4_93, by decide +kernel, fun _ => vi_X4_relation, fun z => absurd z (by decide), fun z => absurd z (by decide)⟩, List.forall_mem_cons.mpr ⟨⟨m_X5_addTest, rfl, cl_4_96, by decide +kernel, fun _ => vi_X5_addTest, fun z => absurd z (by decide), fun z => absurd z (by decide)⟩, List.forall_mem_cons.mpr ⟨⟨m_X5_addJoint, rfl, cl_4_86, by decide +kernel, fun _ => vi_X5_addJoint, fun z => absurd z (by decide), fun z => absurd z (by decide)⟩, List.forall_mem_cons.mpr ⟨⟨m_X5_addTake, rfl, cl_4_64, by decide +kernel, fun _ => vi_X5_addTake, fun z => absurd z (by decide), fun z => absurd z (by decide)⟩, fun _ h => absurd h List.not_mem_nil⟩⟩⟩⟩⟩⟩⟩⟩⟩⟩⟩⟩
def jfd4 : List (Nat × Nat × Nat) := [(9, 4, 0), (32, 4, 1), (20, 4, 2), (24, 4, 3), (70, 5, 0), (75, 5, 1), (80, 5, 2)]
set_option maxRecDepth 100000 in
theorem jfd4_ok : ∀ e ∈ jfd4, jFl RX4 e.1 e.2.1 e.2.2 := List.forall_mem_cons.mpr ⟨fl_4_9, List.forall_mem_cons.mpr ⟨fl_4_32, List.forall_mem_cons.mpr ⟨fl_4_20, List.forall_mem_cons.mpr ⟨fl_4_24, List.forall_mem_cons.mpr ⟨fl_4_70, List.forall_mem_cons.mpr ⟨fl_4_75, List.forall_mem_cons.mpr ⟨fl_4_80, fun _ h => absurd h List.not_mem_nil⟩⟩⟩⟩⟩⟩⟩
def jcl5 : List (Nat × Nat × Nat × Nat) := [(27, 37, 0, 0), (46, 38, 3, 0)]
set_option maxRecDepth 100000 in
theorem jcl5_ok : ∀ e ∈ jcl5, jclP RX5 e := List.forall_mem_cons.mpr ⟨⟨m_X5_clear, rfl, cl_5_27, by decide +kernel, fun _ => vi_X5_clear, fun z => absurd z (by decide), fun z => absurd z (by decide)⟩, List.forall_mem_cons.mpr ⟨⟨m_X5_addTest, rfl, cl_5_46, by decide +kernel, fun _ => vi_X5_addTest, fun z => absurd z (by decide), fun z => absurd z (by decide)⟩, fun _ h => absurd h List.not_mem_nil⟩⟩
def jfd5 : List (Nat × Nat × Nat) := [(30, 5, 0), (34, 5, 1), (37, 5, 2), (40, 5, 3), (43, 5, 4), (9, 5, 5), (15, 5, 6), (18, 5, 7), (21, 5, 8), (24, 5, 9)]
set_option maxRecDepth 100000 in
theorem jfd5_ok : ∀ e ∈ jfd5, jFl RX5 e.1 e.2.1 e.2.2 := List.forall_mem_cons.mpr ⟨fl_5_30, List.forall_mem_cons.mpr ⟨fl_5_34, List.forall_mem_cons.mpr ⟨fl_5_37, List.forall_mem_cons.mpr ⟨fl_5_40, List.forall_mem_cons.mpr ⟨fl_5_43, List.forall_mem_cons.mpr ⟨fl_5_9, List.forall_mem_cons.mpr ⟨fl_5_15, List.forall_mem_cons.mpr ⟨fl_5_18, List.forall_mem_cons.mpr ⟨fl_5_21, List.forall_mem_cons.mpr ⟨fl_5_24, fun _ h => absurd h List.not_mem_nil⟩⟩⟩⟩⟩⟩⟩⟩⟩⟩
def jcl6 : List (Nat × Nat × Nat × Nat) := [(41, 36, 0, 1), (44, 19, 1, 1), (59, 7, 1, 1), (67, 78, 1, 2), (75, 20, 4, 0), (79, 80, 1, 0), (90, 8, 2, 0), (113, 15, 1, 0), (117, 16, 2, 0), (137, 27, 1, 0), (144, 81, 1, 0), (147, 82, 1, 0), (162, 83, 0, 0), (166, 9, 1, 0), (182, 84, 2, 0), (185, 21, 1, 0), (188, 88, 3, 0), (192, 86, 3, 0), (269, 87, 0, 0), (196, 89, 2, 0), (199, 85, 2, 0), (205, 90, 3, 2), (220, 79, 1, 2), (238, 1, 3, 0), (242, 2, 2, 0), (251, 23, 2, 0), (255, 25, 1, 0), (259, 24, 2, 0)]
set_option maxRecDepth 100000 in
theorem jcl6_ok : ∀ e ∈ jcl6, jclP RX6 e := List.forall_mem_cons.mpr ⟨⟨m_X5_init, rfl, cl_6_41, by decide +kernel, fun z => absurd z (by decide), fun _ => in_X5_init, fun z => absurd z (by decide)⟩, List.forall_mem_cons.mpr ⟨⟨m_X2_init, rfl, cl_6_44, by decide +kernel, fun z => absurd z (by decide), fun _ => in_X2_init, fun z => absurd z (by decide)⟩, List.forall_mem_cons.mpr ⟨⟨m_X1_init, rfl, cl_6_59, by decide +kernel, fun z => absurd z (by decide), fun _ => in_X1_init, fun z => absurd z (by decide)⟩, List.forall_mem_cons.mpr ⟨⟨m_X6_isDay, rfl, cl_6_67, by decide +kernel, fun z => absurd z (by decide), fun z => absurd z (by decide), fun _ => ⟨st_X6_isDay, rfl⟩⟩, List.forall_mem_cons.mpr ⟨⟨m_X2_add, rfl, cl_6_75, by decide +kernel, fun _ => vi_X2_add, fun z => absurd z (by decide), fun z => absurd z (by decide)⟩, List.forall_mem_cons.mpr ⟨⟨m_X6_isPerson, rfl, cl_6_79, by decide +kernel, fun _ => vi_X6_isPerson, fun z => absurd z (by decide), fun z => absurd z (by decide)⟩, List.forall_mem_cons.mpr ⟨⟨m_X1_start, rfl, cl_6_90, by decide +kernel, fun _ => vi_X1_start, fun z => absurd z (by decide), fun z => absurd z (by decide)⟩, List.forall_mem_cons.mpr ⟨⟨m_X1_putOff, rfl, cl_6_113, by decide +kernel, fun _ => vi_X1_putOff, fun z => absurd z (by decide), fun z => absurd z (by decide)⟩, List.forall_mem_cons.mpr ⟨⟨m_X1_takes, rfl, cl_6_117, by decide +kernel, fun _ => vi_X1_takes, fun z => absurd z (by decide), fun z => absurd z (by decide)⟩, List.forall_mem_cons.mpr ⟨⟨m_X4_parse, rfl, cl_6_137, by decide +kernel, fun _ => vi_X4_parse, fun z => absurd z (by decide), fun z => absurd z (by decide)⟩, List.forall_mem_cons.mpr ⟨⟨m_X6_bornOn, rfl, cl_6_144, by decide +kernel, fun _ => vi_X6_bornOn, fun z => absurd z (by decide), fun z => absurd z (by decide)⟩, List.forall_mem_cons.mpr ⟨⟨m_X6_sellingOn, rfl, cl_6_147, by decide +kernel, fun _ => vi_X6_sellingOn, fun z => absurd z (by decide), fun z => absurd z (by decide)⟩, List.forall_mem_cons.mpr ⟨⟨m_X6_allPurses, rfl, cl_6_162, by decide +kernel, fun _ => vi_X6_allPurses, fun z => absurd z (by decide), fun z => absurd z (by decide)⟩, List.forall_mem_cons.mpr ⟨⟨m_X1_go, rfl, cl_6_166, by decide +kernel, fun _ => vi_X1_go, fun z => absurd z (by decide), fun z => absurd z (by decide)⟩, List.forall_mem_cons.mpr ⟨⟨m_X6_goYear, rfl, cl_6_182, by decide +kernel, fun _ => vi_X6_goYear, fun z => absurd z (by decide), fun z => absurd z (by decide)⟩, List.forall_mem_cons.mpr ⟨⟨m_X2_copy, rfl, cl_6_185, by decide +kernel, fun _ => vi_X2_copy, fun z => absurd z (by decide), fun z => absurd z (by decide)⟩, List.forall_mem_cons.mpr ⟨⟨m_X6_bestOf, rfl, cl_6_188, by decide +kernel, fun _ => vi_X6_bestOf, fun z => absurd z (by decide), fun z => absurd z (by decide)⟩, List.forall_mem_cons.mpr ⟨⟨m_X6_tryDays, rfl, cl_6_192, by decide +kernel, fun _ => vi_X6_tryDays, fun z => absurd z (by decide), fun z => absurd z (by decide)⟩, List.forall_mem_cons.mpr ⟨⟨m_X6_firstMost, rfl, cl_6_269, by decide +kernel, fun _ => vi_X6_firstMost, fun z => absurd z (by decide), fun z => absurd z (by decide)⟩, List.forall_mem_cons.mpr ⟨⟨m_X6_betterPlan, rfl, cl_6_196, by decide +kernel, fun _ => vi_X6_betterPlan, fun z => absurd z (by decide), fun z => absurd z (by decide)⟩, List.forall_mem_cons.mpr ⟨⟨m_X6_gainOfOthers, rfl, cl_6_199, by decide +kernel, fun _ => vi_X6_gainOfOthers, fun z => absurd z (by decide), fun z => absurd z (by decide)⟩, List.forall_mem_cons.mpr ⟨⟨m_X6_fraction, rfl, cl_6_205, by decide +kernel, fun z => absurd z (by decide), fun z => absurd z (by decide), fun _ => ⟨st_X6_fraction, rfl⟩⟩, List.forall_mem_cons.mpr ⟨⟨m_X6_isTape, rfl, cl_6_220, by decide +kernel, fun z => absurd z (by decide), fun z => absurd z (by decide), fun _ => ⟨st_X6_isTape, rfl⟩⟩, List.forall_mem_cons.mpr ⟨⟨m_X0_becomes, rfl, cl_6_238, by decide +kernel, fun _ => vi_X0_becomes, fun z => absurd z (by decide), fun z => absurd z (by decide)⟩, List.forall_mem_cons.mpr ⟨⟨m_X0_answer, rfl, cl_6_242, by decide +kernel, fun _ => vi_X0_answer, fun z => absurd z (by decide), fun z => absurd z (by decide)⟩, List.forall_mem_cons.mpr ⟨⟨m_X3_become, rfl, cl_6_251, by decide +kernel, fun _ => vi_X3_become, fun z => absurd z (by decide), fun z => absurd z (by decide)⟩, List.forall_mem_cons.mpr ⟨⟨m_X3_fitted, rfl, cl_6_255, by decide +kernel, fun _ => vi_X3_fitted, fun z => absurd z (by decide), fun z => absurd z (by decide)⟩, List.forall_mem_cons.mpr ⟨⟨m_X3_holds, rfl, cl_6_259, by decide +kernel, fun _ => vi_X3_holds, fun z => absurd z (by decide), fun z => absurd z (by decide)⟩, fun _ h => absurd h List.not_mem_nil⟩⟩⟩⟩⟩⟩⟩⟩⟩⟩⟩⟩⟩⟩⟩⟩⟩⟩⟩⟩⟩⟩⟩⟩⟩⟩⟩⟩
def jfd6 : List (Nat × Nat × Nat) := [(130, 4, 0), (127, 4, 1), (141, 4, 2), (245, 0, 0), (235, 0, 1), (87, 5, 0), (150, 5, 1), (153, 5, 2), (71, 2, 0), (156, 2, 1), (159, 2, 2), (209, 2, 3), (83, 2, 4), (97, 2, 5), (100, 2, 6), (103, 2, 7), (106, 2, 8), (121, 2, 9), (109, 2, 10), (124, 2, 11), (212, 2, 12), (173, 1, 2), (174, 1, 3), (175, 1, 4), (170, 1, 5), (179, 1, 6), (94, 1, 7), (223, 3, 0), (226, 3, 1), (227, 3, 2), (47, 6, 0), (51, 6, 1), (54, 6, 2), (231, 6, 3), (62, 6, 4), (11, 6, 5), (18, 6, 6), (24, 6, 7), (134, 6, 8), (31, 6, 9), (37, 6, 10)]
set_option maxRecDepth 100000 in
theorem jfd6_ok : ∀ e ∈ jfd6, jFl RX6 e.1 e.2.1 e.2.2 := List.forall_mem_cons.mpr ⟨fl_6_130, List.forall_mem_cons.mpr ⟨fl_6_127, List.forall_mem_cons.mpr ⟨fl_6_141, List.forall_mem_cons.mpr ⟨fl_6_245, List.forall_mem_cons.mpr ⟨fl_6_235, List.forall_mem_cons.mpr ⟨fl_6_87, List.forall_mem_cons.mpr ⟨fl_6_150, List.forall_mem_cons.mpr ⟨fl_6_153, List.forall_mem_cons.mpr ⟨fl_6_71, List.forall_mem_cons.mpr ⟨fl_6_156, List.forall_mem_cons.mpr ⟨fl_6_159, List.forall_mem_cons.mpr ⟨fl_6_209, List.forall_mem_cons.mpr ⟨fl_6_83, List.forall_mem_cons.mpr ⟨fl_6_97, List.forall_mem_cons.mpr ⟨fl_6_100, List.forall_mem_cons.mpr ⟨fl_6_103, List.forall_mem_cons.mpr ⟨fl_6_106, List.forall_mem_cons.mpr ⟨fl_6_121, List.forall_mem_cons.mpr ⟨fl_6_109, List.forall_mem_cons.mpr ⟨fl_6_124, List.forall_mem_cons.mpr ⟨fl_6_212, List.forall_mem_cons.mpr ⟨fl_6_173, List.forall_mem_cons.mpr ⟨fl_6_174, List.forall_mem_cons.mpr ⟨fl_6_175, List.forall_mem_cons.mpr ⟨fl_6_170, List.forall_mem_cons.mpr ⟨fl_6_179, List.forall_mem_cons.mpr ⟨fl_6_94, List.forall_mem_cons.mpr ⟨fl_6_223, List.forall_mem_cons.mpr ⟨fl_6_226, List.forall_mem_cons.mpr ⟨fl_6_227, List.forall_mem_cons.mpr ⟨fl_6_47, List.forall_mem_cons.mpr ⟨fl_6_51, List.forall_mem_cons.mpr ⟨fl_6_54, List.forall_mem_cons.mpr ⟨fl_6_231, List.forall_mem_cons.mpr ⟨fl_6_62, List.forall_mem_cons.mpr ⟨fl_6_11, List.forall_mem_cons.mpr ⟨fl_6_18, List.forall_mem_cons.mpr ⟨fl_6_24, List.forall_mem_cons.mpr ⟨fl_6_134, List.forall_mem_cons.mpr ⟨fl_6_31, List.forall_mem_cons.mpr ⟨fl_6_37, fun _ h => absurd h List.not_mem_nil⟩⟩⟩⟩⟩⟩⟩⟩⟩⟩⟩⟩⟩⟩⟩⟩⟩⟩⟩⟩⟩⟩⟩⟩⟩⟩⟩⟩⟩⟩⟩⟩⟩⟩⟩⟩⟩⟩⟩⟩⟩
def jcl7 : List (Nat × Nat × Nat × Nat) := [(194, 92, 3, 0), (198, 94, 1, 0), (202, 95, 5, 0), (206, 93, 1, 0), (253, 114, 1, 0), (250, 113, 1, 0), (244, 112, 1, 0), (209, 101, 0, 0), (240, 103, 2, 0), (213, 102, 1, 0), (228, 105, 0, 0), (216, 104, 0, 0), (247, 111, 1, 0), (234, 110, 0, 0), (224, 109, 1, 0), (220, 106, 1, 0), (231, 107, 0, 0), (237, 108, 1, 0), (288, 128, 1, 0), (285, 127, 1, 0), (279, 125, 1, 0), (276, 124, 1, 0), (282, 126, 1, 0), (266, 120, 1, 0), (262, 118, 2, 0), (256, 116, 0, 0), (259, 117, 0, 0), (292, 129, 1, 0), (295, 123, 2, 0), (273, 122, 3, 0), (269, 121, 3, 0), (298, 132, 1, 0), (301, 133, 1, 0), (304, 119, 0, 0), (307, 131, 0, 0), (310, 135, 0, 0), (314, 137, 0, 0), (317, 138, 0, 0), (323, 141, 1, 0), (320, 140, 0, 0), (326, 143, 2, 0), (330, 149, 1, 0), (333, 151, 0, 0), (336, 153, 0, 0), (339, 156, 1, 0), (347, 160, 2, 0), (350, 159, 3, 0), (342, 158, 2, 0), (354, 180, 1, 0), (363, 170, 2, 0), (357, 168, 1, 0), (360, 169, 2, 0), (372, 173, 2, 0), (369, 172, 2, 0), (366, 171, 2, 0), (378, 175, 2, 0), (375, 174, 2, 0), (381, 182, 2, 0)]
set_option maxRecDepth 100000 in
theorem jcl7_ok : ∀ e ∈ jcl7, jclP RX7 e := List.forall_mem_cons.mpr ⟨⟨m_X7_in, rfl, cl_7_194, by decide +kernel, fun _ => vi_X7_in, fun z => absurd z (by decide), fun z => absurd z (by decide)⟩, List.forall_mem_cons.mpr ⟨⟨m_X7_isDay, rfl, cl_7_198, by decide +kernel, fun _ => vi_X7_isDay, fun z => absurd z (by decide), fun z => absurd z (by decide)⟩, List.forall_mem_cons.mpr ⟨⟨m_X7_lay, rfl, cl_7_202, by decide +kernel, fun _ => vi_X7_lay, fun z => absurd z (by decide), fun z => absurd z (by decide)⟩, List.forall_mem_cons.mpr ⟨⟨m_X7_isPerson, rfl, cl_7_206, by decide +kernel, fun _ => vi_X7_isPerson, fun z => absurd z (by decide), fun z => absurd z (by decide)⟩, List.forall_mem_cons.mpr ⟨⟨m_X7_goesText, rfl, cl_7_253, by decide +kernel, fun _ => vi_X7_goesText, fun z => absurd z (by decide), fun z => absurd z (by decide)⟩, List.forall_mem_cons.mpr ⟨⟨m_X7_takesClause, rfl, cl_7_250, by decide +kernel, fun _ => vi_X7_takesClause, fun z => absurd z (by decide), fun z => absurd z (by decide)⟩, List.forall_mem_cons.mpr ⟨⟨m_X7_takesHead, rfl, cl_7_244, by decide +kernel, fun _ => vi_X7_takesHead, fun z => absurd z (by decide), fun z => absurd z (by decide)⟩, List.forall_mem_cons.mpr ⟨⟨m_X7_next, rfl, cl_7_209, by decide +kernel, fun _ => vi_X7_next, fun z => absurd z (by decide), fun z => absurd z (by decide)⟩, List.forall_mem_cons.mpr ⟨⟨m_X7_takesWord, rfl, cl_7_240, by decide +kernel, fun _ => vi_X7_takesWord, fun z => absurd z (by decide), fun z => absurd z (by decide)⟩, List.forall_mem_cons.mpr ⟨⟨m_X7_takes, rfl, cl_7_213, by decide +kernel, fun _ => vi_X7_takes, fun z => absurd z (by decide), fun z => absurd z (by decide)⟩, List.forall_mem_cons.mpr ⟨⟨m_X7_takesNumber, rfl, cl_7_228, by decide +kernel, fun _ => vi_X7_takesNumber, fun z => absurd z (by decide), fun z => absurd z (by decide)⟩, List.forall_mem_cons.mpr ⟨⟨m_X7_isDigit, rfl, cl_7_216, by decide +kernel, fun _ => vi_X7_isDigit, fun z => absurd z (by decide), fun z => absurd z (by decide)⟩, List.forall_mem_cons.mpr ⟨⟨m_X7_takesE, rfl, cl_7_247, by decide +kernel, fun _ => vi_X7_takesE, fun z => absurd z (by decide), fun z => absurd z (by decide)⟩, List.forall_mem_cons.mpr ⟨⟨m_X7_takesTest, rfl, cl_7_234, by decide +kernel, fun _ => vi_X7_takesTest, fun z => absurd z (by decide), fun z => absurd z (by decide)⟩, List.forall_mem_cons.mpr ⟨⟨m_X7_place, rfl, cl_7_224, by decide +kernel, fun _ => vi_X7_place, fun z => absurd z (by decide), fun z => absurd z (by decide)⟩, List.forall_mem_cons.mpr ⟨⟨m_X7_emits, rfl, cl_7_220, by decide +kernel, fun _ => vi_X7_emits, fun z => absurd z (by decide), fun z => absurd z (by decide)⟩, List.forall_mem_cons.mpr ⟨⟨m_X7_whole, rfl, cl_7_231, by decide +kernel, fun _ => vi_X7_whole, fun z => absurd z (by decide), fun z => absurd z (by decide)⟩, List.forall_mem_cons.mpr ⟨⟨m_X7_settle, rfl, cl_7_237, by decide +kernel, fun _ => vi_X7_settle, fun z => absurd z (by decide), fun z => absurd z (by decide)⟩, List.forall_mem_cons.mpr ⟨⟨m_X7_sells, rfl, cl_7_288, by decide +kernel, fun _ => vi_X7_sells, fun z => absurd z (by decide), fun z => absurd z (by decide)⟩, List.forall_mem_cons.mpr ⟨⟨m_X7_wishedDay, rfl, cl_7_285, by decide +kernel, fun _ => vi_X7_wishedDay, fun z => absurd z (by decide), fun z => absurd z (by decide)⟩, List.forall_mem_cons.mpr ⟨⟨m_X7_behindHated, rfl, cl_7_279, by decide +kernel, fun _ => vi_X7_behindHated, fun z => absurd z (by decide), fun z => absurd z (by decide)⟩, List.forall_mem_cons.mpr ⟨⟨m_X7_thatOne, rfl, cl_7_276, by decide +kernel, fun _ => vi_X7_thatOne, fun z => absurd z (by decide), fun z => absurd z (by decide)⟩, List.forall_mem_cons.mpr ⟨⟨m_X7_shunned, rfl, cl_7_282, by decide +kernel, fun _ => vi_X7_shunned, fun z => absurd z (by decide), fun z => absurd z (by decide)⟩, List.forall_mem_cons.mpr ⟨⟨m_X7_manyBorn, rfl, cl_7_266, by decide +kernel, fun _ => vi_X7_manyBorn, fun z => absurd z (by decide), fun z => absurd z (by decide)⟩, List.forall_mem_cons.mpr ⟨⟨m_X7_lastOf, rfl, cl_7_262, by decide +kernel, fun _ => vi_X7_lastOf, fun z => absurd z (by decide), fun z => absurd z (by decide)⟩, List.forall_mem_cons.mpr ⟨⟨m_X7_clauseFrom, rfl, cl_7_256, by decide +kernel, fun _ => vi_X7_clauseFrom, fun z => absurd z (by decide), fun z => absurd z (by decide)⟩, List.forall_mem_cons.mpr ⟨⟨m_X7_clauseTo, rfl, cl_7_259, by decide +kernel, fun _ => vi_X7_clauseTo, fun z => absurd z (by decide), fun z => absurd z (by decide)⟩, List.forall_mem_cons.mpr ⟨⟨m_X7_putOff, rfl, cl_7_292, by decide +kernel, fun _ => vi_X7_putOff, fun z => absurd z (by decide), fun z => absurd z (by decide)⟩, List.forall_mem_cons.mpr ⟨⟨m_X7_takesOf, rfl, cl_7_295, by decide +kernel, fun _ => vi_X7_takesOf, fun z => absurd z (by decide), fun z => absurd z (by decide)⟩, List.forall_mem_cons.mpr ⟨⟨m_X7_holds, rfl, cl_7_273, by decide +kernel, fun _ => vi_X7_holds, fun z => absurd z (by decide), fun z => absurd z (by decide)⟩, List.forall_mem_cons.mpr ⟨⟨m_X7_factOf, rfl, cl_7_269, by decide +kernel, fun _ => vi_X7_factOf, fun z => absurd z (by decide), fun z => absurd z (by decide)⟩, List.forall_mem_cons.mpr ⟨⟨m_X7_bornOn, rfl, cl_7_298, by decide +kernel, fun _ => vi_X7_bornOn, fun z => absurd z (by decide), fun z => absurd z (by decide)⟩, List.forall_mem_cons.mpr ⟨⟨m_X7_sellOn, rfl, cl_7_301, by decide +kernel, fun _ => vi_X7_sellOn, fun z => absurd z (by decide), fun z => absurd z (by decide)⟩, List.forall_mem_cons.mpr ⟨⟨m_X7_dueNow, rfl, cl_7_304, by decide +kernel, fun _ => vi_X7_dueNow, fun z => absurd z (by decide), fun z => absurd z (by decide)⟩, List.forall_mem_cons.mpr ⟨⟨m_X7_allPurses, rfl, cl_7_307, by decide +kernel, fun _ => vi_X7_allPurses, fun z => absurd z (by decide), fun z => absurd z (by decide)⟩, List.forall_mem_cons.mpr ⟨⟨m_X7_goDay, rfl, cl_7_310, by decide +kernel, fun _ => vi_X7_goDay, fun z => absurd z (by decide), fun z => absurd z (by decide)⟩, List.forall_mem_cons.mpr ⟨⟨m_X7_keep, rfl, cl_7_314, by decide +kernel, fun _ => vi_X7_keep, fun z => absurd z (by decide), fun z => absurd z (by decide)⟩, List.forall_mem_cons.mpr ⟨⟨m_X7_putBack, rfl, cl_7_317, by decide +kernel, fun _ => vi_X7_putBack, fun z => absurd z (by decide), fun z => absurd z (by decide)⟩, List.forall_mem_cons.mpr ⟨⟨m_X7_yearOf, rfl, cl_7_323, by decide +kernel, fun _ => vi_X7_yearOf, fun z => absurd z (by decide), fun z => absurd z (by decide)⟩, List.forall_mem_cons.mpr ⟨⟨m_X7_layYear, rfl, cl_7_320, by decide +kernel, fun _ => vi_X7_layYear, fun z => absurd z (by decide), fun z => absurd z (by decide)⟩, List.forall_mem_cons.mpr ⟨⟨m_X7_layBest, rfl, cl_7_326, by decide +kernel, fun _ => vi_X7_layBest, fun z => absurd z (by decide), fun z => absurd z (by decide)⟩, List.forall_mem_cons.mpr ⟨⟨m_X7_wouldChange, rfl, cl_7_330, by decide +kernel, fun _ => vi_X7_wouldChange, fun z => absurd z (by decide), fun z => absurd z (by decide)⟩, List.forall_mem_cons.mpr ⟨⟨m_X7_layRest, rfl, cl_7_333, by decide +kernel, fun _ => vi_X7_layRest, fun z => absurd z (by decide), fun z => absurd z (by decide)⟩, List.forall_mem_cons.mpr ⟨⟨m_X7_allMore, rfl, cl_7_336, by decide +kernel, fun _ => vi_X7_allMore, fun z => absurd z (by decide), fun z => absurd z (by decide)⟩, List.forall_mem_cons.mpr ⟨⟨m_X7_othersMore, rfl, cl_7_339, by decide +kernel, fun _ => vi_X7_othersMore, fun z => absurd z (by decide), fun z => absurd z (by decide)⟩, List.forall_mem_cons.mpr ⟨⟨m_X7_yearIf, rfl, cl_7_347, by decide +kernel, fun _ => vi_X7_yearIf, fun z => absurd z (by decide), fun z => absurd z (by decide)⟩, List.forall_mem_cons.mpr ⟨⟨m_X7_lowest, rfl, cl_7_350, by decide +kernel, fun _ => vi_X7_lowest, fun z => absurd z (by decide), fun z => absurd z (by decide)⟩, List.forall_mem_cons.mpr ⟨⟨m_X7_divisor, rfl, cl_7_342, by decide +kernel, fun _ => vi_X7_divisor, fun z => absurd z (by decide), fun z => absurd z (by decide)⟩, List.forall_mem_cons.mpr ⟨⟨m_X7_isTape, rfl, cl_7_354, by decide +kernel, fun _ => vi_X7_isTape, fun z => absurd z (by decide), fun z => absurd z (by decide)⟩, List.forall_mem_cons.mpr ⟨⟨m_X7_sellsAct, rfl, cl_7_363, by decide +kernel, fun _ => vi_X7_sellsAct, fun z => absurd z (by decide), fun z => absurd z (by decide)⟩, List.forall_mem_cons.mpr ⟨⟨m_X7_body, rfl, cl_7_357, by decide +kernel, fun _ => vi_X7_body, fun z => absurd z (by decide), fun z => absurd z (by decide)⟩, List.forall_mem_cons.mpr ⟨⟨m_X7_sellerSells, rfl, cl_7_360, by decide +kernel, fun _ => vi_X7_sellerSells, fun z => absurd z (by decide), fun z => absurd z (by decide)⟩, List.forall_mem_cons.mpr ⟨⟨m_X7_givesAct, rfl, cl_7_372, by decide +kernel, fun _ => vi_X7_givesAct, fun z => absurd z (by decide), fun z => absurd z (by decide)⟩, List.forall_mem_cons.mpr ⟨⟨m_X7_haterGives, rfl, cl_7_369, by decide +kernel, fun _ => vi_X7_haterGives, fun z => absurd z (by decide), fun z => absurd z (by decide)⟩, List.forall_mem_cons.mpr ⟨⟨m_X7_sellerGives, rfl, cl_7_366, by decide +kernel, fun _ => vi_X7_sellerGives, fun z => absurd z (by decide), fun z => absurd z (by decide)⟩, List.forall_mem_cons.mpr ⟨⟨m_X7_tellsAct, rfl, cl_7_378, by decide +kernel, fun _ => vi_X7_tellsAct, fun z => absurd z (by decide), fun z => absurd z (by decide)⟩, List.forall_mem_cons.mpr ⟨⟨m_X7_sellerTells, rfl, cl_7_375, by decide +kernel, fun _ => vi_X7_sellerTells, fun z => absurd z (by decide), fun z => absurd z (by decide)⟩, List.forall_mem_cons.mpr ⟨⟨m_X7_narrow, rfl, cl_7_381, by decide +kernel, fun _ => vi_X7_narrow, fun z => absurd z (by decide), fun z => absurd z (by decide)⟩, fun _ h => absurd h List.not_mem_nil⟩⟩⟩⟩⟩⟩⟩⟩⟩⟩⟩⟩⟩⟩⟩⟩⟩⟩⟩⟩⟩⟩⟩⟩⟩⟩⟩⟩⟩⟩⟩⟩⟩⟩⟩⟩⟩⟩⟩⟩⟩⟩⟩⟩⟩⟩⟩⟩⟩⟩⟩⟩⟩⟩⟩⟩⟩⟩
def jfd7 : List (Nat × Nat × Nat) := [(7, 7, 0), (13, 7, 1), (16, 7, 2), (19, 7, 3), (23, 7, 4), (26, 7, 5), (29, 7, 6), (32, 7, 7), (35, 7, 8), (38, 7, 9), (42, 7, 10), (45, 7, 11), (48, 7, 12), (51, 7, 13), (54, 7, 14), (57, 7, 15), (60, 7, 16), (63, 7, 17), (66, 7, 18), (69, 7, 19), (72, 7, 20), (75, 7, 21), (78, 7, 22), (81, 7, 23), (84, 7, 24), (87, 7, 25), (90, 7, 26), (93, 7, 27), (96, 7, 28), (99, 7, 29), (102, 7, 30), (105, 7, 31), (108, 7, 32), (111, 7, 33), (114, 7, 34), (117, 7, 35), (120, 7, 36), (123, 7, 37), (126, 7, 38), (129, 7, 39), (132, 7, 40), (136, 7, 41), (139, 7, 42), (142, 7, 43), (145, 7, 44), (148, 7, 45), (151, 7, 46), (154, 7, 47), (157, 7, 48), (160, 7, 49), (163, 7, 50), (166, 7, 51), (169, 7, 52), (172, 7, 53), (175, 7, 54), (178, 7, 55), (181, 7, 56), (184, 7, 57), (187, 7, 58), (191, 7, 59)]
set_option maxRecDepth 100000 in
theorem jfd7_ok : ∀ e ∈ jfd7, jFl RX7 e.1 e.2.1 e.2.2 := List.forall_mem_cons.mpr ⟨fl_7_7, List.forall_mem_cons.mpr ⟨fl_7_13, List.forall_mem_cons.mpr ⟨fl_7_16, List.forall_mem_cons.mpr ⟨fl_7_19, List.forall_mem_cons.mpr ⟨fl_7_23, List.forall_mem_cons.mpr ⟨fl_7_26, List.forall_mem_cons.mpr ⟨fl_7_29, List.forall_mem_cons.mpr ⟨fl_7_32, List.forall_mem_cons.mpr ⟨fl_7_35, List.forall_mem_cons.mpr ⟨fl_7_38, List.forall_mem_cons.mpr ⟨fl_7_42, List.forall_mem_cons.mpr ⟨fl_7_45, List.forall_mem_cons.mpr ⟨fl_7_48, List.forall_mem_cons.mpr ⟨fl_7_51, List.forall_mem_cons.mpr ⟨fl_7_54, List.forall_mem_cons.mpr ⟨fl_7_57, List.forall_mem_cons.mpr ⟨fl_7_60, List.forall_mem_cons.mpr ⟨fl_7_63, List.forall_mem_cons.mpr ⟨fl_7_66, List.forall_mem_cons.mpr ⟨fl_7_69, List.forall_mem_cons.mpr ⟨fl_7_72, List.forall_mem_cons.mpr ⟨fl_7_75, List.forall_mem_cons.mpr ⟨fl_7_78, List.forall_mem_cons.mpr ⟨fl_7_81, List.forall_mem_cons.mpr ⟨fl_7_84, List.forall_mem_cons.mpr ⟨fl_7_87, List.forall_mem_cons.mpr ⟨fl_7_90, List.forall_mem_cons.mpr ⟨fl_7_93, List.forall_mem_cons.mpr ⟨fl_7_96, List.forall_mem_cons.mpr ⟨fl_7_99, List.forall_mem_cons.mpr ⟨fl_7_102, List.forall_mem_cons.mpr ⟨fl_7_105, List.forall_mem_cons.mpr ⟨fl_7_108, List.forall_mem_cons.mpr ⟨fl_7_111, List.forall_mem_cons.mpr ⟨fl_7_114, List.forall_mem_cons.mpr ⟨fl_7_117, List.forall_mem_cons.mpr ⟨fl_7_120, List.forall_mem_cons.mpr ⟨fl_7_123, List.forall_mem_cons.mpr ⟨fl_7_126, List.forall_mem_cons.mpr ⟨fl_7_129, List.forall_mem_cons.mpr ⟨fl_7_132, List.forall_mem_cons.mpr ⟨fl_7_136, List.forall_mem_cons.mpr ⟨fl_7_139, List.forall_mem_cons.mpr ⟨fl_7_142, List.forall_mem_cons.mpr ⟨fl_7_145, List.forall_mem_cons.mpr ⟨fl_7_148, List.forall_mem_cons.mpr ⟨fl_7_151, List.forall_mem_cons.mpr ⟨fl_7_154, List.forall_mem_cons.mpr ⟨fl_7_157, List.forall_mem_cons.mpr ⟨fl_7_160, List.forall_mem_cons.mpr ⟨fl_7_163, List.forall_mem_cons.mpr ⟨fl_7_166, List.forall_mem_cons.mpr ⟨fl_7_169, List.forall_mem_cons.mpr ⟨fl_7_172, List.forall_mem_cons.mpr ⟨fl_7_175, List.forall_mem_cons.mpr ⟨fl_7_178, List.forall_mem_cons.mpr ⟨fl_7_181, List.forall_mem_cons.mpr ⟨fl_7_184, List.forall_mem_cons.mpr ⟨fl_7_187, List.forall_mem_cons.mpr ⟨fl_7_191, fun _ h => absurd h List.not_mem_nil⟩⟩⟩⟩⟩⟩⟩⟩⟩⟩⟩⟩⟩⟩⟩⟩⟩⟩⟩⟩⟩⟩⟩⟩⟩⟩⟩⟩⟩⟩⟩⟩⟩⟩⟩⟩⟩⟩⟩⟩⟩⟩⟩⟩⟩⟩⟩⟩⟩⟩⟩⟩⟩⟩⟩⟩⟩⟩⟩⟩
def jcl8 : List (Nat × Nat × Nat × Nat) := [(9, 41, 0, 1), (13, 42, 4, 0), (18, 43, 2, 0), (23, 44, 3, 0), (28, 45, 2, 0), (33, 46, 3, 0), (37, 47, 1, 0), (42, 48, 0, 0), (47, 49, 1, 0), (51, 50, 0, 0), (55, 51, 3, 0), (59, 52, 1, 0), (63, 53, 2, 0), (67, 54, 2, 0), (71, 55, 0, 0), (75, 56, 2, 0), (79, 57, 1, 0), (83, 58, 1, 0), (87, 59, 1, 0), (91, 60, 1, 0), (95, 61, 1, 0), (99, 62, 1, 0), (103, 63, 3, 0), (108, 64, 1, 0), (113, 65, 1, 0), (117, 66, 1, 0), (121, 67, 2, 0), (125, 68, 0, 0), (129, 69, 0, 0), (133, 70, 3, 0), (137, 71, 1, 0), (141, 72, 2, 0), (145, 73, 1, 0), (149, 74, 3, 0), (155, 75, 3, 0), (160, 76, 2, 0), (165, 77, 5, 0), (12, 91, 0, 1), (17, 96, 4, 0), (27, 97, 3, 0), (32, 98, 2, 0), (36, 99, 3, 0), (41, 100, 1, 0), (46, 115, 0, 0), (22, 130, 2, 0), (50, 134, 1, 0), (54, 136, 0, 0), (58, 139, 3, 0), (62, 142, 1, 0), (66, 144, 2, 0), (70, 145, 2, 0), (74, 146, 0, 0), (78, 147, 2, 0), (82, 148, 1, 0), (86, 150, 1, 0), (90, 152, 1, 0), (94, 154, 1, 0), (98, 155, 1, 0), (102, 157, 1, 0), (107, 161, 3, 0), (112, 162, 1, 0), (116, 163, 1, 0), (120, 164, 1, 0), (124, 165, 2, 0), (128, 166, 0, 0), (132, 167, 0, 0), (136, 176, 3, 0), (140, 177, 1, 0), (144, 178, 2, 0), (148, 179, 1, 0), (152, 181, 3, 0), (159, 183, 3, 0), (164, 184, 2, 0), (169, 185, 5, 0)]
set_option maxRecDepth 100000 in
theorem jcl8_ok : ∀ e ∈ jcl8, jclP RL e := List.forall_mem_cons.mpr ⟨⟨m_X6_init, rfl, cl_8_9, by decide +kernel, fun z => absurd z (by decide), fun _ => in_X6_init, fun z => absurd z (by decide)⟩, List.forall_mem_cons.mpr ⟨⟨m_X6_person, rfl, cl_8_13, by decide +kernel, fun _ => vi_X6_person, fun z => absurd z (by decide), fun z => absurd z (by decide)⟩, List.forall_mem_cons.mpr ⟨⟨m_X6_of, rfl, cl_8_18, by decide +kernel, fun _ => vi_X6_of, fun z => absurd z (by decide), fun z => absurd z (by decide)⟩, List.forall_mem_cons.mpr ⟨⟨m_X6_set, rfl, cl_8_23, by decide +kernel, fun _ => vi_X6_set, fun z => absurd z (by decide), fun z => absurd z (by decide)⟩, List.forall_mem_cons.mpr ⟨⟨m_X6_there, rfl, cl_8_28, by decide +kernel, fun _ => vi_X6_there, fun z => absurd z (by decide), fun z => absurd z (by decide)⟩, List.forall_mem_cons.mpr ⟨⟨m_X6_row, rfl, cl_8_33, by decide +kernel, fun _ => vi_X6_row, fun z => absurd z (by decide), fun z => absurd z (by decide)⟩, List.forall_mem_cons.mpr ⟨⟨m_X6_feed, rfl, cl_8_37, by decide +kernel, fun _ => vi_X6_feed, fun z => absurd z (by decide), fun z => absurd z (by decide)⟩, List.forall_mem_cons.mpr ⟨⟨m_X6_town, rfl, cl_8_42, by decide +kernel, fun _ => vi_X6_town, fun z => absurd z (by decide), fun z => absurd z (by decide)⟩, List.forall_mem_cons.mpr ⟨⟨m_X6_told, rfl, cl_8_47, by decide +kernel, fun _ => vi_X6_told, fun z => absurd z (by decide), fun z => absurd z (by decide)⟩, List.forall_mem_cons.mpr ⟨⟨m_X6_day, rfl, cl_8_51, by decide +kernel, fun _ => vi_X6_day, fun z => absurd z (by decide), fun z => absurd z (by decide)⟩, List.forall_mem_cons.mpr ⟨⟨m_X6_by, rfl, cl_8_55, by decide +kernel, fun _ => vi_X6_by, fun z => absurd z (by decide), fun z => absurd z (by decide)⟩, List.forall_mem_cons.mpr ⟨⟨m_X6_years, rfl, cl_8_59, by decide +kernel, fun _ => vi_X6_years, fun z => absurd z (by decide), fun z => absurd z (by decide)⟩, List.forall_mem_cons.mpr ⟨⟨m_X6_birth, rfl, cl_8_63, by decide +kernel, fun _ => vi_X6_birth, fun z => absurd z (by decide), fun z => absurd z (by decide)⟩, List.forall_mem_cons.mpr ⟨⟨m_X6_plan, rfl, cl_8_67, by decide +kernel, fun _ => vi_X6_plan, fun z => absurd z (by decide), fun z => absurd z (by decide)⟩, List.forall_mem_cons.mpr ⟨⟨m_X6_quiet, rfl, cl_8_71, by decide +kernel, fun _ => vi_X6_quiet, fun z => absurd z (by decide), fun z => absurd z (by decide)⟩, List.forall_mem_cons.mpr ⟨⟨m_X6_foundling, rfl, cl_8_75, by decide +kernel, fun _ => vi_X6_foundling, fun z => absurd z (by decide), fun z => absurd z (by decide)⟩, List.forall_mem_cons.mpr ⟨⟨m_X6_forged, rfl, cl_8_79, by decide +kernel, fun _ => vi_X6_forged, fun z => absurd z (by decide), fun z => absurd z (by decide)⟩, List.forall_mem_cons.mpr ⟨⟨m_X6_change, rfl, cl_8_83, by decide +kernel, fun _ => vi_X6_change, fun z => absurd z (by decide), fun z => absurd z (by decide)⟩, List.forall_mem_cons.mpr ⟨⟨m_X6_rest, rfl, cl_8_87, by decide +kernel, fun _ => vi_X6_rest, fun z => absurd z (by decide), fun z => absurd z (by decide)⟩, List.forall_mem_cons.mpr ⟨⟨m_X6_reckoning, rfl, cl_8_91, by decide +kernel, fun _ => vi_X6_reckoning, fun z => absurd z (by decide), fun z => absurd z (by decide)⟩, List.forall_mem_cons.mpr ⟨⟨m_X6_high, rfl, cl_8_95, by decide +kernel, fun _ => vi_X6_high, fun z => absurd z (by decide), fun z => absurd z (by decide)⟩, List.forall_mem_cons.mpr ⟨⟨m_X6_last, rfl, cl_8_99, by decide +kernel, fun _ => vi_X6_last, fun z => absurd z (by decide), fun z => absurd z (by decide)⟩, List.forall_mem_cons.mpr ⟨⟨m_X6_odds, rfl, cl_8_103, by decide +kernel, fun _ => vi_X6_odds, fun z => absurd z (by decide), fun z => absurd z (by decide)⟩, List.forall_mem_cons.mpr ⟨⟨m_X6_mean, rfl, cl_8_108, by decide +kernel, fun _ => vi_X6_mean, fun z => absurd z (by decide), fun z => absurd z (by decide)⟩, List.forall_mem_cons.mpr ⟨⟨m_X6_book, rfl, cl_8_113, by decide +kernel, fun _ => vi_X6_book, fun z => absurd z (by decide), fun z => absurd z (by decide)⟩, List.forall_mem_cons.mpr ⟨⟨m_X6_looked, rfl, cl_8_117, by decide +kernel, fun _ => vi_X6_looked, fun z => absurd z (by decide), fun z => absurd z (by decide)⟩, List.forall_mem_cons.mpr ⟨⟨m_X6_judge, rfl, cl_8_121, by decide +kernel, fun _ => vi_X6_judge, fun z => absurd z (by decide), fun z => absurd z (by decide)⟩, List.forall_mem_cons.mpr ⟨⟨m_X6_image, rfl, cl_8_125, by decide +kernel, fun _ => vi_X6_image, fun z => absurd z (by decide), fun z => absurd z (by decide)⟩, List.forall_mem_cons.mpr ⟨⟨m_X6_undo, rfl, cl_8_129, by decide +kernel, fun _ => vi_X6_undo, fun z => absurd z (by decide), fun z => absurd z (by decide)⟩, List.forall_mem_cons.mpr ⟨⟨m_X6_act, rfl, cl_8_133, by decide +kernel, fun _ => vi_X6_act, fun z => absurd z (by decide), fun z => absurd z (by decide)⟩, List.forall_mem_cons.mpr ⟨⟨m_X6_trace, rfl, cl_8_137, by decide +kernel, fun _ => vi_X6_trace, fun z => absurd z (by decide), fun z => absurd z (by decide)⟩, List.forall_mem_cons.mpr ⟨⟨m_X6_taken, rfl, cl_8_141, by decide +kernel, fun _ => vi_X6_taken, fun z => absurd z (by decide), fun z => absurd z (by decide)⟩, List.forall_mem_cons.mpr ⟨⟨m_X6_count, rfl, cl_8_145, by decide +kernel, fun _ => vi_X6_count, fun z => absurd z (by decide), fun z => absurd z (by decide)⟩, List.forall_mem_cons.mpr ⟨⟨m_X6_tape, rfl, cl_8_149, by decide +kernel, fun _ => vi_X6_tape, fun z => absurd z (by decide), fun z => absurd z (by decide)⟩, List.forall_mem_cons.mpr ⟨⟨m_X6_item, rfl, cl_8_155, by decide +kernel, fun _ => vi_X6_item, fun z => absurd z (by decide), fun z => absurd z (by decide)⟩, List.forall_mem_cons.mpr ⟨⟨m_X6_read, rfl, cl_8_160, by decide +kernel, fun _ => vi_X6_read, fun z => absurd z (by decide), fun z => absurd z (by decide)⟩, List.forall_mem_cons.mpr ⟨⟨m_X6_shift, rfl, cl_8_165, by decide +kernel, fun _ => vi_X6_shift, fun z => absurd z (by decide), fun z => absurd z (by decide)⟩, List.forall_mem_cons.mpr ⟨⟨m_X7_init, rfl, cl_8_12, by decide +kernel, fun z => absurd z (by decide), fun _ => in_X7_init, fun z => absurd z (by decide)⟩, List.forall_mem_cons.mpr ⟨⟨m_X7_person, rfl, cl_8_17, by decide +kernel, fun _ => vi_X7_person, fun z => absurd z (by decide), fun z => absurd z (by decide)⟩, List.forall_mem_cons.mpr ⟨⟨m_X7_set, rfl, cl_8_27, by decide +kernel, fun _ => vi_X7_set, fun z => absurd z (by decide), fun z => absurd z (by decide)⟩, List.forall_mem_cons.mpr ⟨⟨m_X7_there, rfl, cl_8_32, by decide +kernel, fun _ => vi_X7_there, fun z => absurd z (by decide), fun z => absurd z (by decide)⟩, List.forall_mem_cons.mpr ⟨⟨m_X7_row, rfl, cl_8_36, by decide +kernel, fun _ => vi_X7_row, fun z => absurd z (by decide), fun z => absurd z (by decide)⟩, List.forall_mem_cons.mpr ⟨⟨m_X7_feed, rfl, cl_8_41, by decide +kernel, fun _ => vi_X7_feed, fun z => absurd z (by decide), fun z => absurd z (by decide)⟩, List.forall_mem_cons.mpr ⟨⟨m_X7_town, rfl, cl_8_46, by decide +kernel, fun _ => vi_X7_town, fun z => absurd z (by decide), fun z => absurd z (by decide)⟩, List.forall_mem_cons.mpr ⟨⟨m_X7_of, rfl, cl_8_22, by decide +kernel, fun _ => vi_X7_of, fun z => absurd z (by decide), fun z => absurd z (by decide)⟩, List.forall_mem_cons.mpr ⟨⟨m_X7_told, rfl, cl_8_50, by decide +kernel, fun _ => vi_X7_told, fun z => absurd z (by decide), fun z => absurd z (by decide)⟩, List.forall_mem_cons.mpr ⟨⟨m_X7_day, rfl, cl_8_54, by decide +kernel, fun _ => vi_X7_day, fun z => absurd z (by decide), fun z => absurd z (by decide)⟩, List.forall_mem_cons.mpr ⟨⟨m_X7_by, rfl, cl_8_58, by decide +kernel, fun _ => vi_X7_by, fun z => absurd z (by decide), fun z => absurd z (by decide)⟩, List.forall_mem_cons.mpr ⟨⟨m_X7_years, rfl, cl_8_62, by decide +kernel, fun _ => vi_X7_years, fun z => absurd z (by decide), fun z => absurd z (by decide)⟩, List.forall_mem_cons.mpr ⟨⟨m_X7_birth, rfl, cl_8_66, by decide +kernel, fun _ => vi_X7_birth, fun z => absurd z (by decide), fun z => absurd z (by decide)⟩, List.forall_mem_cons.mpr ⟨⟨m_X7_plan, rfl, cl_8_70, by decide +kernel, fun _ => vi_X7_plan, fun z => absurd z (by decide), fun z => absurd z (by decide)⟩, List.forall_mem_cons.mpr ⟨⟨m_X7_quiet, rfl, cl_8_74, by decide +kernel, fun _ => vi_X7_quiet, fun z => absurd z (by decide), fun z => absurd z (by decide)⟩, List.forall_mem_cons.mpr ⟨⟨m_X7_foundling, rfl, cl_8_78, by decide +kernel, fun _ => vi_X7_foundling, fun z => absurd z (by decide), fun z => absurd z (by decide)⟩, List.forall_mem_cons.mpr ⟨⟨m_X7_forged, rfl, cl_8_82, by decide +kernel, fun _ => vi_X7_forged, fun z => absurd z (by decide), fun z => absurd z (by decide)⟩, List.forall_mem_cons.mpr ⟨⟨m_X7_change, rfl, cl_8_86, by decide +kernel, fun _ => vi_X7_change, fun z => absurd z (by decide), fun z => absurd z (by decide)⟩, List.forall_mem_cons.mpr ⟨⟨m_X7_rest, rfl, cl_8_90, by decide +kernel, fun _ => vi_X7_rest, fun z => absurd z (by decide), fun z => absurd z (by decide)⟩, List.forall_mem_cons.mpr ⟨⟨m_X7_reckoning, rfl, cl_8_94, by decide +kernel, fun _ => vi_X7_reckoning, fun z => absurd z (by decide), fun z => absurd z (by decide)⟩, List.forall_mem_cons.mpr ⟨⟨m_X7_high, rfl, cl_8_98, by decide +kernel, fun _ => vi_X7_high, fun z => absurd z (by decide), fun z => absurd z (by decide)⟩, List.forall_mem_cons.mpr ⟨⟨m_X7_last, rfl, cl_8_102, by decide +kernel, fun _ => vi_X7_last, fun z => absurd z (by decide), fun z => absurd z (by decide)⟩, List.forall_mem_cons.mpr ⟨⟨m_X7_odds, rfl, cl_8_107, by decide +kernel, fun _ => vi_X7_odds, fun z => absurd z (by decide), fun z => absurd z (by decide)⟩, List.forall_mem_cons.mpr ⟨⟨m_X7_mean, rfl, cl_8_112, by decide +kernel, fun _ => vi_X7_mean, fun z => absurd z (by decide), fun z => absurd z (by decide)⟩, List.forall_mem_cons.mpr ⟨⟨m_X7_book, rfl, cl_8_116, by decide +kernel, fun _ => vi_X7_book, fun z => absurd z (by decide), fun z => absurd z (by decide)⟩, List.forall_mem_cons.mpr ⟨⟨m_X7_looked, rfl, cl_8_120, by decide +kernel, fun _ => vi_X7_looked, fun z => absurd z (by decide), fun z => absurd z (by decide)⟩, List.forall_mem_cons.mpr ⟨⟨m_X7_judge, rfl, cl_8_124, by decide +kernel, fun _ => vi_X7_judge, fun z => absurd z (by decide), fun z => absurd z (by decide)⟩, List.forall_mem_cons.mpr ⟨⟨m_X7_image, rfl, cl_8_128, by decide +kernel, fun _ => vi_X7_image, fun z => absurd z (by decide), fun z => absurd z (by decide)⟩, List.forall_mem_cons.mpr ⟨⟨m_X7_undo, rfl, cl_8_132, by decide +kernel, fun _ => vi_X7_undo, fun z => absurd z (by decide), fun z => absurd z (by decide)⟩, List.forall_mem_cons.mpr ⟨⟨m_X7_act, rfl, cl_8_136, by decide +kernel, fun _ => vi_X7_act, fun z => absurd z (by decide), fun z => absurd z (by decide)⟩, List.forall_mem_cons.mpr ⟨⟨m_X7_trace, rfl, cl_8_140, by decide +kernel, fun _ => vi_X7_trace, fun z => absurd z (by decide), fun z => absurd z (by decide)⟩, List.forall_mem_cons.mpr ⟨⟨m_X7_taken, rfl, cl_8_144, by decide +kernel, fun _ => vi_X7_taken, fun z => absurd z (by decide), fun z => absurd z (by decide)⟩, List.forall_mem_cons.mpr ⟨⟨m_X7_count, rfl, cl_8_148, by decide +kernel, fun _ => vi_X7_count, fun z => absurd z (by decide), fun z => absurd z (by decide)⟩, List.forall_mem_cons.mpr ⟨⟨m_X7_tape, rfl, cl_8_152, by decide +kernel, fun _ => vi_X7_tape, fun z => absurd z (by decide), fun z => absurd z (by decide)⟩, List.forall_mem_cons.mpr ⟨⟨m_X7_item, rfl, cl_8_159, by decide +kernel, fun _ => vi_X7_item, fun z => absurd z (by decide), fun z => absurd z (by decide)⟩, List.forall_mem_cons.mpr ⟨⟨m_X7_read, rfl, cl_8_164, by decide +kernel, fun _ => vi_X7_read, fun z => absurd z (by decide), fun z => absurd z (by decide)⟩, List.forall_mem_cons.mpr ⟨⟨m_X7_shift, rfl, cl_8_169, by decide +kernel, fun _ => vi_X7_shift, fun z => absurd z (by decide), fun z => absurd z (by decide)⟩, fun _ h => absurd h List.not_mem_nil⟩⟩⟩⟩⟩⟩⟩⟩⟩⟩⟩⟩⟩⟩⟩⟩⟩⟩⟩⟩⟩⟩⟩⟩⟩⟩⟩⟩⟩⟩⟩⟩⟩⟩⟩⟩⟩⟩⟩⟩⟩⟩⟩⟩⟩⟩⟩⟩⟩⟩⟩⟩⟩⟩⟩⟩⟩⟩⟩⟩⟩⟩⟩⟩⟩⟩⟩⟩⟩⟩⟩⟩⟩⟩
def jfd8 : List (Nat × Nat × Nat) := []
set_option maxRecDepth 100000 in
theorem jfd8_ok : ∀ e ∈ jfd8, jFl RL e.1 e.2.1 e.2.2 := fun _ h => absurd h List.not_mem_nil
def jcl (o : Nat) : List (Nat × Nat × Nat × Nat) := match o with
  | 0 => jcl0
  | 1 => jcl1
  | 2 => jcl2
  | 3 => jcl3
  | 4 => jcl4
  | 5 => jcl5
  | 6 => jcl6
  | 7 => jcl7
  | _ => jcl8
def jfd (o : Nat) : List (Nat × Nat × Nat) := match o with
  | 0 => jfd0
  | 1 => jfd1
  | 2 => jfd2
  | 3 => jfd3
  | 4 => jfd4
  | 5 => jfd5
  | 6 => jfd6
  | 7 => jfd7
  | _ => jfd8
theorem jcl_ok (o : Nat) : ∀ e ∈ jcl o, jclP (jR o) e := by
  match o with
  | 0 => exact jcl0_ok
  | 1 => exact jcl1_ok
  | 2 => exact jcl2_ok
  | 3 => exact jcl3_ok
  | 4 => exact jcl4_ok
  | 5 => exact jcl5_ok
  | 6 => exact jcl6_ok
  | 7 => exact jcl7_ok
  | n + 8 => exact jcl8_ok
theorem jfd_ok (o : Nat) : ∀ e ∈ jfd o, jFl (jR o) e.1 e.2.1 e.2.2 := by
  match o with
  | 0 => exact jfd0_ok
  | 1 => exact jfd1_ok
  | 2 => exact jfd2_ok
  | 3 => exact jfd3_ok
  | 4 => exact jfd4_ok
  | 5 => exact jfd5_ok
  | 6 => exact jfd6_ok
  | 7 => exact jfd7_ok
  | n + 8 => exact jfd8_ok
def jlk {β : Type} (i : Nat) : List (Nat × β) → Option β
  | [] => none
  | (j, b) :: l => cond (Nat.beq j i) (some b) (jlk i l)
theorem jlk_mem {β : Type} {i : Nat} : ∀ {l : List (Nat × β)} {b : β}, jlk i l = some b → (i, b) ∈ l
  | (j, b') :: l, b, h => by
    unfold jlk at h
    cases hj : Nat.beq j i with
    | true =>
      rw [hj] at h
      cases h
      rw [Nat.eq_of_beq_eq_true hj]
      exact List.mem_cons_self
    | false =>
      rw [hj] at h
      exact List.mem_cons_of_mem _ (jlk_mem h)
def jnw (o idx : Nat) : Option Nat := match o, idx with
  | 8, 7 => some 6
  | 6, 15 => some 4
  | 6, 22 => some 5
  | 6, 28 => some 0
  | 6, 35 => some 3
  | 6, 42 => some 2
  | 6, 57 => some 1
  | 8, 10 => some 7
  | _, _ => none
theorem jnw_ok {o idx ci : Nat} (h : jnw o idx = some ci) : ∃ q : vw_C, vwCl[ci]? = some q ∧ Cond.classLink (jR o) idx q.1 ∈ jG ∧ Cond.instantiable q.1 q.2.2 ∈ jG ∧ Cond.initialized q.1 ∈ jG := by
  unfold jnw at h
  split at h <;> cases h
  · exact ⟨_, rfl, kl_8_7, is_6, ic_6⟩
  · exact ⟨_, rfl, kl_6_15, is_4, ic_4⟩
  · exact ⟨_, rfl, kl_6_22, is_5, ic_5⟩
  · exact ⟨_, rfl, kl_6_28, is_0, ic_0⟩
  · exact ⟨_, rfl, kl_6_35, is_3, ic_3⟩
  · exact ⟨_, rfl, kl_6_42, is_2, ic_2⟩
  · exact ⟨_, rfl, kl_6_57, is_1, ic_1⟩
  · exact ⟨_, rfl, kl_8_10, is_7, ic_7⟩
def jdf (ci : Nat) : List Value := match ci with
  | 0 => [.null, .int 0, .int 0, .int 0, .int 0]
  | 1 => [.null, .int 0, .int 0, .int 0, .int 0, .null, .null, .null, .null]
  | 2 => [.int 0, .int 0, .int 0, .int 0, .null, .null, .null, .null, .null, .null, .null, .null, .null]
  | 3 => [.int 0, .int 0, .null]
  | 4 => [.null, .int 0, .int 0, .int 0]
  | 5 => [.int 0, .int 0, .int 0, .int 0, .int 0, .null, .null, .null, .null, .null]
  | 6 => [.null, .null, .null, .int 0, .null, .null, .null, .null, .int 0, .null, .null]
  | _ => [.int 0, .int 0, .int 0, .null, .null, .null, .null, .null, .null, .null, .int 0, .int 0, .int 0, .int 0, .int 0, .null, .null, .null, .null, .null, .null, .null, .null, .int 0, .int 0, .int 0, .null, .int 0, .null, .null, .null, .int 0, .int 0, .null, .int 0, .int 0, .null, .null, .int 0, .null, .int 0, .int 0, .int 0, .int 0, .int 0, .int 0, .null, .null, .null, .null, .null, .null, .null, .null, .int 0, .null, .null, .null, .null, .null]
theorem jdf_ok {ci : Nat} {q : vw_C} (hq : vwCl[ci]? = some q) : (∀ j, j < q.2.2 → defaultValue (jty ci j) = vp_V (jdf ci) j) ∧ (∀ sb ad, (jdf ci).map (jV sb ad) = jdf ci) := by
  match ci, hq with
  | 0, hq => cases hq; exact ⟨by decide +kernel, fun _ _ => rfl⟩
  | 1, hq => cases hq; exact ⟨by decide +kernel, fun _ _ => rfl⟩
  | 2, hq => cases hq; exact ⟨by decide +kernel, fun _ _ => rfl⟩
  | 3, hq => cases hq; exact ⟨by decide +kernel, fun _ _ => rfl⟩
  | 4, hq => cases hq; exact ⟨by decide +kernel, fun _ _ => rfl⟩
  | 5, hq => cases hq; exact ⟨by decide +kernel, fun _ _ => rfl⟩
  | 6, hq => cases hq; exact ⟨by decide +kernel, fun _ _ => rfl⟩
  | 7, hq => cases hq; exact ⟨by decide +kernel, fun _ _ => rfl⟩
  | n + 8, hq => simp [vwCl] at hq
def jct (o idx : Nat) : Option Int32 := match o, idx with
  | 6, 82 => some (-10000001)
  | 6, 178 => some (-10000002)
  | 7, 291 => some (-10000001)
  | 7, 313 => some (-10000002)
  | _, _ => none
theorem jct_ok {o idx : Nat} {v : Int32} (h : jct o idx = some v) : Cond.constant (jR o) idx v ∈ jG := by
  unfold jct at h
  split at h <;> cases h
  · exact ct_6_82
  · exact ct_6_178
  · exact ct_7_291
  · exact ct_7_313
def jctl (o idx : Nat) : Option Int64 := match o, idx with
  | 6, 203 => some (-9223372036854775808)
  | 7, 345 => some (-9223372036854775808)
  | 8, 153 => some (4294967295)
  | _, _ => none
theorem jctl_ok {o idx : Nat} {v : Int64} (h : jctl o idx = some v) : Cond.constantLong (jR o) idx v ∈ jG := by
  unfold jctl at h
  split at h <;> cases h
  · exact ctl_6_203
  · exact ctl_7_345
  · exact ctl_8_153
def joi (o : Nat) : Nat := match o with
  | 0 => 3
  | 1 => 3
  | 2 => 3
  | 3 => 3
  | 4 => 3
  | 5 => 3
  | 6 => 3
  | 7 => 1
  | _ => 0
theorem joi_ok {o : Nat} (h : o < 8) : Cond.methodLink (jR o) (joi o) objectInit ∈ jG := by
  match o, h with
  | 0, _ => exact oi_0
  | 1, _ => exact oi_1
  | 2, _ => exact oi_2
  | 3, _ => exact oi_3
  | 4, _ => exact oi_4
  | 5, _ => exact oi_5
  | 6, _ => exact oi_6
  | 7, _ => exact oi_7
  | n + 8, h => omega
def jac (o idx : Nat) : Bool := match o, idx with
  | 2, 54 => true
  | 6, 263 => true
  | _, _ => false
theorem jac_ok {o idx : Nat} (h : jac o idx = true) : Cond.methodLink (jR o) idx arraycopyName ∈ jG := by
  unfold jac at h
  split at h
  · exact ac_2
  · exact ac_6
  · cases h
def jfin (ci k : Nat) : Bool := match vwCl[ci]? with
  | some q => (q.2.1 k).2.2.2
  | none => false
def jFitB (ty : FieldType) (v : Value) : Bool := match ty, v with
  | .int, .int _ => true
  | .boolean, .int x => decide (x = 0 ∨ x = 1)
  | .object _, .ref _ => true
  | .array _, .ref _ => true
  | _, _ => false
theorem jFitB_ok {ty : FieldType} {v : Value} (h : jFitB ty v = true) : jFit ty v := by
  unfold jFitB at h
  split at h
  · trivial
  · rename_i x
    show x = 0 ∨ x = 1
    exact of_decide_eq_true h
  · trivial
  · trivial
  · cases h
