/-! the abstract machine: methods, fields, links by number -/
abbrev vDD : Type := Nat → Nat × Nat × (Nat → Option Nat)
abbrev vMM : Type := Nat → Nat → Int32
abbrev vMD : Type := MethodName × ByteArray × Nat × Option FieldType × Nat × Nat × List Nat
def mym (y : vMD) : MethodName := y.1
def mbc (y : vMD) : ByteArray := y.2.1
def mnl (y : vMD) : Nat := y.2.2.1
def mrt (y : vMD) : Option FieldType := y.2.2.2.1
def mow (y : vMD) : Nat := y.2.2.2.2.1
def mht (y : vMD) : Nat := y.2.2.2.2.2.1
def mll (y : vMD) : List Nat := y.2.2.2.2.2.2
def MX0_init : vMD := (yX0_init, cX0_init, 1, none, 0, 1, [])
def MX0_start : vMD := (yX0_start, cX0_start, 3, none, 0, 1, [])
def MX0_becomeFree : vMD := (yX0_becomeFree, cX0_becomeFree, 1, none, 0, 0, [])
def MX0_canTakeMore : vMD := (yX0_canTakeMore, cX0_canTakeMore, 1, some .boolean, 0, 0, [])
def MX0_copyFrom : vMD := (yX0_copyFrom, cX0_copyFrom, 2, none, 0, 0, [])
def MX1_init : vMD := (yX1_init, cX1_init, 2, none, 1, 3, [])
def MX1_keep : vMD := (yX1_keep, cX1_keep, 2, none, 1, 2, [])
def MX1_dropOldest : vMD := (yX1_dropOldest, cX1_dropOldest, 3, none, 1, 0, [])
def MX1_takeBack : vMD := (yX1_takeBack, cX1_takeBack, 2, none, 1, 2, [])
def MX2_init : vMD := (yX2_init, cX2_init, 2, none, 2, 2, [])
def MX2_copyFrom : vMD := (yX2_copyFrom, cX2_copyFrom, 3, none, 2, 1, [])
def MX2_hasFixer : vMD := (yX2_hasFixer, cX2_hasFixer, 2, some .boolean, 2, 0, [])
def MX2_hasThing : vMD := (yX2_hasThing, cX2_hasThing, 2, some .boolean, 2, 0, [])
def MX2_addFixer : vMD := (yX2_addFixer, cX2_addFixer, 3, some .int, 2, 2, [])
def MX2_addThing : vMD := (yX2_addThing, cX2_addThing, 2, none, 2, 1, [])
def MX2_removeThings : vMD := (yX2_removeThings, cX2_removeThings, 2, none, 2, 1, [])
def MX2_fixersThere : vMD := (yX2_fixersThere, cX2_fixersThere, 3, some .int, 2, 0, [])
def MX2_fixersWith : vMD := (yX2_fixersWith, cX2_fixersWith, 4, some .int, 2, 0, [])
def MX2_freeFixers : vMD := (yX2_freeFixers, cX2_freeFixers, 3, some .int, 2, 1, [])
def MX2_fixerOf : vMD := (yX2_fixerOf, cX2_fixerOf, 3, some .int, 2, 0, [])
def MX2_thingsIn : vMD := (yX2_thingsIn, cX2_thingsIn, 4, some .int, 2, 0, [])
def MX2_isOver : vMD := (yX2_isOver, cX2_isOver, 1, some .boolean, 2, 1, [])
def MX2_thingsFor : vMD := (yX2_thingsFor, cX2_thingsFor, 4, some .int, 2, 3, [])
def MX2_isFor : vMD := (yX2_isFor, cX2_isFor, 3, some .boolean, 2, 2, [])
def MX2_isInStock : vMD := (yX2_isInStock, cX2_isInStock, 2, some .boolean, 2, 0, [])
def MX2_takeIfInStock : vMD := (yX2_takeIfInStock, cX2_takeIfInStock, 4, some .boolean, 2, 2, [])
def MX2_letPass : vMD := (yX2_letPass, cX2_letPass, 3, none, 2, 5, [])
def MX2_letOnePass : vMD := (yX2_letOnePass, cX2_letOnePass, 2, none, 2, 4, [])
def MX2_work : vMD := (yX2_work, cX2_work, 2, none, 2, 2, [])
def MX2_longestWaiting : vMD := (yX2_longestWaiting, cX2_longestWaiting, 5, some .int, 2, 3, [])
def MX2_waitOn : vMD := (yX2_waitOn, cX2_waitOn, 2, none, 2, 1, [])
def MX3_init : vMD := (yX3_init, cX3_init, 2, none, 3, 2, [])
def MX3_signsIn : vMD := (yX3_signsIn, cX3_signsIn, 6, some .int, 3, 1, [0, 2])
def MX3_append : vMD := (yX3_append, cX3_append, 5, none, 3, 0, [1])
def MX3_readThings : vMD := (yX3_readThings, cX3_readThings, 3, some .int, 3, 4, [])
def MX3_placeBehind : vMD := (yX3_placeBehind, cX3_placeBehind, 4, some .int, 3, 3, [])
def MX3_readFirstSkill : vMD := (yX3_readFirstSkill, cX3_readFirstSkill, 2, some .int, 3, 2, [])
def MX3_readSkill : vMD := (yX3_readSkill, cX3_readSkill, 2, some .int, 3, 1, [])
def MX3_readWork : vMD := (yX3_readWork, cX3_readWork, 2, some .int, 3, 2, [])
def MX3_readPart : vMD := (yX3_readPart, cX3_readPart, 2, some .int, 3, 2, [])
def MX3_readWeakness : vMD := (yX3_readWeakness, cX3_readWeakness, 2, some .int, 3, 0, [])
def MX3_placeBehindMark : vMD := (yX3_placeBehindMark, cX3_placeBehindMark, 3, some .int, 3, 0, [])
def MX4_init : vMD := (yX4_init, cX4_init, 1, none, 4, 1, [])
def MX4_lookAt : vMD := (yX4_lookAt, cX4_lookAt, 4, none, 4, 4, [])
def MX4_addFixer : vMD := (yX4_addFixer, cX4_addFixer, 2, none, 4, 0, [])
def MX4_mostServed : vMD := (yX4_mostServed, cX4_mostServed, 10, some .int, 4, 1, [])
def MX4_makePlan : vMD := (yX4_makePlan, cX4_makePlan, 6, none, 4, 5, [])
def MX4_lowestFor : vMD := (yX4_lowestFor, cX4_lowestFor, 7, some .int, 4, 2, [])
def MX5_init : vMD := (yX5_init, cX5_init, 1, none, 5, 1, [])
def MX5_start : vMD := (yX5_start, cX5_start, 1, none, 5, 1, [])
def MX5_becomeWaiting : vMD := (yX5_becomeWaiting, cX5_becomeWaiting, 1, none, 5, 0, [])
def MX5_leaveQueue : vMD := (yX5_leaveQueue, cX5_leaveQueue, 2, none, 5, 0, [])
def MX5_hasStep : vMD := (yX5_hasStep, cX5_hasStep, 2, some .boolean, 5, 0, [])
def MX5_addStep : vMD := (yX5_addStep, cX5_addStep, 2, none, 5, 0, [])
def MX5_setLastWork : vMD := (yX5_setLastWork, cX5_setLastWork, 2, none, 5, 1, [])
def MX5_setLastPart : vMD := (yX5_setLastPart, cX5_setLastPart, 2, none, 5, 1, [])
def MX5_nextSkill : vMD := (yX5_nextSkill, cX5_nextSkill, 1, some .int, 5, 1, [])
def MX5_nextWork : vMD := (yX5_nextWork, cX5_nextWork, 2, some .int, 5, 1, [])
def MX5_nextPart : vMD := (yX5_nextPart, cX5_nextPart, 1, some .int, 5, 1, [])
def MX5_endStep : vMD := (yX5_endStep, cX5_endStep, 1, some .boolean, 5, 1, [])
def MX5_copyFrom : vMD := (yX5_copyFrom, cX5_copyFrom, 3, none, 5, 0, [])
def MX6_init : vMD := (yX6_init, cX6_init, 2, none, 6, 4, [])
def MX6_set : vMD := (yX6_set, cX6_set, 4, some .int, 6, 3, [])
def MX6_come : vMD := (yX6_come, cX6_come, 3, some .int, 6, 3, [])
def MX6_away : vMD := (yX6_away, cX6_away, 4, some .int, 6, 3, [])
def MX6_bring : vMD := (yX6_bring, cX6_bring, 2, some .int, 6, 5, [])
def MX6_stock : vMD := (yX6_stock, cX6_stock, 3, some .int, 6, 3, [])
def MX6_again : vMD := (yX6_again, cX6_again, 3, some .int, 6, 3, [])
def MX6_pass : vMD := (yX6_pass, cX6_pass, 3, some .int, 6, 6, [])
def MX6_giveOut : vMD := (yX6_giveOut, cX6_giveOut, 3, some .int, 6, 6, [])
def MX6_clear : vMD := (yX6_clear, cX6_clear, 2, some .int, 6, 3, [])
def MX6_fixer : vMD := (yX6_fixer, cX6_fixer, 4, some .int, 6, 1, [])
def MX6_thing : vMD := (yX6_thing, cX6_thing, 5, some .int, 6, 2, [])
def MX6_step : vMD := (yX6_step, cX6_step, 5, some .int, 6, 1, [])
def MX6_count : vMD := (yX6_count, cX6_count, 2, some .int, 6, 2, [])
def MX6_plan : vMD := (yX6_plan, cX6_plan, 2, some .int, 6, 6, [])
def MX6_planned : vMD := (yX6_planned, cX6_planned, 1, some .int, 6, 5, [])
def MX6_ifAway : vMD := (yX6_ifAway, cX6_ifAway, 2, some .int, 6, 5, [])
def MX6_bestSkill : vMD := (yX6_bestSkill, cX6_bestSkill, 6, some .int, 6, 5, [])
def MX6_ifPassed : vMD := (yX6_ifPassed, cX6_ifPassed, 3, some .int, 6, 6, [])
def MX6_untilOver : vMD := (yX6_untilOver, cX6_untilOver, 2, some .int, 6, 5, [])
def MX6_bestPart : vMD := (yX6_bestPart, cX6_bestPart, 6, some .int, 6, 6, [])
def MX6_put : vMD := (yX6_put, cX6_put, 4, some .int, 6, 2, [1])
def MX6_wipe : vMD := (yX6_wipe, cX6_wipe, 2, some .int, 6, 0, [])
def MX6_fault : vMD := (yX6_fault, cX6_fault, 1, some .int, 6, 5, [])
def MX6_undo : vMD := (yX6_undo, cX6_undo, 1, some .int, 6, 3, [])
def MX6_save : vMD := (yX6_save, cX6_save, 2, some .int, 6, 2, [])
def MX6_restore : vMD := (yX6_restore, cX6_restore, 2, some .int, 6, 3, [])
def MX6_isOutside : vMD := (yX6_isOutside, cX6_isOutside, 3, some .boolean, 6, 0, [])
def MX7_init : vMD := (yX7_init, cX7_init, 2, none, 7, 1, [])
def MX7_moves : vMD := (yX7_moves, cX7_moves, 5, none, 7, 0, [])
def MX7_within : vMD := (yX7_within, cX7_within, 3, some .boolean, 7, 0, [])
def MX7_record : vMD := (yX7_record, cX7_record, 2, none, 7, 1, [])
def MX7_isFixer : vMD := (yX7_isFixer, cX7_isFixer, 2, some .boolean, 7, 1, [])
def MX7_isThing : vMD := (yX7_isThing, cX7_isThing, 2, some .boolean, 7, 1, [])
def MX7_ofFixer : vMD := (yX7_ofFixer, cX7_ofFixer, 3, some .int, 7, 0, [])
def MX7_setFixer : vMD := (yX7_setFixer, cX7_setFixer, 4, none, 7, 0, [])
def MX7_ofThing : vMD := (yX7_ofThing, cX7_ofThing, 3, some .int, 7, 0, [])
def MX7_setThing : vMD := (yX7_setThing, cX7_setThing, 4, none, 7, 0, [])
def MX7_isTested : vMD := (yX7_isTested, cX7_isTested, 2, some .boolean, 7, 1, [])
def MX7_nextStep : vMD := (yX7_nextStep, cX7_nextStep, 3, some .int, 7, 2, [])
def MX7_isInStock : vMD := (yX7_isInStock, cX7_isInStock, 2, some .boolean, 7, 0, [])
def MX7_has : vMD := (yX7_has, cX7_has, 3, some .boolean, 7, 1, [])
def MX7_isFree : vMD := (yX7_isFree, cX7_isFree, 2, some .boolean, 7, 1, [])
def MX7_waitsWithPart : vMD := (yX7_waitsWithPart, cX7_waitsWithPart, 2, some .boolean, 7, 3, [])
def MX7_canTake : vMD := (yX7_canTake, cX7_canTake, 3, some .boolean, 7, 4, [])
def MX7_inState : vMD := (yX7_inState, cX7_inState, 4, some .int, 7, 1, [])
def MX7_waitsAnew : vMD := (yX7_waitsAnew, cX7_waitsAnew, 2, none, 7, 1, [])
def MX7_takes : vMD := (yX7_takes, cX7_takes, 4, none, 7, 3, [])
def MX7_endsTest : vMD := (yX7_endsTest, cX7_endsTest, 2, none, 7, 2, [])
def MX7_endsStep : vMD := (yX7_endsStep, cX7_endsStep, 3, none, 7, 3, [])
def MX7_works : vMD := (yX7_works, cX7_works, 2, none, 7, 4, [])
def MX7_longestFor : vMD := (yX7_longestFor, cX7_longestFor, 4, some .int, 7, 5, [])
def MX7_takeAll : vMD := (yX7_takeAll, cX7_takeAll, 3, none, 7, 6, [])
def MX7_waitOn : vMD := (yX7_waitOn, cX7_waitOn, 2, none, 7, 1, [])
def MX7_slot : vMD := (yX7_slot, cX7_slot, 1, none, 7, 7, [])
def MX7_passes : vMD := (yX7_passes, cX7_passes, 3, none, 7, 8, [])
def MX7_findAble : vMD := (yX7_findAble, cX7_findAble, 3, none, 7, 5, [])
def MX7_findMore : vMD := (yX7_findMore, cX7_findMore, 3, none, 7, 4, [])
def MX7_finds : vMD := (yX7_finds, cX7_finds, 9, some .boolean, 7, 0, [])
def MX7_most : vMD := (yX7_most, cX7_most, 5, some .int, 7, 1, [])
def MX7_lowestFor : vMD := (yX7_lowestFor, cX7_lowestFor, 6, some .int, 7, 2, [])
def MX7_findPlan : vMD := (yX7_findPlan, cX7_findPlan, 4, none, 7, 6, [])
def MX7_isValue : vMD := (yX7_isValue, cX7_isValue, 2, some .boolean, 7, 1, [])
def MX7_set : vMD := (yX7_set, cX7_set, 4, some .int, 7, 2, [])
def MX7_come : vMD := (yX7_come, cX7_come, 4, some .int, 7, 2, [])
def MX7_those : vMD := (yX7_those, cX7_those, 3, some .int, 7, 1, [])
def MX7_away : vMD := (yX7_away, cX7_away, 3, some .int, 7, 2, [])
def MX7_toldMany : vMD := (yX7_toldMany, cX7_toldMany, 3, some .int, 7, 0, [])
def MX7_comes : vMD := (yX7_comes, cX7_comes, 3, none, 7, 1, [])
def MX7_bring : vMD := (yX7_bring, cX7_bring, 1, some .int, 7, 5, [])
def MX7_stock : vMD := (yX7_stock, cX7_stock, 3, some .int, 7, 2, [])
def MX7_again : vMD := (yX7_again, cX7_again, 2, some .int, 7, 2, [])
def MX7_pass : vMD := (yX7_pass, cX7_pass, 2, some .int, 7, 9, [])
def MX7_giveOut : vMD := (yX7_giveOut, cX7_giveOut, 4, some .int, 7, 7, [])
def MX7_clear : vMD := (yX7_clear, cX7_clear, 3, some .int, 7, 2, [])
def MX7_fixer : vMD := (yX7_fixer, cX7_fixer, 3, some .int, 7, 2, [])
def MX7_doer : vMD := (yX7_doer, cX7_doer, 4, some .int, 7, 1, [])
def MX7_skilled : vMD := (yX7_skilled, cX7_skilled, 4, some .int, 7, 3, [])
def MX7_thing : vMD := (yX7_thing, cX7_thing, 3, some .int, 7, 4, [])
def MX7_step : vMD := (yX7_step, cX7_step, 4, some .int, 7, 2, [])
def MX7_freeMany : vMD := (yX7_freeMany, cX7_freeMany, 3, some .int, 7, 2, [])
def MX7_count : vMD := (yX7_count, cX7_count, 2, some .int, 7, 3, [])
def MX7_plan : vMD := (yX7_plan, cX7_plan, 2, some .int, 7, 7, [])
def MX7_planned : vMD := (yX7_planned, cX7_planned, 1, some .int, 7, 6, [])
def MX7_ifAway : vMD := (yX7_ifAway, cX7_ifAway, 2, some .int, 7, 6, [])
def MX7_bestSkill : vMD := (yX7_bestSkill, cX7_bestSkill, 6, some .int, 7, 6, [])
def MX7_ifPassed : vMD := (yX7_ifPassed, cX7_ifPassed, 3, some .int, 7, 9, [])
def MX7_isOver : vMD := (yX7_isOver, cX7_isOver, 1, some .boolean, 7, 2, [])
def MX7_untilOver : vMD := (yX7_untilOver, cX7_untilOver, 3, some .int, 7, 8, [])
def MX7_bestPart : vMD := (yX7_bestPart, cX7_bestPart, 5, some .int, 7, 9, [])
def MX7_put : vMD := (yX7_put, cX7_put, 8, some .int, 7, 1, [1, 4])
def MX7_wipe : vMD := (yX7_wipe, cX7_wipe, 2, some .int, 7, 0, [])
def MX7_character : vMD := (yX7_character, cX7_character, 2, some .int, 7, 0, [])
def MX7_isNext : vMD := (yX7_isNext, cX7_isNext, 3, some .boolean, 7, 1, [])
def MX7_takeDigit : vMD := (yX7_takeDigit, cX7_takeDigit, 4, some .int, 7, 1, [])
def MX7_readsStep : vMD := (yX7_readsStep, cX7_readsStep, 4, some .boolean, 7, 2, [])
def MX7_readsThing : vMD := (yX7_readsThing, cX7_readsThing, 2, some .boolean, 7, 3, [])
def MX7_findFault : vMD := (yX7_findFault, cX7_findFault, 1, some .int, 7, 4, [])
def MX7_fault : vMD := (yX7_fault, cX7_fault, 1, some .int, 7, 5, [])
def MX7_undo : vMD := (yX7_undo, cX7_undo, 1, some .int, 7, 1, [])
def MX7_save : vMD := (yX7_save, cX7_save, 2, some .int, 7, 1, [])
def MX7_restore : vMD := (yX7_restore, cX7_restore, 2, some .int, 7, 2, [])
def MJ6_bitCount_0f7a4 : vMD := (yJ6_bitCount_0f7a4, cJ6_bitCount_0f7a4, 1, some .int, 9, 0, [])
def ML_law : vMD := (yL_law, cL_law, 4, some .boolean, 8, 10, [])
def RN : Nat → String := fun k => match k with
  | 0 => RX0
  | 1 => RX1
  | 2 => RX2
  | 3 => RX3
  | 4 => RX4
  | 5 => RX5
  | 6 => RX6
  | 7 => RX7
  | 8 => RL
  | 9 => RJ6
  | _ => RJ9
def TN : Nat → u_T := fun k => match k with
  | 0 => TX0
  | 1 => TX1
  | 2 => TX2
  | 3 => TX3
  | 4 => TX4
  | 5 => TX5
  | 6 => TX6
  | _ => TX7
def tyN : Nat → Nat → FieldType := fun k => match k with
  | 0 => tyX0
  | 1 => tyX1
  | 2 => tyX2
  | 3 => tyX3
  | 4 => tyX4
  | 5 => tyX5
  | 6 => tyX6
  | _ => tyX7
def NN : Nat → Nat := fun k => match k with
  | 0 => 6
  | 1 => 2
  | 2 => 9
  | 3 => 5
  | 4 => 4
  | 5 => 9
  | 6 => 7
  | _ => 21
def isRfT : FieldType → Bool := fun t => match t with
  | .object _ => true
  | .array _ => true
  | _ => false
def rT (k j : Nat) : Bool := if k < 8 then isRfT (tyN k j) else if k < 10 then false else true
def lk {α : Type} : List (Nat × α) → Nat → Option α
  | [], _ => none
  | q :: t, i => if q.1 = i then some q.2 else lk t i
theorem lk_mem {α : Type} {i : Nat} {v : α} : ∀ (l : List (Nat × α)), lk l i = some v → (i, v) ∈ l
  | [], h => by simp [lk] at h
  | q :: t, h => by
    simp only [lk] at h
    by_cases hq : q.1 = i
    · rw [if_pos hq] at h
      cases h
      subst hq
      exact List.mem_cons_self
    · rw [if_neg hq] at h
      exact List.mem_cons_of_mem _ (lk_mem t h)
def BG : List Cond := lw_tbl.filter goodWord
theorem bg_of {w : Cond} (h : w ∈ lw_tbl) (g : goodWord w = true) : w ∈ BG := List.mem_filter.mpr ⟨h, g⟩
theorem bg_good {w : Cond} (h : w ∈ BG) : goodWord w = true := (List.mem_filter.mp h).2
theorem bg_in {w : Cond} (h : w ∈ BG) : w ∈ lw_tbl := (List.mem_filter.mp h).1
theorem bgT1 {w : Cond} (i : Nat) (h : tables_1_1[i]? = some w) (g : goodWord w = true) : w ∈ BG := bg_of (List.mem_append_right _ (List.mem_append_left _ (List.mem_of_getElem? h))) g
theorem bgT2 {w : Cond} (i : Nat) (h : tables_1_2[i]? = some w) (g : goodWord w = true) : w ∈ BG := bg_of (List.mem_append_right _ (List.mem_append_right _ (List.mem_append_left _ (List.mem_of_getElem? h)))) g
theorem bgT3 {w : Cond} (i : Nat) (h : tables_1_3[i]? = some w) (g : goodWord w = true) : w ∈ BG := bg_of (List.mem_append_right _ (List.mem_append_right _ (List.mem_append_right _ (List.mem_append_left _ (List.mem_of_getElem? h))))) g
theorem bgT4 {w : Cond} (i : Nat) (h : tables_1_4[i]? = some w) (g : goodWord w = true) : w ∈ BG := bg_of (List.mem_append_right _ (List.mem_append_right _ (List.mem_append_right _ (List.mem_append_right _ (List.mem_of_getElem? h))))) g
theorem bgS {q : MethodName × Nat} (i : Nat) (h : lw_privs[i]? = some q) : Cond.selects q.1.cls q.1 q.1 ∈ BG := bg_of (List.mem_append_left _ (List.mem_map.mpr ⟨q, List.mem_of_getElem? h, rfl⟩)) rfl
def fL0 : List (Nat × Nat × Nat) := [(9, (0, 0)), (15, (0, 1)), (18, (0, 2)), (22, (0, 5)), (28, (0, 3)), (31, (0, 4))]
def fL1 : List (Nat × Nat × Nat) := [(11, (1, 0)), (18, (1, 1))]
def fL2 : List (Nat × Nat × Nat) := [(11, (2, 0)), (19, (2, 1)), (23, (2, 2)), (27, (2, 5)), (31, (2, 6)), (36, (2, 3)), (43, (2, 4)), (49, (2, 7)), (52, (2, 8)), (62, (0, 2)), (66, (0, 0)), (73, (0, 3)), (76, (5, 5)), (104, (0, 4)), (130, (0, 1)), (136, (0, 5)), (139, (5, 6))]
def fL3 : List (Nat × Nat × Nat) := [(9, (3, 0)), (17, (3, 1)), (22, (3, 4)), (32, (3, 2)), (36, (3, 3)), (75, (5, 8)), (78, (5, 3))]
def fL4 : List (Nat × Nat × Nat) := [(9, (4, 0)), (15, (4, 1)), (18, (4, 2)), (21, (2, 3)), (27, (4, 3)), (28, (2, 0)), (38, (0, 0))]
def fL5 : List (Nat × Nat × Nat) := [(9, (5, 0)), (15, (5, 1)), (18, (5, 2)), (21, (5, 3)), (25, (5, 4)), (28, (5, 7)), (31, (5, 8)), (37, (5, 5)), (40, (5, 6))]
def fL6 : List (Nat × Nat × Nat) := [(10, (6, 0)), (16, (6, 1)), (19, (6, 2)), (23, (6, 3)), (30, (6, 4)), (37, (6, 5)), (44, (6, 6)), (56, (2, 5)), (60, (2, 6)), (63, (2, 3)), (74, (2, 0)), (78, (0, 2)), (91, (2, 4)), (94, (3, 3)), (97, (3, 1)), (105, (3, 2)), (108, (2, 2)), (115, (2, 1)), (118, (5, 5)), (137, (4, 1)), (147, (0, 0)), (150, (0, 1)), (153, (0, 3)), (156, (0, 4)), (159, (0, 5)), (162, (5, 3)), (165, (5, 4)), (168, (5, 6)), (171, (5, 7)), (174, (5, 8)), (189, (5, 0)), (191, (5, 1)), (194, (5, 2)), (198, (2, 7)), (201, (2, 8)), (204, (1, 1)), (214, (4, 0))]
def fL7 : List (Nat × Nat × Nat) := [(7, (7, 0)), (13, (7, 1)), (16, (7, 2)), (19, (7, 4)), (22, (7, 5)), (25, (7, 6)), (28, (7, 11)), (31, (7, 12)), (34, (7, 13)), (37, (7, 14)), (40, (7, 15)), (43, (7, 16)), (46, (7, 18)), (49, (7, 3)), (95, (7, 10)), (102, (7, 8)), (122, (7, 9)), (164, (7, 7)), (167, (7, 19)), (170, (7, 20)), (179, (7, 17))]
def fL : Nat → List (Nat × Nat × Nat) := fun o => match o with
  | 0 => fL0
  | 1 => fL1
  | 2 => fL2
  | 3 => fL3
  | 4 => fL4
  | 5 => fL5
  | 6 => fL6
  | 7 => fL7
  | _ => []
def mL0 : List (Nat × vMD × Nat × Nat) := [(25, (MX0_becomeFree, 0, 0))]
def mL1 : List (Nat × vMD × Nat × Nat) := [(17, (MX2_init, 2, 0)), (22, (MX1_dropOldest, 0, 0)), (25, (MX2_copyFrom, 0, 1))]
def mL2 : List (Nat × vMD × Nat × Nat) := [(34, (MX0_init, 6, 0)), (35, (MX5_init, 6, 0)), (39, (MX0_copyFrom, 0, 1)), (46, (MX5_copyFrom, 0, 1)), (55, (MX0_start, 0, 2)), (59, (MX0_becomeFree, 0, 0)), (69, (MX0_canTakeMore, 0, 0)), (79, (MX2_thingsIn, 0, 1)), (83, (MX2_isFor, 0, 2)), (87, (MX5_nextSkill, 0, 0)), (91, (MX5_nextPart, 0, 0)), (94, (MX2_isInStock, 0, 1)), (98, (MX2_hasThing, 0, 1)), (101, (MX5_nextWork, 0, 1)), (107, (MX5_leaveQueue, 0, 1)), (111, (MX2_isOver, 0, 0)), (114, (MX2_letOnePass, 0, 0)), (117, (MX2_work, 0, 1)), (120, (MX2_longestWaiting, 0, 1)), (123, (MX2_takeIfInStock, 0, 2)), (127, (MX2_waitOn, 0, 1)), (133, (MX5_endStep, 0, 0))]
def mL3 : List (Nat × vMD × Nat × Nat) := [(21, (MX5_init, 6, 0)), (28, (MX6_isOutside, 5, 3)), (39, (MX3_placeBehind, 0, 2)), (43, (MX3_readFirstSkill, 0, 1)), (47, (MX3_readSkill, 0, 1)), (50, (MX3_readWork, 0, 1)), (53, (MX3_readPart, 0, 1)), (56, (MX3_readWeakness, 0, 1)), (59, (MX3_placeBehindMark, 0, 2)), (62, (MX5_start, 0, 0)), (65, (MX5_addStep, 0, 1)), (69, (MX5_setLastWork, 0, 1)), (72, (MX5_setLastPart, 0, 1))]
def mL4 : List (Nat × vMD × Nat × Nat) := [(32, (MX0_canTakeMore, 0, 0)), (41, (MX2_thingsFor, 0, 1)), (45, (MJ6_bitCount_0f7a4, 1, 1)), (56, (MX4_lookAt, 0, 1)), (61, (MX4_mostServed, 0, 2)), (64, (MX4_lowestFor, 0, 3))]
def mL5 : List (Nat × vMD × Nat × Nat) := [(34, (MX5_becomeWaiting, 0, 0)), (43, (MX5_hasStep, 0, 1)), (47, (MX5_leaveQueue, 0, 1))]
def mL6 : List (Nat × vMD × Nat × Nat) := [(9, (MX2_init, 2, 0)), (29, (MX1_init, 2, 0)), (36, (MX3_init, 2, 0)), (43, (MX4_init, 6, 0)), (48, (MX6_isOutside, 1, 3)), (52, (MX1_keep, 0, 1)), (66, (MX2_addFixer, 0, 2)), (70, (MX2_hasFixer, 0, 1)), (84, (MX2_fixersThere, 0, 0)), (88, (MX3_readThings, 0, 0)), (101, (MX2_addThing, 0, 1)), (112, (MX2_hasThing, 0, 1)), (123, (MX5_becomeWaiting, 0, 0)), (126, (MX2_thingsIn, 0, 1)), (130, (MX2_letPass, 0, 1)), (134, (MX4_makePlan, 0, 1)), (140, (MX2_takeIfInStock, 0, 2)), (144, (MX2_removeThings, 0, 0)), (177, (MX2_fixerOf, 0, 1)), (180, (MX5_nextSkill, 0, 0)), (183, (MX2_fixersWith, 0, 1)), (186, (MX5_hasStep, 0, 1)), (195, (MX2_freeFixers, 0, 0)), (207, (MX4_lookAt, 0, 1)), (211, (MX4_mostServed, 0, 2)), (217, (MX2_thingsFor, 0, 1)), (220, (MX4_addFixer, 0, 1)), (222, (MX2_copyFrom, 0, 1)), (225, (MX2_isOver, 0, 0)), (229, (MX2_letOnePass, 0, 0)), (232, (MX3_signsIn, 1, 1)), (236, (MX3_append, 0, 2)), (240, (MX1_takeBack, 0, 1))]
def mL7 : List (Nat × vMD × Nat × Nat) := [(53, (MX7_moves, 1, 4)), (57, (MX7_within, 1, 3)), (61, (MX7_ofThing, 0, 2)), (65, (MX7_isTested, 0, 1)), (69, (MX7_ofFixer, 0, 2)), (72, (MX7_nextStep, 0, 2)), (75, (MX7_isInStock, 0, 1)), (78, (MX7_isFree, 0, 1)), (81, (MX7_waitsWithPart, 0, 1)), (84, (MX7_has, 0, 2)), (88, (MX7_setThing, 0, 3)), (92, (MX7_setFixer, 0, 3)), (98, (MX7_waitsAnew, 0, 1)), (105, (MX7_endsTest, 0, 1)), (108, (MX7_endsStep, 0, 1)), (111, (MX7_canTake, 0, 2)), (114, (MX7_longestFor, 0, 1)), (118, (MX7_takes, 0, 2)), (125, (MX7_works, 0, 0)), (128, (MX7_takeAll, 0, 0)), (131, (MX7_waitOn, 0, 0)), (134, (MX7_slot, 0, 0)), (137, (MX7_finds, 0, 2)), (140, (MX7_most, 0, 2)), (143, (MX7_findAble, 0, 0)), (147, (MX7_lowestFor, 0, 3)), (151, (MX7_isValue, 1, 2)), (154, (MX7_record, 0, 0)), (157, (MX7_isFixer, 0, 1)), (160, (MX7_those, 0, 0)), (173, (MX7_findFault, 0, 0)), (176, (MX7_toldMany, 0, 0)), (182, (MX7_readsThing, 0, 0)), (186, (MX7_isNext, 0, 1)), (189, (MX7_comes, 0, 0)), (192, (MX7_isThing, 0, 1)), (195, (MX7_inState, 0, 1)), (198, (MX7_passes, 0, 1)), (201, (MX7_findPlan, 0, 0)), (204, (MX7_doer, 0, 1)), (207, (MX7_skilled, 0, 1)), (210, (MX7_freeMany, 0, 0)), (213, (MX7_findMore, 0, 1)), (216, (MX7_isOver, 0, 0)), (221, (MX7_character, 0, 1)), (224, (MX7_takeDigit, 0, 2)), (227, (MX7_readsStep, 0, 0))]
def mL8 : List (Nat × vMD × Nat × Nat) := [(9, (MX6_init, 2, 0)), (12, (MX7_init, 2, 0)), (13, (MX6_set, 0, 2)), (17, (MX7_set, 0, 2)), (18, (MX6_come, 0, 2)), (21, (MX7_come, 0, 2)), (22, (MX6_away, 0, 2)), (26, (MX7_away, 0, 2)), (27, (MX6_bring, 0, 0)), (31, (MX7_bring, 0, 0)), (32, (MX6_stock, 0, 2)), (35, (MX7_stock, 0, 2)), (36, (MX6_again, 0, 1)), (40, (MX7_again, 0, 1)), (41, (MX6_pass, 0, 1)), (44, (MX7_pass, 0, 1)), (45, (MX6_giveOut, 0, 0)), (48, (MX7_giveOut, 0, 0)), (49, (MX6_clear, 0, 0)), (52, (MX7_clear, 0, 0)), (53, (MX6_fixer, 0, 2)), (56, (MX7_fixer, 0, 2)), (57, (MX6_thing, 0, 2)), (60, (MX7_thing, 0, 2)), (61, (MX6_step, 0, 3)), (65, (MX7_step, 0, 3)), (66, (MX6_count, 0, 1)), (69, (MX7_count, 0, 1)), (70, (MX6_plan, 0, 1)), (73, (MX7_plan, 0, 1)), (74, (MX6_planned, 0, 0)), (77, (MX7_planned, 0, 0)), (78, (MX6_ifAway, 0, 1)), (81, (MX7_ifAway, 0, 1)), (82, (MX6_bestSkill, 0, 1)), (85, (MX7_bestSkill, 0, 1)), (86, (MX6_ifPassed, 0, 2)), (89, (MX7_ifPassed, 0, 2)), (90, (MX6_untilOver, 0, 0)), (93, (MX7_untilOver, 0, 0)), (94, (MX6_bestPart, 0, 1)), (97, (MX7_bestPart, 0, 1)), (100, (MX6_put, 0, 1)), (104, (MX7_put, 0, 1)), (105, (MX6_wipe, 0, 0)), (108, (MX7_wipe, 0, 0)), (109, (MX6_fault, 0, 0)), (112, (MX7_fault, 0, 0)), (113, (MX6_undo, 0, 0)), (116, (MX7_undo, 0, 0)), (117, (MX6_save, 0, 1)), (120, (MX7_save, 0, 1)), (121, (MX6_restore, 0, 1)), (124, (MX7_restore, 0, 1))]
def mL : Nat → List (Nat × vMD × Nat × Nat) := fun o => match o with
  | 0 => mL0
  | 1 => mL1
  | 2 => mL2
  | 3 => mL3
  | 4 => mL4
  | 5 => mL5
  | 6 => mL6
  | 7 => mL7
  | 8 => mL8
  | _ => []
def oL0 : List (Nat × Unit) := [(3, ())]
def oL1 : List (Nat × Unit) := [(3, ())]
def oL2 : List (Nat × Unit) := [(3, ())]
def oL3 : List (Nat × Unit) := [(3, ())]
def oL4 : List (Nat × Unit) := [(3, ())]
def oL5 : List (Nat × Unit) := [(3, ())]
def oL6 : List (Nat × Unit) := [(1, ())]
def oL7 : List (Nat × Unit) := [(1, ())]
def oL : Nat → List (Nat × Unit) := fun o => match o with
  | 0 => oL0
  | 1 => oL1
  | 2 => oL2
  | 3 => oL3
  | 4 => oL4
  | 5 => oL5
  | 6 => oL6
  | 7 => oL7
  | _ => []
def pL4 : List (Nat × Unit) := [(50, ())]
def pL : Nat → List (Nat × Unit) := fun o => match o with
  | 4 => pL4
  | _ => []
def kL1 : List (Nat × Nat) := [(9, 2)]
def kL2 : List (Nat × Nat) := [(9, 0), (17, 5)]
def kL3 : List (Nat × Nat) := [(15, 5)]
def kL6 : List (Nat × Nat) := [(7, 2), (27, 1), (34, 3), (41, 4)]
def kL8 : List (Nat × Nat) := [(7, 6), (10, 7)]
def kL : Nat → List (Nat × Nat) := fun o => match o with
  | 1 => kL1
  | 2 => kL2
  | 3 => kL3
  | 6 => kL6
  | 8 => kL8
  | _ => []
def cL4 : List (Nat × Int32) := [(60, 65535)]
def cL6 : List (Nat × Int32) := [(210, 65535)]
def cL7 : List (Nat × Int32) := [(146, 65535)]
def cL9 : List (Nat × Int32) := [(265, 1431655765), (266, 858993459), (267, 252645135)]
def cL : Nat → List (Nat × Int32) := fun o => match o with
  | 4 => cL4
  | 6 => cL6
  | 7 => cL7
  | 9 => cL9
  | _ => []
def lL3 : List (Nat × Int64) := [(26, 255)]
def lL7 : List (Nat × Int64) := [(219, 255)]
def lL8 : List (Nat × Int64) := [(98, 4294967295)]
def lL : Nat → List (Nat × Int64) := fun o => match o with
  | 3 => lL3
  | 7 => lL7
  | 8 => lL8
  | _ => []
def fOK (o : Nat) (q : Nat × Nat × Nat) : Prop := q.2.1 < 8 ∧ q.2.2 < NN q.2.1 ∧ Cond.fieldLink (RN o) q.1 (TN q.2.1 q.2.2).1 (TN q.2.1 q.2.2).2.1 (TN q.2.1 q.2.2).2.2.1 ∈ BG
def yOK (y : vMD) : Prop := Cond.code (mym y) (mbc y) (mnl y) (mrt y) ∈ BG ∧ Cond.initialized (mym y).cls ∈ BG ∧ ((mym y).cls ≠ "java/lang/invoke/MethodHandle" ∧ (mym y).cls ≠ "java/lang/invoke/VarHandle") ∧ plainName (mym y).cls = true ∧ mnl y ≤ 12 ∧ (mym y).cls = RN (mow y)
def nestL : List (Nat × Nat × MethodName) := [(2, 34, yX0_init), (2, 35, yX5_init), (3, 21, yX5_init), (3, 28, yX6_isOutside), (6, 43, yX4_init)]
def mOK (o : Nat) (q : Nat × vMD × Nat × Nat) : Prop := yOK q.2.1 ∧ (if q.2.2.1 < 4 then Cond.methodLink (RN o) q.1 (mym q.2.1) ∈ BG else (o, q.1, mym q.2.1) ∈ nestL) ∧ (parseMethodDescriptor (mym q.2.1).desc).map (fun d => d.parameters.length) = some q.2.2.2 ∧ ((q.2.2.1 = 0 ∧ mow q.2.1 < 8 ∧ Cond.instanceMethod (mym q.2.1) ∈ BG ∧ Cond.selects (mym q.2.1).cls (mym q.2.1) (mym q.2.1) ∈ BG) ∨ ((q.2.2.1 = 1 ∨ q.2.2.1 = 5) ∧ Cond.static (mym q.2.1) ∈ BG) ∨ ((q.2.2.1 = 2 ∨ q.2.2.1 = 6) ∧ mow q.2.1 < 8 ∧ mrt q.2.1 = none ∧ (mym q.2.1).name = "<init>" ∧ Cond.instanceMethod (mym q.2.1) ∈ BG))
def oOK (o : Nat) (q : Nat × Unit) : Prop := Cond.methodLink (RN o) q.1 objectInit ∈ BG
def pOK (o : Nat) (q : Nat × Unit) : Prop := Cond.methodLink (RN o) q.1 Lib.Math.min.name ∈ BG
def kOK (o : Nat) (q : Nat × Nat) : Prop := q.2 < 8 ∧ Cond.classLink (RN o) q.1 (RN q.2) ∈ BG
def cOK (o : Nat) (q : Nat × Int32) : Prop := Cond.constant (RN o) q.1 q.2 ∈ BG
def lOK (o : Nat) (q : Nat × Int64) : Prop := Cond.constantLong (RN o) q.1 q.2 ∈ BG
theorem ykX0_init : yOK MX0_init := ⟨(bgT1 32 rfl rfl), (bgT1 3 rfl rfl), ⟨by decide +kernel, by decide +kernel⟩, by decide +kernel, by decide, rfl⟩
theorem ykX0_start : yOK MX0_start := ⟨(bgT2 38 rfl rfl), (bgT1 3 rfl rfl), ⟨by decide +kernel, by decide +kernel⟩, by decide +kernel, by decide, rfl⟩
theorem ykX0_becomeFree : yOK MX0_becomeFree := ⟨(bgT2 42 rfl rfl), (bgT1 3 rfl rfl), ⟨by decide +kernel, by decide +kernel⟩, by decide +kernel, by decide, rfl⟩
theorem ykX0_canTakeMore : yOK MX0_canTakeMore := ⟨(bgT2 171 rfl rfl), (bgT1 3 rfl rfl), ⟨by decide +kernel, by decide +kernel⟩, by decide +kernel, by decide, rfl⟩
theorem ykX0_copyFrom : yOK MX0_copyFrom := ⟨(bgT2 22 rfl rfl), (bgT1 3 rfl rfl), ⟨by decide +kernel, by decide +kernel⟩, by decide +kernel, by decide, rfl⟩
theorem ykX1_init : yOK MX1_init := ⟨(bgT1 157 rfl rfl), (bgT1 5 rfl rfl), ⟨by decide +kernel, by decide +kernel⟩, by decide +kernel, by decide, rfl⟩
theorem ykX1_keep : yOK MX1_keep := ⟨(bgT2 10 rfl rfl), (bgT1 5 rfl rfl), ⟨by decide +kernel, by decide +kernel⟩, by decide +kernel, by decide, rfl⟩
theorem ykX1_dropOldest : yOK MX1_dropOldest := ⟨(bgT2 14 rfl rfl), (bgT1 5 rfl rfl), ⟨by decide +kernel, by decide +kernel⟩, by decide +kernel, by decide, rfl⟩
theorem ykX1_takeBack : yOK MX1_takeBack := ⟨(bgT3 105 rfl rfl), (bgT1 5 rfl rfl), ⟨by decide +kernel, by decide +kernel⟩, by decide +kernel, by decide, rfl⟩
theorem ykX2_init : yOK MX2_init := ⟨(bgT1 23 rfl rfl), (bgT1 2 rfl rfl), ⟨by decide +kernel, by decide +kernel⟩, by decide +kernel, by decide, rfl⟩
theorem ykX2_copyFrom : yOK MX2_copyFrom := ⟨(bgT2 18 rfl rfl), (bgT1 2 rfl rfl), ⟨by decide +kernel, by decide +kernel⟩, by decide +kernel, by decide, rfl⟩
theorem ykX2_hasFixer : yOK MX2_hasFixer := ⟨(bgT2 50 rfl rfl), (bgT1 2 rfl rfl), ⟨by decide +kernel, by decide +kernel⟩, by decide +kernel, by decide, rfl⟩
theorem ykX2_hasThing : yOK MX2_hasThing := ⟨(bgT2 131 rfl rfl), (bgT1 2 rfl rfl), ⟨by decide +kernel, by decide +kernel⟩, by decide +kernel, by decide, rfl⟩
theorem ykX2_addFixer : yOK MX2_addFixer := ⟨(bgT2 34 rfl rfl), (bgT1 2 rfl rfl), ⟨by decide +kernel, by decide +kernel⟩, by decide +kernel, by decide, rfl⟩
theorem ykX2_addThing : yOK MX2_addThing := ⟨(bgT2 119 rfl rfl), (bgT1 2 rfl rfl), ⟨by decide +kernel, by decide +kernel⟩, by decide +kernel, by decide, rfl⟩
theorem ykX2_removeThings : yOK MX2_removeThings := ⟨(bgT3 8 rfl rfl), (bgT1 2 rfl rfl), ⟨by decide +kernel, by decide +kernel⟩, by decide +kernel, by decide, rfl⟩
theorem ykX2_fixersThere : yOK MX2_fixersThere := ⟨(bgT2 54 rfl rfl), (bgT1 2 rfl rfl), ⟨by decide +kernel, by decide +kernel⟩, by decide +kernel, by decide, rfl⟩
theorem ykX2_fixersWith : yOK MX2_fixersWith := ⟨(bgT3 25 rfl rfl), (bgT1 2 rfl rfl), ⟨by decide +kernel, by decide +kernel⟩, by decide +kernel, by decide, rfl⟩
theorem ykX2_freeFixers : yOK MX2_freeFixers := ⟨(bgT3 38 rfl rfl), (bgT1 2 rfl rfl), ⟨by decide +kernel, by decide +kernel⟩, by decide +kernel, by decide, rfl⟩
theorem ykX2_fixerOf : yOK MX2_fixerOf := ⟨(bgT3 20 rfl rfl), (bgT1 2 rfl rfl), ⟨by decide +kernel, by decide +kernel⟩, by decide +kernel, by decide, rfl⟩
theorem ykX2_thingsIn : yOK MX2_thingsIn := ⟨(bgT2 136 rfl rfl), (bgT1 2 rfl rfl), ⟨by decide +kernel, by decide +kernel⟩, by decide +kernel, by decide, rfl⟩
theorem ykX2_isOver : yOK MX2_isOver := ⟨(bgT2 148 rfl rfl), (bgT1 2 rfl rfl), ⟨by decide +kernel, by decide +kernel⟩, by decide +kernel, by decide, rfl⟩
theorem ykX2_thingsFor : yOK MX2_thingsFor := ⟨(bgT2 221 rfl rfl), (bgT1 2 rfl rfl), ⟨by decide +kernel, by decide +kernel⟩, by decide +kernel, by decide, rfl⟩
theorem ykX2_isFor : yOK MX2_isFor := ⟨(bgT2 179 rfl rfl), (bgT1 2 rfl rfl), ⟨by decide +kernel, by decide +kernel⟩, by decide +kernel, by decide, rfl⟩
theorem ykX2_isInStock : yOK MX2_isInStock := ⟨(bgT2 191 rfl rfl), (bgT1 2 rfl rfl), ⟨by decide +kernel, by decide +kernel⟩, by decide +kernel, by decide, rfl⟩
theorem ykX2_takeIfInStock : yOK MX2_takeIfInStock := ⟨(bgT2 195 rfl rfl), (bgT1 2 rfl rfl), ⟨by decide +kernel, by decide +kernel⟩, by decide +kernel, by decide, rfl⟩
theorem ykX2_letPass : yOK MX2_letPass := ⟨(bgT2 144 rfl rfl), (bgT1 2 rfl rfl), ⟨by decide +kernel, by decide +kernel⟩, by decide +kernel, by decide, rfl⟩
theorem ykX2_letOnePass : yOK MX2_letOnePass := ⟨(bgT2 153 rfl rfl), (bgT1 2 rfl rfl), ⟨by decide +kernel, by decide +kernel⟩, by decide +kernel, by decide, rfl⟩
theorem ykX2_work : yOK MX2_work := ⟨(bgT2 157 rfl rfl), (bgT1 2 rfl rfl), ⟨by decide +kernel, by decide +kernel⟩, by decide +kernel, by decide, rfl⟩
theorem ykX2_longestWaiting : yOK MX2_longestWaiting := ⟨(bgT2 175 rfl rfl), (bgT1 2 rfl rfl), ⟨by decide +kernel, by decide +kernel⟩, by decide +kernel, by decide, rfl⟩
theorem ykX2_waitOn : yOK MX2_waitOn := ⟨(bgT2 204 rfl rfl), (bgT1 2 rfl rfl), ⟨by decide +kernel, by decide +kernel⟩, by decide +kernel, by decide, rfl⟩
theorem ykX3_init : yOK MX3_init := ⟨(bgT1 174 rfl rfl), (bgT1 6 rfl rfl), ⟨by decide +kernel, by decide +kernel⟩, by decide +kernel, by decide, rfl⟩
theorem ykX3_signsIn : yOK MX3_signsIn := ⟨(bgT3 84 rfl rfl), (bgT1 6 rfl rfl), ⟨by decide +kernel, by decide +kernel⟩, by decide +kernel, by decide, rfl⟩
theorem ykX3_append : yOK MX3_append := ⟨(bgT3 89 rfl rfl), (bgT1 6 rfl rfl), ⟨by decide +kernel, by decide +kernel⟩, by decide +kernel, by decide, rfl⟩
theorem ykX3_readThings : yOK MX3_readThings := ⟨(bgT2 62 rfl rfl), (bgT1 6 rfl rfl), ⟨by decide +kernel, by decide +kernel⟩, by decide +kernel, by decide, rfl⟩
theorem ykX3_placeBehind : yOK MX3_placeBehind := ⟨(bgT2 66 rfl rfl), (bgT1 6 rfl rfl), ⟨by decide +kernel, by decide +kernel⟩, by decide +kernel, by decide, rfl⟩
theorem ykX3_readFirstSkill : yOK MX3_readFirstSkill := ⟨(bgT2 71 rfl rfl), (bgT1 6 rfl rfl), ⟨by decide +kernel, by decide +kernel⟩, by decide +kernel, by decide, rfl⟩
theorem ykX3_readSkill : yOK MX3_readSkill := ⟨(bgT2 83 rfl rfl), (bgT1 6 rfl rfl), ⟨by decide +kernel, by decide +kernel⟩, by decide +kernel, by decide, rfl⟩
theorem ykX3_readWork : yOK MX3_readWork := ⟨(bgT2 91 rfl rfl), (bgT1 6 rfl rfl), ⟨by decide +kernel, by decide +kernel⟩, by decide +kernel, by decide, rfl⟩
theorem ykX3_readPart : yOK MX3_readPart := ⟨(bgT2 103 rfl rfl), (bgT1 6 rfl rfl), ⟨by decide +kernel, by decide +kernel⟩, by decide +kernel, by decide, rfl⟩
theorem ykX3_readWeakness : yOK MX3_readWeakness := ⟨(bgT2 111 rfl rfl), (bgT1 6 rfl rfl), ⟨by decide +kernel, by decide +kernel⟩, by decide +kernel, by decide, rfl⟩
theorem ykX3_placeBehindMark : yOK MX3_placeBehindMark := ⟨(bgT2 115 rfl rfl), (bgT1 6 rfl rfl), ⟨by decide +kernel, by decide +kernel⟩, by decide +kernel, by decide, rfl⟩
theorem ykX4_init : yOK MX4_init := ⟨(bgT1 201 rfl rfl), (bgT1 7 rfl rfl), ⟨by decide +kernel, by decide +kernel⟩, by decide +kernel, by decide, rfl⟩
theorem ykX4_lookAt : yOK MX4_lookAt := ⟨(bgT2 216 rfl rfl), (bgT1 7 rfl rfl), ⟨by decide +kernel, by decide +kernel⟩, by decide +kernel, by decide, rfl⟩
theorem ykX4_addFixer : yOK MX4_addFixer := ⟨(bgT3 62 rfl rfl), (bgT1 7 rfl rfl), ⟨by decide +kernel, by decide +kernel⟩, by decide +kernel, by decide, rfl⟩
theorem ykX4_mostServed : yOK MX4_mostServed := ⟨(bgT2 226 rfl rfl), (bgT1 7 rfl rfl), ⟨by decide +kernel, by decide +kernel⟩, by decide +kernel, by decide, rfl⟩
theorem ykX4_makePlan : yOK MX4_makePlan := ⟨(bgT2 212 rfl rfl), (bgT1 7 rfl rfl), ⟨by decide +kernel, by decide +kernel⟩, by decide +kernel, by decide, rfl⟩
theorem ykX4_lowestFor : yOK MX4_lowestFor := ⟨(bgT2 239 rfl rfl), (bgT1 7 rfl rfl), ⟨by decide +kernel, by decide +kernel⟩, by decide +kernel, by decide, rfl⟩
theorem ykX5_init : yOK MX5_init := ⟨(bgT1 70 rfl rfl), (bgT1 4 rfl rfl), ⟨by decide +kernel, by decide +kernel⟩, by decide +kernel, by decide, rfl⟩
theorem ykX5_start : yOK MX5_start := ⟨(bgT2 75 rfl rfl), (bgT1 4 rfl rfl), ⟨by decide +kernel, by decide +kernel⟩, by decide +kernel, by decide, rfl⟩
theorem ykX5_becomeWaiting : yOK MX5_becomeWaiting := ⟨(bgT2 79 rfl rfl), (bgT1 4 rfl rfl), ⟨by decide +kernel, by decide +kernel⟩, by decide +kernel, by decide, rfl⟩
theorem ykX5_leaveQueue : yOK MX5_leaveQueue := ⟨(bgT2 166 rfl rfl), (bgT1 4 rfl rfl), ⟨by decide +kernel, by decide +kernel⟩, by decide +kernel, by decide, rfl⟩
theorem ykX5_hasStep : yOK MX5_hasStep := ⟨(bgT2 99 rfl rfl), (bgT1 4 rfl rfl), ⟨by decide +kernel, by decide +kernel⟩, by decide +kernel, by decide, rfl⟩
theorem ykX5_addStep : yOK MX5_addStep := ⟨(bgT2 87 rfl rfl), (bgT1 4 rfl rfl), ⟨by decide +kernel, by decide +kernel⟩, by decide +kernel, by decide, rfl⟩
theorem ykX5_setLastWork : yOK MX5_setLastWork := ⟨(bgT2 95 rfl rfl), (bgT1 4 rfl rfl), ⟨by decide +kernel, by decide +kernel⟩, by decide +kernel, by decide, rfl⟩
theorem ykX5_setLastPart : yOK MX5_setLastPart := ⟨(bgT2 107 rfl rfl), (bgT1 4 rfl rfl), ⟨by decide +kernel, by decide +kernel⟩, by decide +kernel, by decide, rfl⟩
theorem ykX5_nextSkill : yOK MX5_nextSkill := ⟨(bgT2 183 rfl rfl), (bgT1 4 rfl rfl), ⟨by decide +kernel, by decide +kernel⟩, by decide +kernel, by decide, rfl⟩
theorem ykX5_nextWork : yOK MX5_nextWork := ⟨(bgT2 199 rfl rfl), (bgT1 4 rfl rfl), ⟨by decide +kernel, by decide +kernel⟩, by decide +kernel, by decide, rfl⟩
theorem ykX5_nextPart : yOK MX5_nextPart := ⟨(bgT2 187 rfl rfl), (bgT1 4 rfl rfl), ⟨by decide +kernel, by decide +kernel⟩, by decide +kernel, by decide, rfl⟩
theorem ykX5_endStep : yOK MX5_endStep := ⟨(bgT2 162 rfl rfl), (bgT1 4 rfl rfl), ⟨by decide +kernel, by decide +kernel⟩, by decide +kernel, by decide, rfl⟩
theorem ykX5_copyFrom : yOK MX5_copyFrom := ⟨(bgT2 26 rfl rfl), (bgT1 4 rfl rfl), ⟨by decide +kernel, by decide +kernel⟩, by decide +kernel, by decide, rfl⟩
theorem ykX6_init : yOK MX6_init := ⟨(bgT1 15 rfl rfl), (bgT1 1 rfl rfl), ⟨by decide +kernel, by decide +kernel⟩, by decide +kernel, by decide, rfl⟩
theorem ykX6_set : yOK MX6_set := ⟨(bgT2 3 rfl rfl), (bgT1 1 rfl rfl), ⟨by decide +kernel, by decide +kernel⟩, by decide +kernel, by decide, rfl⟩
theorem ykX6_come : yOK MX6_come := ⟨(bgT2 30 rfl rfl), (bgT1 1 rfl rfl), ⟨by decide +kernel, by decide +kernel⟩, by decide +kernel, by decide, rfl⟩
theorem ykX6_away : yOK MX6_away := ⟨(bgT2 46 rfl rfl), (bgT1 1 rfl rfl), ⟨by decide +kernel, by decide +kernel⟩, by decide +kernel, by decide, rfl⟩
theorem ykX6_bring : yOK MX6_bring := ⟨(bgT2 58 rfl rfl), (bgT1 1 rfl rfl), ⟨by decide +kernel, by decide +kernel⟩, by decide +kernel, by decide, rfl⟩
theorem ykX6_stock : yOK MX6_stock := ⟨(bgT2 123 rfl rfl), (bgT1 1 rfl rfl), ⟨by decide +kernel, by decide +kernel⟩, by decide +kernel, by decide, rfl⟩
theorem ykX6_again : yOK MX6_again := ⟨(bgT2 127 rfl rfl), (bgT1 1 rfl rfl), ⟨by decide +kernel, by decide +kernel⟩, by decide +kernel, by decide, rfl⟩
theorem ykX6_pass : yOK MX6_pass := ⟨(bgT2 140 rfl rfl), (bgT1 1 rfl rfl), ⟨by decide +kernel, by decide +kernel⟩, by decide +kernel, by decide, rfl⟩
theorem ykX6_giveOut : yOK MX6_giveOut := ⟨(bgT2 208 rfl rfl), (bgT1 1 rfl rfl), ⟨by decide +kernel, by decide +kernel⟩, by decide +kernel, by decide, rfl⟩
theorem ykX6_clear : yOK MX6_clear := ⟨(bgT3 4 rfl rfl), (bgT1 1 rfl rfl), ⟨by decide +kernel, by decide +kernel⟩, by decide +kernel, by decide, rfl⟩
theorem ykX6_fixer : yOK MX6_fixer := ⟨(bgT3 12 rfl rfl), (bgT1 1 rfl rfl), ⟨by decide +kernel, by decide +kernel⟩, by decide +kernel, by decide, rfl⟩
theorem ykX6_thing : yOK MX6_thing := ⟨(bgT3 16 rfl rfl), (bgT1 1 rfl rfl), ⟨by decide +kernel, by decide +kernel⟩, by decide +kernel, by decide, rfl⟩
theorem ykX6_step : yOK MX6_step := ⟨(bgT3 29 rfl rfl), (bgT1 1 rfl rfl), ⟨by decide +kernel, by decide +kernel⟩, by decide +kernel, by decide, rfl⟩
theorem ykX6_count : yOK MX6_count := ⟨(bgT3 34 rfl rfl), (bgT1 1 rfl rfl), ⟨by decide +kernel, by decide +kernel⟩, by decide +kernel, by decide, rfl⟩
theorem ykX6_plan : yOK MX6_plan := ⟨(bgT3 42 rfl rfl), (bgT1 1 rfl rfl), ⟨by decide +kernel, by decide +kernel⟩, by decide +kernel, by decide, rfl⟩
theorem ykX6_planned : yOK MX6_planned := ⟨(bgT3 46 rfl rfl), (bgT1 1 rfl rfl), ⟨by decide +kernel, by decide +kernel⟩, by decide +kernel, by decide, rfl⟩
theorem ykX6_ifAway : yOK MX6_ifAway := ⟨(bgT3 53 rfl rfl), (bgT1 1 rfl rfl), ⟨by decide +kernel, by decide +kernel⟩, by decide +kernel, by decide, rfl⟩
theorem ykX6_bestSkill : yOK MX6_bestSkill := ⟨(bgT3 57 rfl rfl), (bgT1 1 rfl rfl), ⟨by decide +kernel, by decide +kernel⟩, by decide +kernel, by decide, rfl⟩
theorem ykX6_ifPassed : yOK MX6_ifPassed := ⟨(bgT3 66 rfl rfl), (bgT1 1 rfl rfl), ⟨by decide +kernel, by decide +kernel⟩, by decide +kernel, by decide, rfl⟩
theorem ykX6_untilOver : yOK MX6_untilOver := ⟨(bgT3 71 rfl rfl), (bgT1 1 rfl rfl), ⟨by decide +kernel, by decide +kernel⟩, by decide +kernel, by decide, rfl⟩
theorem ykX6_bestPart : yOK MX6_bestPart := ⟨(bgT3 77 rfl rfl), (bgT1 1 rfl rfl), ⟨by decide +kernel, by decide +kernel⟩, by decide +kernel, by decide, rfl⟩
theorem ykX6_put : yOK MX6_put := ⟨(bgT3 81 rfl rfl), (bgT1 1 rfl rfl), ⟨by decide +kernel, by decide +kernel⟩, by decide +kernel, by decide, rfl⟩
theorem ykX6_wipe : yOK MX6_wipe := ⟨(bgT3 93 rfl rfl), (bgT1 1 rfl rfl), ⟨by decide +kernel, by decide +kernel⟩, by decide +kernel, by decide, rfl⟩
theorem ykX6_fault : yOK MX6_fault := ⟨(bgT3 97 rfl rfl), (bgT1 1 rfl rfl), ⟨by decide +kernel, by decide +kernel⟩, by decide +kernel, by decide, rfl⟩
theorem ykX6_undo : yOK MX6_undo := ⟨(bgT3 101 rfl rfl), (bgT1 1 rfl rfl), ⟨by decide +kernel, by decide +kernel⟩, by decide +kernel, by decide, rfl⟩
theorem ykX6_save : yOK MX6_save := ⟨(bgT3 109 rfl rfl), (bgT1 1 rfl rfl), ⟨by decide +kernel, by decide +kernel⟩, by decide +kernel, by decide, rfl⟩
theorem ykX6_restore : yOK MX6_restore := ⟨(bgT3 113 rfl rfl), (bgT1 1 rfl rfl), ⟨by decide +kernel, by decide +kernel⟩, by decide +kernel, by decide, rfl⟩
theorem ykX6_isOutside : yOK MX6_isOutside := ⟨(bgT2 6 rfl rfl), (bgT1 1 rfl rfl), ⟨by decide +kernel, by decide +kernel⟩, by decide +kernel, by decide, rfl⟩
theorem ykX7_init : yOK MX7_init := ⟨(bgT3 118 rfl rfl), (bgT1 8 rfl rfl), ⟨by decide +kernel, by decide +kernel⟩, by decide +kernel, by decide, rfl⟩
theorem ykX7_moves : yOK MX7_moves := ⟨(bgT3 200 rfl rfl), (bgT1 8 rfl rfl), ⟨by decide +kernel, by decide +kernel⟩, by decide +kernel, by decide, rfl⟩
theorem ykX7_within : yOK MX7_within := ⟨(bgT3 193 rfl rfl), (bgT1 8 rfl rfl), ⟨by decide +kernel, by decide +kernel⟩, by decide +kernel, by decide, rfl⟩
theorem ykX7_record : yOK MX7_record := ⟨(bgT3 197 rfl rfl), (bgT1 8 rfl rfl), ⟨by decide +kernel, by decide +kernel⟩, by decide +kernel, by decide, rfl⟩
theorem ykX7_isFixer : yOK MX7_isFixer := ⟨(bgT3 216 rfl rfl), (bgT1 8 rfl rfl), ⟨by decide +kernel, by decide +kernel⟩, by decide +kernel, by decide, rfl⟩
theorem ykX7_isThing : yOK MX7_isThing := ⟨(bgT4 36 rfl rfl), (bgT1 8 rfl rfl), ⟨by decide +kernel, by decide +kernel⟩, by decide +kernel, by decide, rfl⟩
theorem ykX7_ofFixer : yOK MX7_ofFixer := ⟨(bgT3 220 rfl rfl), (bgT1 8 rfl rfl), ⟨by decide +kernel, by decide +kernel⟩, by decide +kernel, by decide, rfl⟩
theorem ykX7_setFixer : yOK MX7_setFixer := ⟨(bgT3 208 rfl rfl), (bgT1 8 rfl rfl), ⟨by decide +kernel, by decide +kernel⟩, by decide +kernel, by decide, rfl⟩
theorem ykX7_ofThing : yOK MX7_ofThing := ⟨(bgT4 40 rfl rfl), (bgT1 8 rfl rfl), ⟨by decide +kernel, by decide +kernel⟩, by decide +kernel, by decide, rfl⟩
theorem ykX7_setThing : yOK MX7_setThing := ⟨(bgT4 24 rfl rfl), (bgT1 8 rfl rfl), ⟨by decide +kernel, by decide +kernel⟩, by decide +kernel, by decide, rfl⟩
theorem ykX7_isTested : yOK MX7_isTested := ⟨(bgT4 72 rfl rfl), (bgT1 8 rfl rfl), ⟨by decide +kernel, by decide +kernel⟩, by decide +kernel, by decide, rfl⟩
theorem ykX7_nextStep : yOK MX7_nextStep := ⟨(bgT4 100 rfl rfl), (bgT1 8 rfl rfl), ⟨by decide +kernel, by decide +kernel⟩, by decide +kernel, by decide, rfl⟩
theorem ykX7_isInStock : yOK MX7_isInStock := ⟨(bgT4 104 rfl rfl), (bgT1 8 rfl rfl), ⟨by decide +kernel, by decide +kernel⟩, by decide +kernel, by decide, rfl⟩
theorem ykX7_has : yOK MX7_has := ⟨(bgT4 108 rfl rfl), (bgT1 8 rfl rfl), ⟨by decide +kernel, by decide +kernel⟩, by decide +kernel, by decide, rfl⟩
theorem ykX7_isFree : yOK MX7_isFree := ⟨(bgT4 84 rfl rfl), (bgT1 8 rfl rfl), ⟨by decide +kernel, by decide +kernel⟩, by decide +kernel, by decide, rfl⟩
theorem ykX7_waitsWithPart : yOK MX7_waitsWithPart := ⟨(bgT4 96 rfl rfl), (bgT1 8 rfl rfl), ⟨by decide +kernel, by decide +kernel⟩, by decide +kernel, by decide, rfl⟩
theorem ykX7_canTake : yOK MX7_canTake := ⟨(bgT4 92 rfl rfl), (bgT1 8 rfl rfl), ⟨by decide +kernel, by decide +kernel⟩, by decide +kernel, by decide, rfl⟩
theorem ykX7_inState : yOK MX7_inState := ⟨(bgT4 48 rfl rfl), (bgT1 8 rfl rfl), ⟨by decide +kernel, by decide +kernel⟩, by decide +kernel, by decide, rfl⟩
theorem ykX7_waitsAnew : yOK MX7_waitsAnew := ⟨(bgT4 44 rfl rfl), (bgT1 8 rfl rfl), ⟨by decide +kernel, by decide +kernel⟩, by decide +kernel, by decide, rfl⟩
theorem ykX7_takes : yOK MX7_takes := ⟨(bgT4 112 rfl rfl), (bgT1 8 rfl rfl), ⟨by decide +kernel, by decide +kernel⟩, by decide +kernel, by decide, rfl⟩
theorem ykX7_endsTest : yOK MX7_endsTest := ⟨(bgT4 76 rfl rfl), (bgT1 8 rfl rfl), ⟨by decide +kernel, by decide +kernel⟩, by decide +kernel, by decide, rfl⟩
theorem ykX7_endsStep : yOK MX7_endsStep := ⟨(bgT4 68 rfl rfl), (bgT1 8 rfl rfl), ⟨by decide +kernel, by decide +kernel⟩, by decide +kernel, by decide, rfl⟩
theorem ykX7_works : yOK MX7_works := ⟨(bgT4 64 rfl rfl), (bgT1 8 rfl rfl), ⟨by decide +kernel, by decide +kernel⟩, by decide +kernel, by decide, rfl⟩
theorem ykX7_longestFor : yOK MX7_longestFor := ⟨(bgT4 88 rfl rfl), (bgT1 8 rfl rfl), ⟨by decide +kernel, by decide +kernel⟩, by decide +kernel, by decide, rfl⟩
theorem ykX7_takeAll : yOK MX7_takeAll := ⟨(bgT4 80 rfl rfl), (bgT1 8 rfl rfl), ⟨by decide +kernel, by decide +kernel⟩, by decide +kernel, by decide, rfl⟩
theorem ykX7_waitOn : yOK MX7_waitOn := ⟨(bgT4 116 rfl rfl), (bgT1 8 rfl rfl), ⟨by decide +kernel, by decide +kernel⟩, by decide +kernel, by decide, rfl⟩
theorem ykX7_slot : yOK MX7_slot := ⟨(bgT4 60 rfl rfl), (bgT1 8 rfl rfl), ⟨by decide +kernel, by decide +kernel⟩, by decide +kernel, by decide, rfl⟩
theorem ykX7_passes : yOK MX7_passes := ⟨(bgT4 56 rfl rfl), (bgT1 8 rfl rfl), ⟨by decide +kernel, by decide +kernel⟩, by decide +kernel, by decide, rfl⟩
theorem ykX7_findAble : yOK MX7_findAble := ⟨(bgT4 128 rfl rfl), (bgT1 8 rfl rfl), ⟨by decide +kernel, by decide +kernel⟩, by decide +kernel, by decide, rfl⟩
theorem ykX7_findMore : yOK MX7_findMore := ⟨(bgT4 193 rfl rfl), (bgT1 8 rfl rfl), ⟨by decide +kernel, by decide +kernel⟩, by decide +kernel, by decide, rfl⟩
theorem ykX7_finds : yOK MX7_finds := ⟨(bgT4 137 rfl rfl), (bgT1 8 rfl rfl), ⟨by decide +kernel, by decide +kernel⟩, by decide +kernel, by decide, rfl⟩
theorem ykX7_most : yOK MX7_most := ⟨(bgT4 133 rfl rfl), (bgT1 8 rfl rfl), ⟨by decide +kernel, by decide +kernel⟩, by decide +kernel, by decide, rfl⟩
theorem ykX7_lowestFor : yOK MX7_lowestFor := ⟨(bgT4 141 rfl rfl), (bgT1 8 rfl rfl), ⟨by decide +kernel, by decide +kernel⟩, by decide +kernel, by decide, rfl⟩
theorem ykX7_findPlan : yOK MX7_findPlan := ⟨(bgT4 124 rfl rfl), (bgT1 8 rfl rfl), ⟨by decide +kernel, by decide +kernel⟩, by decide +kernel, by decide, rfl⟩
theorem ykX7_isValue : yOK MX7_isValue := ⟨(bgT3 190 rfl rfl), (bgT1 8 rfl rfl), ⟨by decide +kernel, by decide +kernel⟩, by decide +kernel, by decide, rfl⟩
theorem ykX7_set : yOK MX7_set := ⟨(bgT3 187 rfl rfl), (bgT1 8 rfl rfl), ⟨by decide +kernel, by decide +kernel⟩, by decide +kernel, by decide, rfl⟩
theorem ykX7_come : yOK MX7_come := ⟨(bgT3 204 rfl rfl), (bgT1 8 rfl rfl), ⟨by decide +kernel, by decide +kernel⟩, by decide +kernel, by decide, rfl⟩
theorem ykX7_those : yOK MX7_those := ⟨(bgT3 224 rfl rfl), (bgT1 8 rfl rfl), ⟨by decide +kernel, by decide +kernel⟩, by decide +kernel, by decide, rfl⟩
theorem ykX7_away : yOK MX7_away := ⟨(bgT3 212 rfl rfl), (bgT1 8 rfl rfl), ⟨by decide +kernel, by decide +kernel⟩, by decide +kernel, by decide, rfl⟩
theorem ykX7_toldMany : yOK MX7_toldMany := ⟨(bgT4 16 rfl rfl), (bgT1 8 rfl rfl), ⟨by decide +kernel, by decide +kernel⟩, by decide +kernel, by decide, rfl⟩
theorem ykX7_comes : yOK MX7_comes := ⟨(bgT4 20 rfl rfl), (bgT1 8 rfl rfl), ⟨by decide +kernel, by decide +kernel⟩, by decide +kernel, by decide, rfl⟩
theorem ykX7_bring : yOK MX7_bring := ⟨(bgT3 228 rfl rfl), (bgT1 8 rfl rfl), ⟨by decide +kernel, by decide +kernel⟩, by decide +kernel, by decide, rfl⟩
theorem ykX7_stock : yOK MX7_stock := ⟨(bgT4 28 rfl rfl), (bgT1 8 rfl rfl), ⟨by decide +kernel, by decide +kernel⟩, by decide +kernel, by decide, rfl⟩
theorem ykX7_again : yOK MX7_again := ⟨(bgT4 32 rfl rfl), (bgT1 8 rfl rfl), ⟨by decide +kernel, by decide +kernel⟩, by decide +kernel, by decide, rfl⟩
theorem ykX7_pass : yOK MX7_pass := ⟨(bgT4 52 rfl rfl), (bgT1 8 rfl rfl), ⟨by decide +kernel, by decide +kernel⟩, by decide +kernel, by decide, rfl⟩
theorem ykX7_giveOut : yOK MX7_giveOut := ⟨(bgT4 120 rfl rfl), (bgT1 8 rfl rfl), ⟨by decide +kernel, by decide +kernel⟩, by decide +kernel, by decide, rfl⟩
theorem ykX7_clear : yOK MX7_clear := ⟨(bgT4 145 rfl rfl), (bgT1 8 rfl rfl), ⟨by decide +kernel, by decide +kernel⟩, by decide +kernel, by decide, rfl⟩
theorem ykX7_fixer : yOK MX7_fixer := ⟨(bgT4 149 rfl rfl), (bgT1 8 rfl rfl), ⟨by decide +kernel, by decide +kernel⟩, by decide +kernel, by decide, rfl⟩
theorem ykX7_doer : yOK MX7_doer := ⟨(bgT4 157 rfl rfl), (bgT1 8 rfl rfl), ⟨by decide +kernel, by decide +kernel⟩, by decide +kernel, by decide, rfl⟩
theorem ykX7_skilled : yOK MX7_skilled := ⟨(bgT4 161 rfl rfl), (bgT1 8 rfl rfl), ⟨by decide +kernel, by decide +kernel⟩, by decide +kernel, by decide, rfl⟩
theorem ykX7_thing : yOK MX7_thing := ⟨(bgT4 153 rfl rfl), (bgT1 8 rfl rfl), ⟨by decide +kernel, by decide +kernel⟩, by decide +kernel, by decide, rfl⟩
theorem ykX7_step : yOK MX7_step := ⟨(bgT4 165 rfl rfl), (bgT1 8 rfl rfl), ⟨by decide +kernel, by decide +kernel⟩, by decide +kernel, by decide, rfl⟩
theorem ykX7_freeMany : yOK MX7_freeMany := ⟨(bgT4 173 rfl rfl), (bgT1 8 rfl rfl), ⟨by decide +kernel, by decide +kernel⟩, by decide +kernel, by decide, rfl⟩
theorem ykX7_count : yOK MX7_count := ⟨(bgT4 169 rfl rfl), (bgT1 8 rfl rfl), ⟨by decide +kernel, by decide +kernel⟩, by decide +kernel, by decide, rfl⟩
theorem ykX7_plan : yOK MX7_plan := ⟨(bgT4 177 rfl rfl), (bgT1 8 rfl rfl), ⟨by decide +kernel, by decide +kernel⟩, by decide +kernel, by decide, rfl⟩
theorem ykX7_planned : yOK MX7_planned := ⟨(bgT4 181 rfl rfl), (bgT1 8 rfl rfl), ⟨by decide +kernel, by decide +kernel⟩, by decide +kernel, by decide, rfl⟩
theorem ykX7_ifAway : yOK MX7_ifAway := ⟨(bgT4 185 rfl rfl), (bgT1 8 rfl rfl), ⟨by decide +kernel, by decide +kernel⟩, by decide +kernel, by decide, rfl⟩
theorem ykX7_bestSkill : yOK MX7_bestSkill := ⟨(bgT4 189 rfl rfl), (bgT1 8 rfl rfl), ⟨by decide +kernel, by decide +kernel⟩, by decide +kernel, by decide, rfl⟩
theorem ykX7_ifPassed : yOK MX7_ifPassed := ⟨(bgT4 197 rfl rfl), (bgT1 8 rfl rfl), ⟨by decide +kernel, by decide +kernel⟩, by decide +kernel, by decide, rfl⟩
theorem ykX7_isOver : yOK MX7_isOver := ⟨(bgT4 205 rfl rfl), (bgT1 8 rfl rfl), ⟨by decide +kernel, by decide +kernel⟩, by decide +kernel, by decide, rfl⟩
theorem ykX7_untilOver : yOK MX7_untilOver := ⟨(bgT4 201 rfl rfl), (bgT1 8 rfl rfl), ⟨by decide +kernel, by decide +kernel⟩, by decide +kernel, by decide, rfl⟩
theorem ykX7_bestPart : yOK MX7_bestPart := ⟨(bgT4 209 rfl rfl), (bgT1 8 rfl rfl), ⟨by decide +kernel, by decide +kernel⟩, by decide +kernel, by decide, rfl⟩
theorem ykX7_put : yOK MX7_put := ⟨(bgT4 213 rfl rfl), (bgT1 8 rfl rfl), ⟨by decide +kernel, by decide +kernel⟩, by decide +kernel, by decide, rfl⟩
theorem ykX7_wipe : yOK MX7_wipe := ⟨(bgT4 218 rfl rfl), (bgT1 8 rfl rfl), ⟨by decide +kernel, by decide +kernel⟩, by decide +kernel, by decide, rfl⟩
theorem ykX7_character : yOK MX7_character := ⟨(bgT4 8 rfl rfl), (bgT1 8 rfl rfl), ⟨by decide +kernel, by decide +kernel⟩, by decide +kernel, by decide, rfl⟩
theorem ykX7_isNext : yOK MX7_isNext := ⟨(bgT4 12 rfl rfl), (bgT1 8 rfl rfl), ⟨by decide +kernel, by decide +kernel⟩, by decide +kernel, by decide, rfl⟩
theorem ykX7_takeDigit : yOK MX7_takeDigit := ⟨(bgT4 4 rfl rfl), (bgT1 8 rfl rfl), ⟨by decide +kernel, by decide +kernel⟩, by decide +kernel, by decide, rfl⟩
theorem ykX7_readsStep : yOK MX7_readsStep := ⟨(bgT4 0 rfl rfl), (bgT1 8 rfl rfl), ⟨by decide +kernel, by decide +kernel⟩, by decide +kernel, by decide, rfl⟩
theorem ykX7_readsThing : yOK MX7_readsThing := ⟨(bgT3 236 rfl rfl), (bgT1 8 rfl rfl), ⟨by decide +kernel, by decide +kernel⟩, by decide +kernel, by decide, rfl⟩
theorem ykX7_findFault : yOK MX7_findFault := ⟨(bgT3 232 rfl rfl), (bgT1 8 rfl rfl), ⟨by decide +kernel, by decide +kernel⟩, by decide +kernel, by decide, rfl⟩
theorem ykX7_fault : yOK MX7_fault := ⟨(bgT4 222 rfl rfl), (bgT1 8 rfl rfl), ⟨by decide +kernel, by decide +kernel⟩, by decide +kernel, by decide, rfl⟩
theorem ykX7_undo : yOK MX7_undo := ⟨(bgT4 226 rfl rfl), (bgT1 8 rfl rfl), ⟨by decide +kernel, by decide +kernel⟩, by decide +kernel, by decide, rfl⟩
theorem ykX7_save : yOK MX7_save := ⟨(bgT4 230 rfl rfl), (bgT1 8 rfl rfl), ⟨by decide +kernel, by decide +kernel⟩, by decide +kernel, by decide, rfl⟩
theorem ykX7_restore : yOK MX7_restore := ⟨(bgT4 234 rfl rfl), (bgT1 8 rfl rfl), ⟨by decide +kernel, by decide +kernel⟩, by decide +kernel, by decide, rfl⟩
theorem ykJ6_bitCount_0f7a4 : yOK MJ6_bitCount_0f7a4 := ⟨(bgT2 229 rfl rfl), (bgT1 9 rfl rfl), ⟨by decide +kernel, by decide +kernel⟩, by decide +kernel, by decide, rfl⟩
theorem fL0_ok : ∀ q ∈ fL0, fOK 0 q := List.forall_mem_cons.mpr ⟨⟨by decide, by decide, (bgT1 34 rfl rfl)⟩, List.forall_mem_cons.mpr ⟨⟨by decide, by decide, (bgT1 38 rfl rfl)⟩, List.forall_mem_cons.mpr ⟨⟨by decide, by decide, (bgT1 41 rfl rfl)⟩, List.forall_mem_cons.mpr ⟨⟨by decide, by decide, (bgT1 50 rfl rfl)⟩, List.forall_mem_cons.mpr ⟨⟨by decide, by decide, (bgT1 44 rfl rfl)⟩, List.forall_mem_cons.mpr ⟨⟨by decide, by decide, (bgT1 47 rfl rfl)⟩, fun _ h => absurd h List.not_mem_nil⟩⟩⟩⟩⟩⟩
theorem fL1_ok : ∀ q ∈ fL1, fOK 1 q := List.forall_mem_cons.mpr ⟨⟨by decide, by decide, (bgT1 161 rfl rfl)⟩, List.forall_mem_cons.mpr ⟨⟨by decide, by decide, (bgT1 162 rfl rfl)⟩, fun _ h => absurd h List.not_mem_nil⟩⟩
theorem fL2_ok : ∀ q ∈ fL2, fOK 2 q := List.forall_mem_cons.mpr ⟨⟨by decide, by decide, (bgT1 113 rfl rfl)⟩, List.forall_mem_cons.mpr ⟨⟨by decide, by decide, (bgT1 116 rfl rfl)⟩, List.forall_mem_cons.mpr ⟨⟨by decide, by decide, (bgT1 118 rfl rfl)⟩, List.forall_mem_cons.mpr ⟨⟨by decide, by decide, (bgT1 125 rfl rfl)⟩, List.forall_mem_cons.mpr ⟨⟨by decide, by decide, (bgT1 127 rfl rfl)⟩, List.forall_mem_cons.mpr ⟨⟨by decide, by decide, (bgT1 120 rfl rfl)⟩, List.forall_mem_cons.mpr ⟨⟨by decide, by decide, (bgT1 123 rfl rfl)⟩, List.forall_mem_cons.mpr ⟨⟨by decide, by decide, (bgT1 129 rfl rfl)⟩, List.forall_mem_cons.mpr ⟨⟨by decide, by decide, (bgT1 131 rfl rfl)⟩, List.forall_mem_cons.mpr ⟨⟨by decide, by decide, (bgT1 43 rfl rfl)⟩, List.forall_mem_cons.mpr ⟨⟨by decide, by decide, (bgT1 36 rfl rfl)⟩, List.forall_mem_cons.mpr ⟨⟨by decide, by decide, (bgT1 45 rfl rfl)⟩, List.forall_mem_cons.mpr ⟨⟨by decide, by decide, (bgT1 85 rfl rfl)⟩, List.forall_mem_cons.mpr ⟨⟨by decide, by decide, (bgT1 49 rfl rfl)⟩, List.forall_mem_cons.mpr ⟨⟨by decide, by decide, (bgT1 40 rfl rfl)⟩, List.forall_mem_cons.mpr ⟨⟨by decide, by decide, (bgT1 52 rfl rfl)⟩, List.forall_mem_cons.mpr ⟨⟨by decide, by decide, (bgT1 88 rfl rfl)⟩, fun _ h => absurd h List.not_mem_nil⟩⟩⟩⟩⟩⟩⟩⟩⟩⟩⟩⟩⟩⟩⟩⟩⟩
theorem fL3_ok : ∀ q ∈ fL3, fOK 3 q := List.forall_mem_cons.mpr ⟨⟨by decide, by decide, (bgT1 178 rfl rfl)⟩, List.forall_mem_cons.mpr ⟨⟨by decide, by decide, (bgT1 179 rfl rfl)⟩, List.forall_mem_cons.mpr ⟨⟨by decide, by decide, (bgT1 185 rfl rfl)⟩, List.forall_mem_cons.mpr ⟨⟨by decide, by decide, (bgT1 181 rfl rfl)⟩, List.forall_mem_cons.mpr ⟨⟨by decide, by decide, (bgT1 183 rfl rfl)⟩, List.forall_mem_cons.mpr ⟨⟨by decide, by decide, (bgT1 92 rfl rfl)⟩, List.forall_mem_cons.mpr ⟨⟨by decide, by decide, (bgT1 79 rfl rfl)⟩, fun _ h => absurd h List.not_mem_nil⟩⟩⟩⟩⟩⟩⟩
theorem fL4_ok : ∀ q ∈ fL4, fOK 4 q := List.forall_mem_cons.mpr ⟨⟨by decide, by decide, (bgT1 203 rfl rfl)⟩, List.forall_mem_cons.mpr ⟨⟨by decide, by decide, (bgT1 205 rfl rfl)⟩, List.forall_mem_cons.mpr ⟨⟨by decide, by decide, (bgT1 207 rfl rfl)⟩, List.forall_mem_cons.mpr ⟨⟨by decide, by decide, (bgT1 121 rfl rfl)⟩, List.forall_mem_cons.mpr ⟨⟨by decide, by decide, (bgT1 208 rfl rfl)⟩, List.forall_mem_cons.mpr ⟨⟨by decide, by decide, (bgT1 114 rfl rfl)⟩, List.forall_mem_cons.mpr ⟨⟨by decide, by decide, (bgT1 35 rfl rfl)⟩, fun _ h => absurd h List.not_mem_nil⟩⟩⟩⟩⟩⟩⟩
theorem fL5_ok : ∀ q ∈ fL5, fOK 5 q := List.forall_mem_cons.mpr ⟨⟨by decide, by decide, (bgT1 72 rfl rfl)⟩, List.forall_mem_cons.mpr ⟨⟨by decide, by decide, (bgT1 74 rfl rfl)⟩, List.forall_mem_cons.mpr ⟨⟨by decide, by decide, (bgT1 76 rfl rfl)⟩, List.forall_mem_cons.mpr ⟨⟨by decide, by decide, (bgT1 78 rfl rfl)⟩, List.forall_mem_cons.mpr ⟨⟨by decide, by decide, (bgT1 81 rfl rfl)⟩, List.forall_mem_cons.mpr ⟨⟨by decide, by decide, (bgT1 89 rfl rfl)⟩, List.forall_mem_cons.mpr ⟨⟨by decide, by decide, (bgT1 91 rfl rfl)⟩, List.forall_mem_cons.mpr ⟨⟨by decide, by decide, (bgT1 83 rfl rfl)⟩, List.forall_mem_cons.mpr ⟨⟨by decide, by decide, (bgT1 86 rfl rfl)⟩, fun _ h => absurd h List.not_mem_nil⟩⟩⟩⟩⟩⟩⟩⟩⟩
theorem fL6_ok : ∀ q ∈ fL6, fOK 6 q := List.forall_mem_cons.mpr ⟨⟨by decide, by decide, (bgT1 218 rfl rfl)⟩, List.forall_mem_cons.mpr ⟨⟨by decide, by decide, (bgT1 219 rfl rfl)⟩, List.forall_mem_cons.mpr ⟨⟨by decide, by decide, (bgT1 220 rfl rfl)⟩, List.forall_mem_cons.mpr ⟨⟨by decide, by decide, (bgT1 221 rfl rfl)⟩, List.forall_mem_cons.mpr ⟨⟨by decide, by decide, (bgT1 222 rfl rfl)⟩, List.forall_mem_cons.mpr ⟨⟨by decide, by decide, (bgT1 223 rfl rfl)⟩, List.forall_mem_cons.mpr ⟨⟨by decide, by decide, (bgT1 224 rfl rfl)⟩, List.forall_mem_cons.mpr ⟨⟨by decide, by decide, (bgT1 126 rfl rfl)⟩, List.forall_mem_cons.mpr ⟨⟨by decide, by decide, (bgT1 128 rfl rfl)⟩, List.forall_mem_cons.mpr ⟨⟨by decide, by decide, (bgT1 122 rfl rfl)⟩, List.forall_mem_cons.mpr ⟨⟨by decide, by decide, (bgT1 115 rfl rfl)⟩, List.forall_mem_cons.mpr ⟨⟨by decide, by decide, (bgT1 42 rfl rfl)⟩, List.forall_mem_cons.mpr ⟨⟨by decide, by decide, (bgT1 124 rfl rfl)⟩, List.forall_mem_cons.mpr ⟨⟨by decide, by decide, (bgT1 184 rfl rfl)⟩, List.forall_mem_cons.mpr ⟨⟨by decide, by decide, (bgT1 180 rfl rfl)⟩, List.forall_mem_cons.mpr ⟨⟨by decide, by decide, (bgT1 182 rfl rfl)⟩, List.forall_mem_cons.mpr ⟨⟨by decide, by decide, (bgT1 119 rfl rfl)⟩, List.forall_mem_cons.mpr ⟨⟨by decide, by decide, (bgT1 117 rfl rfl)⟩, List.forall_mem_cons.mpr ⟨⟨by decide, by decide, (bgT1 84 rfl rfl)⟩, List.forall_mem_cons.mpr ⟨⟨by decide, by decide, (bgT1 206 rfl rfl)⟩, List.forall_mem_cons.mpr ⟨⟨by decide, by decide, (bgT1 37 rfl rfl)⟩, List.forall_mem_cons.mpr ⟨⟨by decide, by decide, (bgT1 39 rfl rfl)⟩, List.forall_mem_cons.mpr ⟨⟨by decide, by decide, (bgT1 46 rfl rfl)⟩, List.forall_mem_cons.mpr ⟨⟨by decide, by decide, (bgT1 48 rfl rfl)⟩, List.forall_mem_cons.mpr ⟨⟨by decide, by decide, (bgT1 51 rfl rfl)⟩, List.forall_mem_cons.mpr ⟨⟨by decide, by decide, (bgT1 80 rfl rfl)⟩, List.forall_mem_cons.mpr ⟨⟨by decide, by decide, (bgT1 82 rfl rfl)⟩, List.forall_mem_cons.mpr ⟨⟨by decide, by decide, (bgT1 87 rfl rfl)⟩, List.forall_mem_cons.mpr ⟨⟨by decide, by decide, (bgT1 90 rfl rfl)⟩, List.forall_mem_cons.mpr ⟨⟨by decide, by decide, (bgT1 93 rfl rfl)⟩, List.forall_mem_cons.mpr ⟨⟨by decide, by decide, (bgT1 73 rfl rfl)⟩, List.forall_mem_cons.mpr ⟨⟨by decide, by decide, (bgT1 75 rfl rfl)⟩, List.forall_mem_cons.mpr ⟨⟨by decide, by decide, (bgT1 77 rfl rfl)⟩, List.forall_mem_cons.mpr ⟨⟨by decide, by decide, (bgT1 130 rfl rfl)⟩, List.forall_mem_cons.mpr ⟨⟨by decide, by decide, (bgT1 132 rfl rfl)⟩, List.forall_mem_cons.mpr ⟨⟨by decide, by decide, (bgT1 163 rfl rfl)⟩, List.forall_mem_cons.mpr ⟨⟨by decide, by decide, (bgT1 204 rfl rfl)⟩, fun _ h => absurd h List.not_mem_nil⟩⟩⟩⟩⟩⟩⟩⟩⟩⟩⟩⟩⟩⟩⟩⟩⟩⟩⟩⟩⟩⟩⟩⟩⟩⟩⟩⟩⟩⟩⟩⟩⟩⟩⟩⟩⟩
theorem fL7_ok : ∀ q ∈ fL7, fOK 7 q := List.forall_mem_cons.mpr ⟨⟨by decide, by decide, (bgT3 120 rfl rfl)⟩, List.forall_mem_cons.mpr ⟨⟨by decide, by decide, (bgT3 121 rfl rfl)⟩, List.forall_mem_cons.mpr ⟨⟨by decide, by decide, (bgT3 122 rfl rfl)⟩, List.forall_mem_cons.mpr ⟨⟨by decide, by decide, (bgT3 124 rfl rfl)⟩, List.forall_mem_cons.mpr ⟨⟨by decide, by decide, (bgT3 125 rfl rfl)⟩, List.forall_mem_cons.mpr ⟨⟨by decide, by decide, (bgT3 126 rfl rfl)⟩, List.forall_mem_cons.mpr ⟨⟨by decide, by decide, (bgT3 131 rfl rfl)⟩, List.forall_mem_cons.mpr ⟨⟨by decide, by decide, (bgT3 132 rfl rfl)⟩, List.forall_mem_cons.mpr ⟨⟨by decide, by decide, (bgT3 133 rfl rfl)⟩, List.forall_mem_cons.mpr ⟨⟨by decide, by decide, (bgT3 134 rfl rfl)⟩, List.forall_mem_cons.mpr ⟨⟨by decide, by decide, (bgT3 135 rfl rfl)⟩, List.forall_mem_cons.mpr ⟨⟨by decide, by decide, (bgT3 136 rfl rfl)⟩, List.forall_mem_cons.mpr ⟨⟨by decide, by decide, (bgT3 138 rfl rfl)⟩, List.forall_mem_cons.mpr ⟨⟨by decide, by decide, (bgT3 123 rfl rfl)⟩, List.forall_mem_cons.mpr ⟨⟨by decide, by decide, (bgT3 130 rfl rfl)⟩, List.forall_mem_cons.mpr ⟨⟨by decide, by decide, (bgT3 128 rfl rfl)⟩, List.forall_mem_cons.mpr ⟨⟨by decide, by decide, (bgT3 129 rfl rfl)⟩, List.forall_mem_cons.mpr ⟨⟨by decide, by decide, (bgT3 127 rfl rfl)⟩, List.forall_mem_cons.mpr ⟨⟨by decide, by decide, (bgT3 139 rfl rfl)⟩, List.forall_mem_cons.mpr ⟨⟨by decide, by decide, (bgT3 140 rfl rfl)⟩, List.forall_mem_cons.mpr ⟨⟨by decide, by decide, (bgT3 137 rfl rfl)⟩, fun _ h => absurd h List.not_mem_nil⟩⟩⟩⟩⟩⟩⟩⟩⟩⟩⟩⟩⟩⟩⟩⟩⟩⟩⟩⟩⟩
theorem fL_ok (o : Nat) : ∀ q ∈ fL o, fOK o q := by
  unfold fL
  split
  · exact fL0_ok
  · exact fL1_ok
  · exact fL2_ok
  · exact fL3_ok
  · exact fL4_ok
  · exact fL5_ok
  · exact fL6_ok
  · exact fL7_ok
  · exact fun _ h => absurd h List.not_mem_nil
theorem mL0_ok : ∀ q ∈ mL0, mOK 0 q := List.forall_mem_cons.mpr ⟨⟨ykX0_becomeFree, (bgT2 39 rfl rfl), by decide +kernel, Or.inl ⟨rfl, by decide, (bgT2 40 rfl rfl), (bgT2 41 rfl rfl)⟩⟩, fun _ h => absurd h List.not_mem_nil⟩
theorem mL1_ok : ∀ q ∈ mL1, mOK 1 q := List.forall_mem_cons.mpr ⟨⟨ykX2_init, (bgT1 160 rfl rfl), by decide +kernel, Or.inr (Or.inr ⟨by decide, by decide, rfl, rfl, (bgT1 22 rfl rfl)⟩)⟩, List.forall_mem_cons.mpr ⟨⟨ykX1_dropOldest, (bgT2 11 rfl rfl), by decide +kernel, Or.inl ⟨rfl, by decide, (bgT2 12 rfl rfl), (bgT2 13 rfl rfl)⟩⟩, List.forall_mem_cons.mpr ⟨⟨ykX2_copyFrom, (bgT2 15 rfl rfl), by decide +kernel, Or.inl ⟨rfl, by decide, (bgT2 16 rfl rfl), (bgT2 17 rfl rfl)⟩⟩, fun _ h => absurd h List.not_mem_nil⟩⟩⟩
theorem mL2_ok : ∀ q ∈ mL2, mOK 2 q := List.forall_mem_cons.mpr ⟨⟨ykX0_init, by decide +kernel, by decide +kernel, Or.inr (Or.inr ⟨by decide, by decide, rfl, rfl, (bgT1 31 rfl rfl)⟩)⟩, List.forall_mem_cons.mpr ⟨⟨ykX5_init, by decide +kernel, by decide +kernel, Or.inr (Or.inr ⟨by decide, by decide, rfl, rfl, (bgT1 69 rfl rfl)⟩)⟩, List.forall_mem_cons.mpr ⟨⟨ykX0_copyFrom, (bgT2 19 rfl rfl), by decide +kernel, Or.inl ⟨rfl, by decide, (bgT2 20 rfl rfl), (bgT2 21 rfl rfl)⟩⟩, List.forall_mem_cons.mpr ⟨⟨ykX5_copyFrom, (bgT2 23 rfl rfl), by decide +kernel, Or.inl ⟨rfl, by decide, (bgT2 24 rfl rfl), (bgT2 25 rfl rfl)⟩⟩, List.forall_mem_cons.mpr ⟨⟨ykX0_start, (bgT2 35 rfl rfl), by decide +kernel, Or.inl ⟨rfl, by decide, (bgT2 36 rfl rfl), (bgT2 37 rfl rfl)⟩⟩, List.forall_mem_cons.mpr ⟨⟨ykX0_becomeFree, (bgT2 167 rfl rfl), by decide +kernel, Or.inl ⟨rfl, by decide, (bgT2 40 rfl rfl), (bgT2 41 rfl rfl)⟩⟩, List.forall_mem_cons.mpr ⟨⟨ykX0_canTakeMore, (bgT2 168 rfl rfl), by decide +kernel, Or.inl ⟨rfl, by decide, (bgT2 169 rfl rfl), (bgT2 170 rfl rfl)⟩⟩, List.forall_mem_cons.mpr ⟨⟨ykX2_thingsIn, (bgT2 149 rfl rfl), by decide +kernel, Or.inl ⟨rfl, by decide, (bgT2 134 rfl rfl), (bgT2 135 rfl rfl)⟩⟩, List.forall_mem_cons.mpr ⟨⟨ykX2_isFor, (bgT2 176 rfl rfl), by decide +kernel, Or.inl ⟨rfl, by decide, (bgT2 177 rfl rfl), (bgT2 178 rfl rfl)⟩⟩, List.forall_mem_cons.mpr ⟨⟨ykX5_nextSkill, (bgT2 180 rfl rfl), by decide +kernel, Or.inl ⟨rfl, by decide, (bgT2 181 rfl rfl), (bgT2 182 rfl rfl)⟩⟩, List.forall_mem_cons.mpr ⟨⟨ykX5_nextPart, (bgT2 184 rfl rfl), by decide +kernel, Or.inl ⟨rfl, by decide, (bgT2 185 rfl rfl), (bgT2 186 rfl rfl)⟩⟩, List.forall_mem_cons.mpr ⟨⟨ykX2_isInStock, (bgT2 188 rfl rfl), by decide +kernel, Or.inl ⟨rfl, by decide, (bgT2 189 rfl rfl), (bgT2 190 rfl rfl)⟩⟩, List.forall_mem_cons.mpr ⟨⟨ykX2_hasThing, (bgT2 158 rfl rfl), by decide +kernel, Or.inl ⟨rfl, by decide, (bgT2 129 rfl rfl), (bgT2 130 rfl rfl)⟩⟩, List.forall_mem_cons.mpr ⟨⟨ykX5_nextWork, (bgT2 196 rfl rfl), by decide +kernel, Or.inl ⟨rfl, by decide, (bgT2 197 rfl rfl), (bgT2 198 rfl rfl)⟩⟩, List.forall_mem_cons.mpr ⟨⟨ykX5_leaveQueue, (bgT2 200 rfl rfl), by decide +kernel, Or.inl ⟨rfl, by decide, (bgT2 164 rfl rfl), (bgT2 165 rfl rfl)⟩⟩, List.forall_mem_cons.mpr ⟨⟨ykX2_isOver, (bgT2 145 rfl rfl), by decide +kernel, Or.inl ⟨rfl, by decide, (bgT2 146 rfl rfl), (bgT2 147 rfl rfl)⟩⟩, List.forall_mem_cons.mpr ⟨⟨ykX2_letOnePass, (bgT2 150 rfl rfl), by decide +kernel, Or.inl ⟨rfl, by decide, (bgT2 151 rfl rfl), (bgT2 152 rfl rfl)⟩⟩, List.forall_mem_cons.mpr ⟨⟨ykX2_work, (bgT2 154 rfl rfl), by decide +kernel, Or.inl ⟨rfl, by decide, (bgT2 155 rfl rfl), (bgT2 156 rfl rfl)⟩⟩, List.forall_mem_cons.mpr ⟨⟨ykX2_longestWaiting, (bgT2 172 rfl rfl), by decide +kernel, Or.inl ⟨rfl, by decide, (bgT2 173 rfl rfl), (bgT2 174 rfl rfl)⟩⟩, List.forall_mem_cons.mpr ⟨⟨ykX2_takeIfInStock, (bgT2 192 rfl rfl), by decide +kernel, Or.inl ⟨rfl, by decide, (bgT2 193 rfl rfl), (bgT2 194 rfl rfl)⟩⟩, List.forall_mem_cons.mpr ⟨⟨ykX2_waitOn, (bgT2 201 rfl rfl), by decide +kernel, Or.inl ⟨rfl, by decide, (bgT2 202 rfl rfl), (bgT2 203 rfl rfl)⟩⟩, List.forall_mem_cons.mpr ⟨⟨ykX5_endStep, (bgT2 159 rfl rfl), by decide +kernel, Or.inl ⟨rfl, by decide, (bgT2 160 rfl rfl), (bgT2 161 rfl rfl)⟩⟩, fun _ h => absurd h List.not_mem_nil⟩⟩⟩⟩⟩⟩⟩⟩⟩⟩⟩⟩⟩⟩⟩⟩⟩⟩⟩⟩⟩⟩
theorem mL3_ok : ∀ q ∈ mL3, mOK 3 q := List.forall_mem_cons.mpr ⟨⟨ykX5_init, by decide +kernel, by decide +kernel, Or.inr (Or.inr ⟨by decide, by decide, rfl, rfl, (bgT1 69 rfl rfl)⟩)⟩, List.forall_mem_cons.mpr ⟨⟨ykX6_isOutside, by decide +kernel, by decide +kernel, Or.inr (Or.inl ⟨by decide, (bgT2 5 rfl rfl)⟩)⟩, List.forall_mem_cons.mpr ⟨⟨ykX3_placeBehind, (bgT2 63 rfl rfl), by decide +kernel, Or.inl ⟨rfl, by decide, (bgT2 64 rfl rfl), (bgT2 65 rfl rfl)⟩⟩, List.forall_mem_cons.mpr ⟨⟨ykX3_readFirstSkill, (bgT2 68 rfl rfl), by decide +kernel, Or.inl ⟨rfl, by decide, (bgT2 69 rfl rfl), (bgT2 70 rfl rfl)⟩⟩, List.forall_mem_cons.mpr ⟨⟨ykX3_readSkill, (bgT2 80 rfl rfl), by decide +kernel, Or.inl ⟨rfl, by decide, (bgT2 81 rfl rfl), (bgT2 82 rfl rfl)⟩⟩, List.forall_mem_cons.mpr ⟨⟨ykX3_readWork, (bgT2 88 rfl rfl), by decide +kernel, Or.inl ⟨rfl, by decide, (bgT2 89 rfl rfl), (bgT2 90 rfl rfl)⟩⟩, List.forall_mem_cons.mpr ⟨⟨ykX3_readPart, (bgT2 100 rfl rfl), by decide +kernel, Or.inl ⟨rfl, by decide, (bgT2 101 rfl rfl), (bgT2 102 rfl rfl)⟩⟩, List.forall_mem_cons.mpr ⟨⟨ykX3_readWeakness, (bgT2 108 rfl rfl), by decide +kernel, Or.inl ⟨rfl, by decide, (bgT2 109 rfl rfl), (bgT2 110 rfl rfl)⟩⟩, List.forall_mem_cons.mpr ⟨⟨ykX3_placeBehindMark, (bgT2 112 rfl rfl), by decide +kernel, Or.inl ⟨rfl, by decide, (bgT2 113 rfl rfl), (bgT2 114 rfl rfl)⟩⟩, List.forall_mem_cons.mpr ⟨⟨ykX5_start, (bgT2 72 rfl rfl), by decide +kernel, Or.inl ⟨rfl, by decide, (bgT2 73 rfl rfl), (bgT2 74 rfl rfl)⟩⟩, List.forall_mem_cons.mpr ⟨⟨ykX5_addStep, (bgT2 84 rfl rfl), by decide +kernel, Or.inl ⟨rfl, by decide, (bgT2 85 rfl rfl), (bgT2 86 rfl rfl)⟩⟩, List.forall_mem_cons.mpr ⟨⟨ykX5_setLastWork, (bgT2 92 rfl rfl), by decide +kernel, Or.inl ⟨rfl, by decide, (bgT2 93 rfl rfl), (bgT2 94 rfl rfl)⟩⟩, List.forall_mem_cons.mpr ⟨⟨ykX5_setLastPart, (bgT2 104 rfl rfl), by decide +kernel, Or.inl ⟨rfl, by decide, (bgT2 105 rfl rfl), (bgT2 106 rfl rfl)⟩⟩, fun _ h => absurd h List.not_mem_nil⟩⟩⟩⟩⟩⟩⟩⟩⟩⟩⟩⟩⟩
theorem mL4_ok : ∀ q ∈ mL4, mOK 4 q := List.forall_mem_cons.mpr ⟨⟨ykX0_canTakeMore, (bgT2 217 rfl rfl), by decide +kernel, Or.inl ⟨rfl, by decide, (bgT2 169 rfl rfl), (bgT2 170 rfl rfl)⟩⟩, List.forall_mem_cons.mpr ⟨⟨ykX2_thingsFor, (bgT2 218 rfl rfl), by decide +kernel, Or.inl ⟨rfl, by decide, (bgT2 219 rfl rfl), (bgT2 220 rfl rfl)⟩⟩, List.forall_mem_cons.mpr ⟨⟨ykJ6_bitCount_0f7a4, (bgT2 227 rfl rfl), by decide +kernel, Or.inr (Or.inl ⟨by decide, (bgT2 228 rfl rfl)⟩)⟩, List.forall_mem_cons.mpr ⟨⟨ykX4_lookAt, (bgT2 213 rfl rfl), by decide +kernel, Or.inl ⟨rfl, by decide, (bgT2 214 rfl rfl), (bgT2 215 rfl rfl)⟩⟩, List.forall_mem_cons.mpr ⟨⟨ykX4_mostServed, (bgT2 223 rfl rfl), by decide +kernel, Or.inl ⟨rfl, by decide, (bgT2 224 rfl rfl), (bgT2 225 rfl rfl)⟩⟩, List.forall_mem_cons.mpr ⟨⟨ykX4_lowestFor, (bgT2 236 rfl rfl), by decide +kernel, Or.inl ⟨rfl, by decide, (bgT2 237 rfl rfl), (bgT2 238 rfl rfl)⟩⟩, fun _ h => absurd h List.not_mem_nil⟩⟩⟩⟩⟩⟩
theorem mL5_ok : ∀ q ∈ mL5, mOK 5 q := List.forall_mem_cons.mpr ⟨⟨ykX5_becomeWaiting, (bgT2 76 rfl rfl), by decide +kernel, Or.inl ⟨rfl, by decide, (bgT2 77 rfl rfl), (bgT2 78 rfl rfl)⟩⟩, List.forall_mem_cons.mpr ⟨⟨ykX5_hasStep, (bgT2 96 rfl rfl), by decide +kernel, Or.inl ⟨rfl, by decide, (bgT2 97 rfl rfl), (bgT2 98 rfl rfl)⟩⟩, List.forall_mem_cons.mpr ⟨⟨ykX5_leaveQueue, (bgT2 163 rfl rfl), by decide +kernel, Or.inl ⟨rfl, by decide, (bgT2 164 rfl rfl), (bgT2 165 rfl rfl)⟩⟩, fun _ h => absurd h List.not_mem_nil⟩⟩⟩
theorem mL6_ok : ∀ q ∈ mL6, mOK 6 q := List.forall_mem_cons.mpr ⟨⟨ykX2_init, (bgT1 21 rfl rfl), by decide +kernel, Or.inr (Or.inr ⟨by decide, by decide, rfl, rfl, (bgT1 22 rfl rfl)⟩)⟩, List.forall_mem_cons.mpr ⟨⟨ykX1_init, (bgT1 155 rfl rfl), by decide +kernel, Or.inr (Or.inr ⟨by decide, by decide, rfl, rfl, (bgT1 156 rfl rfl)⟩)⟩, List.forall_mem_cons.mpr ⟨⟨ykX3_init, (bgT1 172 rfl rfl), by decide +kernel, Or.inr (Or.inr ⟨by decide, by decide, rfl, rfl, (bgT1 173 rfl rfl)⟩)⟩, List.forall_mem_cons.mpr ⟨⟨ykX4_init, by decide +kernel, by decide +kernel, Or.inr (Or.inr ⟨by decide, by decide, rfl, rfl, (bgT1 200 rfl rfl)⟩)⟩, List.forall_mem_cons.mpr ⟨⟨ykX6_isOutside, (bgT2 4 rfl rfl), by decide +kernel, Or.inr (Or.inl ⟨by decide, (bgT2 5 rfl rfl)⟩)⟩, List.forall_mem_cons.mpr ⟨⟨ykX1_keep, (bgT2 7 rfl rfl), by decide +kernel, Or.inl ⟨rfl, by decide, (bgT2 8 rfl rfl), (bgT2 9 rfl rfl)⟩⟩, List.forall_mem_cons.mpr ⟨⟨ykX2_addFixer, (bgT2 31 rfl rfl), by decide +kernel, Or.inl ⟨rfl, by decide, (bgT2 32 rfl rfl), (bgT2 33 rfl rfl)⟩⟩, List.forall_mem_cons.mpr ⟨⟨ykX2_hasFixer, (bgT2 47 rfl rfl), by decide +kernel, Or.inl ⟨rfl, by decide, (bgT2 48 rfl rfl), (bgT2 49 rfl rfl)⟩⟩, List.forall_mem_cons.mpr ⟨⟨ykX2_fixersThere, (bgT2 51 rfl rfl), by decide +kernel, Or.inl ⟨rfl, by decide, (bgT2 52 rfl rfl), (bgT2 53 rfl rfl)⟩⟩, List.forall_mem_cons.mpr ⟨⟨ykX3_readThings, (bgT2 59 rfl rfl), by decide +kernel, Or.inl ⟨rfl, by decide, (bgT2 60 rfl rfl), (bgT2 61 rfl rfl)⟩⟩, List.forall_mem_cons.mpr ⟨⟨ykX2_addThing, (bgT2 116 rfl rfl), by decide +kernel, Or.inl ⟨rfl, by decide, (bgT2 117 rfl rfl), (bgT2 118 rfl rfl)⟩⟩, List.forall_mem_cons.mpr ⟨⟨ykX2_hasThing, (bgT2 128 rfl rfl), by decide +kernel, Or.inl ⟨rfl, by decide, (bgT2 129 rfl rfl), (bgT2 130 rfl rfl)⟩⟩, List.forall_mem_cons.mpr ⟨⟨ykX5_becomeWaiting, (bgT2 132 rfl rfl), by decide +kernel, Or.inl ⟨rfl, by decide, (bgT2 77 rfl rfl), (bgT2 78 rfl rfl)⟩⟩, List.forall_mem_cons.mpr ⟨⟨ykX2_thingsIn, (bgT2 133 rfl rfl), by decide +kernel, Or.inl ⟨rfl, by decide, (bgT2 134 rfl rfl), (bgT2 135 rfl rfl)⟩⟩, List.forall_mem_cons.mpr ⟨⟨ykX2_letPass, (bgT2 141 rfl rfl), by decide +kernel, Or.inl ⟨rfl, by decide, (bgT2 142 rfl rfl), (bgT2 143 rfl rfl)⟩⟩, List.forall_mem_cons.mpr ⟨⟨ykX4_makePlan, (bgT2 209 rfl rfl), by decide +kernel, Or.inl ⟨rfl, by decide, (bgT2 210 rfl rfl), (bgT2 211 rfl rfl)⟩⟩, List.forall_mem_cons.mpr ⟨⟨ykX2_takeIfInStock, (bgT3 0 rfl rfl), by decide +kernel, Or.inl ⟨rfl, by decide, (bgT2 193 rfl rfl), (bgT2 194 rfl rfl)⟩⟩, List.forall_mem_cons.mpr ⟨⟨ykX2_removeThings, (bgT3 5 rfl rfl), by decide +kernel, Or.inl ⟨rfl, by decide, (bgT3 6 rfl rfl), (bgT3 7 rfl rfl)⟩⟩, List.forall_mem_cons.mpr ⟨⟨ykX2_fixerOf, (bgT3 17 rfl rfl), by decide +kernel, Or.inl ⟨rfl, by decide, (bgT3 18 rfl rfl), (bgT3 19 rfl rfl)⟩⟩, List.forall_mem_cons.mpr ⟨⟨ykX5_nextSkill, (bgT3 21 rfl rfl), by decide +kernel, Or.inl ⟨rfl, by decide, (bgT2 181 rfl rfl), (bgT2 182 rfl rfl)⟩⟩, List.forall_mem_cons.mpr ⟨⟨ykX2_fixersWith, (bgT3 22 rfl rfl), by decide +kernel, Or.inl ⟨rfl, by decide, (bgT3 23 rfl rfl), (bgT3 24 rfl rfl)⟩⟩, List.forall_mem_cons.mpr ⟨⟨ykX5_hasStep, (bgT3 30 rfl rfl), by decide +kernel, Or.inl ⟨rfl, by decide, (bgT2 97 rfl rfl), (bgT2 98 rfl rfl)⟩⟩, List.forall_mem_cons.mpr ⟨⟨ykX2_freeFixers, (bgT3 35 rfl rfl), by decide +kernel, Or.inl ⟨rfl, by decide, (bgT3 36 rfl rfl), (bgT3 37 rfl rfl)⟩⟩, List.forall_mem_cons.mpr ⟨⟨ykX4_lookAt, (bgT3 47 rfl rfl), by decide +kernel, Or.inl ⟨rfl, by decide, (bgT2 214 rfl rfl), (bgT2 215 rfl rfl)⟩⟩, List.forall_mem_cons.mpr ⟨⟨ykX4_mostServed, (bgT3 49 rfl rfl), by decide +kernel, Or.inl ⟨rfl, by decide, (bgT2 224 rfl rfl), (bgT2 225 rfl rfl)⟩⟩, List.forall_mem_cons.mpr ⟨⟨ykX2_thingsFor, (bgT3 58 rfl rfl), by decide +kernel, Or.inl ⟨rfl, by decide, (bgT2 219 rfl rfl), (bgT2 220 rfl rfl)⟩⟩, List.forall_mem_cons.mpr ⟨⟨ykX4_addFixer, (bgT3 59 rfl rfl), by decide +kernel, Or.inl ⟨rfl, by decide, (bgT3 60 rfl rfl), (bgT3 61 rfl rfl)⟩⟩, List.forall_mem_cons.mpr ⟨⟨ykX2_copyFrom, (bgT3 67 rfl rfl), by decide +kernel, Or.inl ⟨rfl, by decide, (bgT2 16 rfl rfl), (bgT2 17 rfl rfl)⟩⟩, List.forall_mem_cons.mpr ⟨⟨ykX2_isOver, (bgT3 72 rfl rfl), by decide +kernel, Or.inl ⟨rfl, by decide, (bgT2 146 rfl rfl), (bgT2 147 rfl rfl)⟩⟩, List.forall_mem_cons.mpr ⟨⟨ykX2_letOnePass, (bgT3 73 rfl rfl), by decide +kernel, Or.inl ⟨rfl, by decide, (bgT2 151 rfl rfl), (bgT2 152 rfl rfl)⟩⟩, List.forall_mem_cons.mpr ⟨⟨ykX3_signsIn, (bgT3 82 rfl rfl), by decide +kernel, Or.inr (Or.inl ⟨by decide, (bgT3 83 rfl rfl)⟩)⟩, List.forall_mem_cons.mpr ⟨⟨ykX3_append, (bgT3 86 rfl rfl), by decide +kernel, Or.inl ⟨rfl, by decide, (bgT3 87 rfl rfl), (bgT3 88 rfl rfl)⟩⟩, List.forall_mem_cons.mpr ⟨⟨ykX1_takeBack, (bgT3 102 rfl rfl), by decide +kernel, Or.inl ⟨rfl, by decide, (bgT3 103 rfl rfl), (bgT3 104 rfl rfl)⟩⟩, fun _ h => absurd h List.not_mem_nil⟩⟩⟩⟩⟩⟩⟩⟩⟩⟩⟩⟩⟩⟩⟩⟩⟩⟩⟩⟩⟩⟩⟩⟩⟩⟩⟩⟩⟩⟩⟩⟩⟩
theorem mL7_ok : ∀ q ∈ mL7, mOK 7 q := List.forall_mem_cons.mpr ⟨⟨ykX7_moves, (bgT3 198 rfl rfl), by decide +kernel, Or.inr (Or.inl ⟨by decide, (bgT3 199 rfl rfl)⟩)⟩, List.forall_mem_cons.mpr ⟨⟨ykX7_within, (bgT3 191 rfl rfl), by decide +kernel, Or.inr (Or.inl ⟨by decide, (bgT3 192 rfl rfl)⟩)⟩, List.forall_mem_cons.mpr ⟨⟨ykX7_ofThing, (bgT4 37 rfl rfl), by decide +kernel, Or.inl ⟨rfl, by decide, (bgT4 39 rfl rfl), (bgS (q := (yX7_ofThing, 21)) 15 rfl)⟩⟩, List.forall_mem_cons.mpr ⟨⟨ykX7_isTested, (bgT4 69 rfl rfl), by decide +kernel, Or.inl ⟨rfl, by decide, (bgT4 71 rfl rfl), (bgS (q := (yX7_isTested, 21)) 22 rfl)⟩⟩, List.forall_mem_cons.mpr ⟨⟨ykX7_ofFixer, (bgT3 217 rfl rfl), by decide +kernel, Or.inl ⟨rfl, by decide, (bgT3 219 rfl rfl), (bgS (q := (yX7_ofFixer, 21)) 3 rfl)⟩⟩, List.forall_mem_cons.mpr ⟨⟨ykX7_nextStep, (bgT4 97 rfl rfl), by decide +kernel, Or.inl ⟨rfl, by decide, (bgT4 99 rfl rfl), (bgS (q := (yX7_nextStep, 21)) 29 rfl)⟩⟩, List.forall_mem_cons.mpr ⟨⟨ykX7_isInStock, (bgT4 101 rfl rfl), by decide +kernel, Or.inl ⟨rfl, by decide, (bgT4 103 rfl rfl), (bgS (q := (yX7_isInStock, 21)) 30 rfl)⟩⟩, List.forall_mem_cons.mpr ⟨⟨ykX7_isFree, (bgT4 81 rfl rfl), by decide +kernel, Or.inl ⟨rfl, by decide, (bgT4 83 rfl rfl), (bgS (q := (yX7_isFree, 21)) 25 rfl)⟩⟩, List.forall_mem_cons.mpr ⟨⟨ykX7_waitsWithPart, (bgT4 93 rfl rfl), by decide +kernel, Or.inl ⟨rfl, by decide, (bgT4 95 rfl rfl), (bgS (q := (yX7_waitsWithPart, 21)) 28 rfl)⟩⟩, List.forall_mem_cons.mpr ⟨⟨ykX7_has, (bgT4 105 rfl rfl), by decide +kernel, Or.inl ⟨rfl, by decide, (bgT4 107 rfl rfl), (bgS (q := (yX7_has, 21)) 31 rfl)⟩⟩, List.forall_mem_cons.mpr ⟨⟨ykX7_setThing, (bgT4 21 rfl rfl), by decide +kernel, Or.inl ⟨rfl, by decide, (bgT4 23 rfl rfl), (bgS (q := (yX7_setThing, 21)) 13 rfl)⟩⟩, List.forall_mem_cons.mpr ⟨⟨ykX7_setFixer, (bgT3 205 rfl rfl), by decide +kernel, Or.inl ⟨rfl, by decide, (bgT3 207 rfl rfl), (bgS (q := (yX7_setFixer, 21)) 1 rfl)⟩⟩, List.forall_mem_cons.mpr ⟨⟨ykX7_waitsAnew, (bgT4 41 rfl rfl), by decide +kernel, Or.inl ⟨rfl, by decide, (bgT4 43 rfl rfl), (bgS (q := (yX7_waitsAnew, 21)) 16 rfl)⟩⟩, List.forall_mem_cons.mpr ⟨⟨ykX7_endsTest, (bgT4 73 rfl rfl), by decide +kernel, Or.inl ⟨rfl, by decide, (bgT4 75 rfl rfl), (bgS (q := (yX7_endsTest, 21)) 23 rfl)⟩⟩, List.forall_mem_cons.mpr ⟨⟨ykX7_endsStep, (bgT4 65 rfl rfl), by decide +kernel, Or.inl ⟨rfl, by decide, (bgT4 67 rfl rfl), (bgS (q := (yX7_endsStep, 21)) 21 rfl)⟩⟩, List.forall_mem_cons.mpr ⟨⟨ykX7_canTake, (bgT4 89 rfl rfl), by decide +kernel, Or.inl ⟨rfl, by decide, (bgT4 91 rfl rfl), (bgS (q := (yX7_canTake, 21)) 27 rfl)⟩⟩, List.forall_mem_cons.mpr ⟨⟨ykX7_longestFor, (bgT4 85 rfl rfl), by decide +kernel, Or.inl ⟨rfl, by decide, (bgT4 87 rfl rfl), (bgS (q := (yX7_longestFor, 21)) 26 rfl)⟩⟩, List.forall_mem_cons.mpr ⟨⟨ykX7_takes, (bgT4 109 rfl rfl), by decide +kernel, Or.inl ⟨rfl, by decide, (bgT4 111 rfl rfl), (bgS (q := (yX7_takes, 21)) 32 rfl)⟩⟩, List.forall_mem_cons.mpr ⟨⟨ykX7_works, (bgT4 61 rfl rfl), by decide +kernel, Or.inl ⟨rfl, by decide, (bgT4 63 rfl rfl), (bgS (q := (yX7_works, 21)) 20 rfl)⟩⟩, List.forall_mem_cons.mpr ⟨⟨ykX7_takeAll, (bgT4 77 rfl rfl), by decide +kernel, Or.inl ⟨rfl, by decide, (bgT4 79 rfl rfl), (bgS (q := (yX7_takeAll, 21)) 24 rfl)⟩⟩, List.forall_mem_cons.mpr ⟨⟨ykX7_waitOn, (bgT4 113 rfl rfl), by decide +kernel, Or.inl ⟨rfl, by decide, (bgT4 115 rfl rfl), (bgS (q := (yX7_waitOn, 21)) 33 rfl)⟩⟩, List.forall_mem_cons.mpr ⟨⟨ykX7_slot, (bgT4 57 rfl rfl), by decide +kernel, Or.inl ⟨rfl, by decide, (bgT4 59 rfl rfl), (bgS (q := (yX7_slot, 21)) 19 rfl)⟩⟩, List.forall_mem_cons.mpr ⟨⟨ykX7_finds, (bgT4 134 rfl rfl), by decide +kernel, Or.inl ⟨rfl, by decide, (bgT4 136 rfl rfl), (bgS (q := (yX7_finds, 21)) 37 rfl)⟩⟩, List.forall_mem_cons.mpr ⟨⟨ykX7_most, (bgT4 130 rfl rfl), by decide +kernel, Or.inl ⟨rfl, by decide, (bgT4 132 rfl rfl), (bgS (q := (yX7_most, 21)) 36 rfl)⟩⟩, List.forall_mem_cons.mpr ⟨⟨ykX7_findAble, (bgT4 125 rfl rfl), by decide +kernel, Or.inl ⟨rfl, by decide, (bgT4 127 rfl rfl), (bgS (q := (yX7_findAble, 21)) 35 rfl)⟩⟩, List.forall_mem_cons.mpr ⟨⟨ykX7_lowestFor, (bgT4 138 rfl rfl), by decide +kernel, Or.inl ⟨rfl, by decide, (bgT4 140 rfl rfl), (bgS (q := (yX7_lowestFor, 21)) 38 rfl)⟩⟩, List.forall_mem_cons.mpr ⟨⟨ykX7_isValue, (bgT3 188 rfl rfl), by decide +kernel, Or.inr (Or.inl ⟨by decide, (bgT3 189 rfl rfl)⟩)⟩, List.forall_mem_cons.mpr ⟨⟨ykX7_record, (bgT3 194 rfl rfl), by decide +kernel, Or.inl ⟨rfl, by decide, (bgT3 196 rfl rfl), (bgS (q := (yX7_record, 21)) 0 rfl)⟩⟩, List.forall_mem_cons.mpr ⟨⟨ykX7_isFixer, (bgT3 213 rfl rfl), by decide +kernel, Or.inl ⟨rfl, by decide, (bgT3 215 rfl rfl), (bgS (q := (yX7_isFixer, 21)) 2 rfl)⟩⟩, List.forall_mem_cons.mpr ⟨⟨ykX7_those, (bgT3 221 rfl rfl), by decide +kernel, Or.inl ⟨rfl, by decide, (bgT3 223 rfl rfl), (bgS (q := (yX7_those, 21)) 4 rfl)⟩⟩, List.forall_mem_cons.mpr ⟨⟨ykX7_findFault, (bgT3 229 rfl rfl), by decide +kernel, Or.inl ⟨rfl, by decide, (bgT3 231 rfl rfl), (bgS (q := (yX7_findFault, 21)) 5 rfl)⟩⟩, List.forall_mem_cons.mpr ⟨⟨ykX7_toldMany, (bgT4 13 rfl rfl), by decide +kernel, Or.inl ⟨rfl, by decide, (bgT4 15 rfl rfl), (bgS (q := (yX7_toldMany, 21)) 11 rfl)⟩⟩, List.forall_mem_cons.mpr ⟨⟨ykX7_readsThing, (bgT3 233 rfl rfl), by decide +kernel, Or.inl ⟨rfl, by decide, (bgT3 235 rfl rfl), (bgS (q := (yX7_readsThing, 21)) 6 rfl)⟩⟩, List.forall_mem_cons.mpr ⟨⟨ykX7_isNext, (bgT4 9 rfl rfl), by decide +kernel, Or.inl ⟨rfl, by decide, (bgT4 11 rfl rfl), (bgS (q := (yX7_isNext, 21)) 10 rfl)⟩⟩, List.forall_mem_cons.mpr ⟨⟨ykX7_comes, (bgT4 17 rfl rfl), by decide +kernel, Or.inl ⟨rfl, by decide, (bgT4 19 rfl rfl), (bgS (q := (yX7_comes, 21)) 12 rfl)⟩⟩, List.forall_mem_cons.mpr ⟨⟨ykX7_isThing, (bgT4 33 rfl rfl), by decide +kernel, Or.inl ⟨rfl, by decide, (bgT4 35 rfl rfl), (bgS (q := (yX7_isThing, 21)) 14 rfl)⟩⟩, List.forall_mem_cons.mpr ⟨⟨ykX7_inState, (bgT4 45 rfl rfl), by decide +kernel, Or.inl ⟨rfl, by decide, (bgT4 47 rfl rfl), (bgS (q := (yX7_inState, 21)) 17 rfl)⟩⟩, List.forall_mem_cons.mpr ⟨⟨ykX7_passes, (bgT4 53 rfl rfl), by decide +kernel, Or.inl ⟨rfl, by decide, (bgT4 55 rfl rfl), (bgS (q := (yX7_passes, 21)) 18 rfl)⟩⟩, List.forall_mem_cons.mpr ⟨⟨ykX7_findPlan, (bgT4 121 rfl rfl), by decide +kernel, Or.inl ⟨rfl, by decide, (bgT4 123 rfl rfl), (bgS (q := (yX7_findPlan, 21)) 34 rfl)⟩⟩, List.forall_mem_cons.mpr ⟨⟨ykX7_doer, (bgT4 154 rfl rfl), by decide +kernel, Or.inl ⟨rfl, by decide, (bgT4 156 rfl rfl), (bgS (q := (yX7_doer, 21)) 39 rfl)⟩⟩, List.forall_mem_cons.mpr ⟨⟨ykX7_skilled, (bgT4 158 rfl rfl), by decide +kernel, Or.inl ⟨rfl, by decide, (bgT4 160 rfl rfl), (bgS (q := (yX7_skilled, 21)) 40 rfl)⟩⟩, List.forall_mem_cons.mpr ⟨⟨ykX7_freeMany, (bgT4 170 rfl rfl), by decide +kernel, Or.inl ⟨rfl, by decide, (bgT4 172 rfl rfl), (bgS (q := (yX7_freeMany, 21)) 41 rfl)⟩⟩, List.forall_mem_cons.mpr ⟨⟨ykX7_findMore, (bgT4 190 rfl rfl), by decide +kernel, Or.inl ⟨rfl, by decide, (bgT4 192 rfl rfl), (bgS (q := (yX7_findMore, 21)) 42 rfl)⟩⟩, List.forall_mem_cons.mpr ⟨⟨ykX7_isOver, (bgT4 202 rfl rfl), by decide +kernel, Or.inl ⟨rfl, by decide, (bgT4 204 rfl rfl), (bgS (q := (yX7_isOver, 21)) 43 rfl)⟩⟩, List.forall_mem_cons.mpr ⟨⟨ykX7_character, (bgT4 5 rfl rfl), by decide +kernel, Or.inl ⟨rfl, by decide, (bgT4 7 rfl rfl), (bgS (q := (yX7_character, 21)) 9 rfl)⟩⟩, List.forall_mem_cons.mpr ⟨⟨ykX7_takeDigit, (bgT4 1 rfl rfl), by decide +kernel, Or.inl ⟨rfl, by decide, (bgT4 3 rfl rfl), (bgS (q := (yX7_takeDigit, 21)) 8 rfl)⟩⟩, List.forall_mem_cons.mpr ⟨⟨ykX7_readsStep, (bgT3 237 rfl rfl), by decide +kernel, Or.inl ⟨rfl, by decide, (bgT3 239 rfl rfl), (bgS (q := (yX7_readsStep, 21)) 7 rfl)⟩⟩, fun _ h => absurd h List.not_mem_nil⟩⟩⟩⟩⟩⟩⟩⟩⟩⟩⟩⟩⟩⟩⟩⟩⟩⟩⟩⟩⟩⟩⟩⟩⟩⟩⟩⟩⟩⟩⟩⟩⟩⟩⟩⟩⟩⟩⟩⟩⟩⟩⟩⟩⟩⟩⟩
theorem mL8_ok : ∀ q ∈ mL8, mOK 8 q := List.forall_mem_cons.mpr ⟨⟨ykX6_init, (bgT1 13 rfl rfl), by decide +kernel, Or.inr (Or.inr ⟨by decide, by decide, rfl, rfl, (bgT1 14 rfl rfl)⟩)⟩, List.forall_mem_cons.mpr ⟨⟨ykX7_init, (bgT3 116 rfl rfl), by decide +kernel, Or.inr (Or.inr ⟨by decide, by decide, rfl, rfl, (bgT3 117 rfl rfl)⟩)⟩, List.forall_mem_cons.mpr ⟨⟨ykX6_set, (bgT2 0 rfl rfl), by decide +kernel, Or.inl ⟨rfl, by decide, (bgT2 1 rfl rfl), (bgT2 2 rfl rfl)⟩⟩, List.forall_mem_cons.mpr ⟨⟨ykX7_set, (bgT3 184 rfl rfl), by decide +kernel, Or.inl ⟨rfl, by decide, (bgT3 185 rfl rfl), (bgT3 186 rfl rfl)⟩⟩, List.forall_mem_cons.mpr ⟨⟨ykX6_come, (bgT2 27 rfl rfl), by decide +kernel, Or.inl ⟨rfl, by decide, (bgT2 28 rfl rfl), (bgT2 29 rfl rfl)⟩⟩, List.forall_mem_cons.mpr ⟨⟨ykX7_come, (bgT3 201 rfl rfl), by decide +kernel, Or.inl ⟨rfl, by decide, (bgT3 202 rfl rfl), (bgT3 203 rfl rfl)⟩⟩, List.forall_mem_cons.mpr ⟨⟨ykX6_away, (bgT2 43 rfl rfl), by decide +kernel, Or.inl ⟨rfl, by decide, (bgT2 44 rfl rfl), (bgT2 45 rfl rfl)⟩⟩, List.forall_mem_cons.mpr ⟨⟨ykX7_away, (bgT3 209 rfl rfl), by decide +kernel, Or.inl ⟨rfl, by decide, (bgT3 210 rfl rfl), (bgT3 211 rfl rfl)⟩⟩, List.forall_mem_cons.mpr ⟨⟨ykX6_bring, (bgT2 55 rfl rfl), by decide +kernel, Or.inl ⟨rfl, by decide, (bgT2 56 rfl rfl), (bgT2 57 rfl rfl)⟩⟩, List.forall_mem_cons.mpr ⟨⟨ykX7_bring, (bgT3 225 rfl rfl), by decide +kernel, Or.inl ⟨rfl, by decide, (bgT3 226 rfl rfl), (bgT3 227 rfl rfl)⟩⟩, List.forall_mem_cons.mpr ⟨⟨ykX6_stock, (bgT2 120 rfl rfl), by decide +kernel, Or.inl ⟨rfl, by decide, (bgT2 121 rfl rfl), (bgT2 122 rfl rfl)⟩⟩, List.forall_mem_cons.mpr ⟨⟨ykX7_stock, (bgT4 25 rfl rfl), by decide +kernel, Or.inl ⟨rfl, by decide, (bgT4 26 rfl rfl), (bgT4 27 rfl rfl)⟩⟩, List.forall_mem_cons.mpr ⟨⟨ykX6_again, (bgT2 124 rfl rfl), by decide +kernel, Or.inl ⟨rfl, by decide, (bgT2 125 rfl rfl), (bgT2 126 rfl rfl)⟩⟩, List.forall_mem_cons.mpr ⟨⟨ykX7_again, (bgT4 29 rfl rfl), by decide +kernel, Or.inl ⟨rfl, by decide, (bgT4 30 rfl rfl), (bgT4 31 rfl rfl)⟩⟩, List.forall_mem_cons.mpr ⟨⟨ykX6_pass, (bgT2 137 rfl rfl), by decide +kernel, Or.inl ⟨rfl, by decide, (bgT2 138 rfl rfl), (bgT2 139 rfl rfl)⟩⟩, List.forall_mem_cons.mpr ⟨⟨ykX7_pass, (bgT4 49 rfl rfl), by decide +kernel, Or.inl ⟨rfl, by decide, (bgT4 50 rfl rfl), (bgT4 51 rfl rfl)⟩⟩, List.forall_mem_cons.mpr ⟨⟨ykX6_giveOut, (bgT2 205 rfl rfl), by decide +kernel, Or.inl ⟨rfl, by decide, (bgT2 206 rfl rfl), (bgT2 207 rfl rfl)⟩⟩, List.forall_mem_cons.mpr ⟨⟨ykX7_giveOut, (bgT4 117 rfl rfl), by decide +kernel, Or.inl ⟨rfl, by decide, (bgT4 118 rfl rfl), (bgT4 119 rfl rfl)⟩⟩, List.forall_mem_cons.mpr ⟨⟨ykX6_clear, (bgT3 1 rfl rfl), by decide +kernel, Or.inl ⟨rfl, by decide, (bgT3 2 rfl rfl), (bgT3 3 rfl rfl)⟩⟩, List.forall_mem_cons.mpr ⟨⟨ykX7_clear, (bgT4 142 rfl rfl), by decide +kernel, Or.inl ⟨rfl, by decide, (bgT4 143 rfl rfl), (bgT4 144 rfl rfl)⟩⟩, List.forall_mem_cons.mpr ⟨⟨ykX6_fixer, (bgT3 9 rfl rfl), by decide +kernel, Or.inl ⟨rfl, by decide, (bgT3 10 rfl rfl), (bgT3 11 rfl rfl)⟩⟩, List.forall_mem_cons.mpr ⟨⟨ykX7_fixer, (bgT4 146 rfl rfl), by decide +kernel, Or.inl ⟨rfl, by decide, (bgT4 147 rfl rfl), (bgT4 148 rfl rfl)⟩⟩, List.forall_mem_cons.mpr ⟨⟨ykX6_thing, (bgT3 13 rfl rfl), by decide +kernel, Or.inl ⟨rfl, by decide, (bgT3 14 rfl rfl), (bgT3 15 rfl rfl)⟩⟩, List.forall_mem_cons.mpr ⟨⟨ykX7_thing, (bgT4 150 rfl rfl), by decide +kernel, Or.inl ⟨rfl, by decide, (bgT4 151 rfl rfl), (bgT4 152 rfl rfl)⟩⟩, List.forall_mem_cons.mpr ⟨⟨ykX6_step, (bgT3 26 rfl rfl), by decide +kernel, Or.inl ⟨rfl, by decide, (bgT3 27 rfl rfl), (bgT3 28 rfl rfl)⟩⟩, List.forall_mem_cons.mpr ⟨⟨ykX7_step, (bgT4 162 rfl rfl), by decide +kernel, Or.inl ⟨rfl, by decide, (bgT4 163 rfl rfl), (bgT4 164 rfl rfl)⟩⟩, List.forall_mem_cons.mpr ⟨⟨ykX6_count, (bgT3 31 rfl rfl), by decide +kernel, Or.inl ⟨rfl, by decide, (bgT3 32 rfl rfl), (bgT3 33 rfl rfl)⟩⟩, List.forall_mem_cons.mpr ⟨⟨ykX7_count, (bgT4 166 rfl rfl), by decide +kernel, Or.inl ⟨rfl, by decide, (bgT4 167 rfl rfl), (bgT4 168 rfl rfl)⟩⟩, List.forall_mem_cons.mpr ⟨⟨ykX6_plan, (bgT3 39 rfl rfl), by decide +kernel, Or.inl ⟨rfl, by decide, (bgT3 40 rfl rfl), (bgT3 41 rfl rfl)⟩⟩, List.forall_mem_cons.mpr ⟨⟨ykX7_plan, (bgT4 174 rfl rfl), by decide +kernel, Or.inl ⟨rfl, by decide, (bgT4 175 rfl rfl), (bgT4 176 rfl rfl)⟩⟩, List.forall_mem_cons.mpr ⟨⟨ykX6_planned, (bgT3 43 rfl rfl), by decide +kernel, Or.inl ⟨rfl, by decide, (bgT3 44 rfl rfl), (bgT3 45 rfl rfl)⟩⟩, List.forall_mem_cons.mpr ⟨⟨ykX7_planned, (bgT4 178 rfl rfl), by decide +kernel, Or.inl ⟨rfl, by decide, (bgT4 179 rfl rfl), (bgT4 180 rfl rfl)⟩⟩, List.forall_mem_cons.mpr ⟨⟨ykX6_ifAway, (bgT3 50 rfl rfl), by decide +kernel, Or.inl ⟨rfl, by decide, (bgT3 51 rfl rfl), (bgT3 52 rfl rfl)⟩⟩, List.forall_mem_cons.mpr ⟨⟨ykX7_ifAway, (bgT4 182 rfl rfl), by decide +kernel, Or.inl ⟨rfl, by decide, (bgT4 183 rfl rfl), (bgT4 184 rfl rfl)⟩⟩, List.forall_mem_cons.mpr ⟨⟨ykX6_bestSkill, (bgT3 54 rfl rfl), by decide +kernel, Or.inl ⟨rfl, by decide, (bgT3 55 rfl rfl), (bgT3 56 rfl rfl)⟩⟩, List.forall_mem_cons.mpr ⟨⟨ykX7_bestSkill, (bgT4 186 rfl rfl), by decide +kernel, Or.inl ⟨rfl, by decide, (bgT4 187 rfl rfl), (bgT4 188 rfl rfl)⟩⟩, List.forall_mem_cons.mpr ⟨⟨ykX6_ifPassed, (bgT3 63 rfl rfl), by decide +kernel, Or.inl ⟨rfl, by decide, (bgT3 64 rfl rfl), (bgT3 65 rfl rfl)⟩⟩, List.forall_mem_cons.mpr ⟨⟨ykX7_ifPassed, (bgT4 194 rfl rfl), by decide +kernel, Or.inl ⟨rfl, by decide, (bgT4 195 rfl rfl), (bgT4 196 rfl rfl)⟩⟩, List.forall_mem_cons.mpr ⟨⟨ykX6_untilOver, (bgT3 68 rfl rfl), by decide +kernel, Or.inl ⟨rfl, by decide, (bgT3 69 rfl rfl), (bgT3 70 rfl rfl)⟩⟩, List.forall_mem_cons.mpr ⟨⟨ykX7_untilOver, (bgT4 198 rfl rfl), by decide +kernel, Or.inl ⟨rfl, by decide, (bgT4 199 rfl rfl), (bgT4 200 rfl rfl)⟩⟩, List.forall_mem_cons.mpr ⟨⟨ykX6_bestPart, (bgT3 74 rfl rfl), by decide +kernel, Or.inl ⟨rfl, by decide, (bgT3 75 rfl rfl), (bgT3 76 rfl rfl)⟩⟩, List.forall_mem_cons.mpr ⟨⟨ykX7_bestPart, (bgT4 206 rfl rfl), by decide +kernel, Or.inl ⟨rfl, by decide, (bgT4 207 rfl rfl), (bgT4 208 rfl rfl)⟩⟩, List.forall_mem_cons.mpr ⟨⟨ykX6_put, (bgT3 78 rfl rfl), by decide +kernel, Or.inl ⟨rfl, by decide, (bgT3 79 rfl rfl), (bgT3 80 rfl rfl)⟩⟩, List.forall_mem_cons.mpr ⟨⟨ykX7_put, (bgT4 210 rfl rfl), by decide +kernel, Or.inl ⟨rfl, by decide, (bgT4 211 rfl rfl), (bgT4 212 rfl rfl)⟩⟩, List.forall_mem_cons.mpr ⟨⟨ykX6_wipe, (bgT3 90 rfl rfl), by decide +kernel, Or.inl ⟨rfl, by decide, (bgT3 91 rfl rfl), (bgT3 92 rfl rfl)⟩⟩, List.forall_mem_cons.mpr ⟨⟨ykX7_wipe, (bgT4 215 rfl rfl), by decide +kernel, Or.inl ⟨rfl, by decide, (bgT4 216 rfl rfl), (bgT4 217 rfl rfl)⟩⟩, List.forall_mem_cons.mpr ⟨⟨ykX6_fault, (bgT3 94 rfl rfl), by decide +kernel, Or.inl ⟨rfl, by decide, (bgT3 95 rfl rfl), (bgT3 96 rfl rfl)⟩⟩, List.forall_mem_cons.mpr ⟨⟨ykX7_fault, (bgT4 219 rfl rfl), by decide +kernel, Or.inl ⟨rfl, by decide, (bgT4 220 rfl rfl), (bgT4 221 rfl rfl)⟩⟩, List.forall_mem_cons.mpr ⟨⟨ykX6_undo, (bgT3 98 rfl rfl), by decide +kernel, Or.inl ⟨rfl, by decide, (bgT3 99 rfl rfl), (bgT3 100 rfl rfl)⟩⟩, List.forall_mem_cons.mpr ⟨⟨ykX7_undo, (bgT4 223 rfl rfl), by decide +kernel, Or.inl ⟨rfl, by decide, (bgT4 224 rfl rfl), (bgT4 225 rfl rfl)⟩⟩, List.forall_mem_cons.mpr ⟨⟨ykX6_save, (bgT3 106 rfl rfl), by decide +kernel, Or.inl ⟨rfl, by decide, (bgT3 107 rfl rfl), (bgT3 108 rfl rfl)⟩⟩, List.forall_mem_cons.mpr ⟨⟨ykX7_save, (bgT4 227 rfl rfl), by decide +kernel, Or.inl ⟨rfl, by decide, (bgT4 228 rfl rfl), (bgT4 229 rfl rfl)⟩⟩, List.forall_mem_cons.mpr ⟨⟨ykX6_restore, (bgT3 110 rfl rfl), by decide +kernel, Or.inl ⟨rfl, by decide, (bgT3 111 rfl rfl), (bgT3 112 rfl rfl)⟩⟩, List.forall_mem_cons.mpr ⟨⟨ykX7_restore, (bgT4 231 rfl rfl), by decide +kernel, Or.inl ⟨rfl, by decide, (bgT4 232 rfl rfl), (bgT4 233 rfl rfl)⟩⟩, fun _ h => absurd h List.not_mem_nil⟩⟩⟩⟩⟩⟩⟩⟩⟩⟩⟩⟩⟩⟩⟩⟩⟩⟩⟩⟩⟩⟩⟩⟩⟩⟩⟩⟩⟩⟩⟩⟩⟩⟩⟩⟩⟩⟩⟩⟩⟩⟩⟩⟩⟩⟩⟩⟩⟩⟩⟩⟩⟩⟩
theorem mL_ok (o : Nat) : ∀ q ∈ mL o, mOK o q := by
  unfold mL
  split
  · exact mL0_ok
  · exact mL1_ok
  · exact mL2_ok
  · exact mL3_ok
  · exact mL4_ok
  · exact mL5_ok
  · exact mL6_ok
  · exact mL7_ok
  · exact mL8_ok
  · exact fun _ h => absurd h List.not_mem_nil
theorem oL0_ok : ∀ q ∈ oL0, oOK 0 q := List.forall_mem_cons.mpr ⟨(bgT1 33 rfl rfl), fun _ h => absurd h List.not_mem_nil⟩
theorem oL1_ok : ∀ q ∈ oL1, oOK 1 q := List.forall_mem_cons.mpr ⟨(bgT1 158 rfl rfl), fun _ h => absurd h List.not_mem_nil⟩
theorem oL2_ok : ∀ q ∈ oL2, oOK 2 q := List.forall_mem_cons.mpr ⟨(bgT1 24 rfl rfl), fun _ h => absurd h List.not_mem_nil⟩
theorem oL3_ok : ∀ q ∈ oL3, oOK 3 q := List.forall_mem_cons.mpr ⟨(bgT1 175 rfl rfl), fun _ h => absurd h List.not_mem_nil⟩
theorem oL4_ok : ∀ q ∈ oL4, oOK 4 q := List.forall_mem_cons.mpr ⟨(bgT1 202 rfl rfl), fun _ h => absurd h List.not_mem_nil⟩
theorem oL5_ok : ∀ q ∈ oL5, oOK 5 q := List.forall_mem_cons.mpr ⟨(bgT1 71 rfl rfl), fun _ h => absurd h List.not_mem_nil⟩
theorem oL6_ok : ∀ q ∈ oL6, oOK 6 q := List.forall_mem_cons.mpr ⟨(bgT1 16 rfl rfl), fun _ h => absurd h List.not_mem_nil⟩
theorem oL7_ok : ∀ q ∈ oL7, oOK 7 q := List.forall_mem_cons.mpr ⟨(bgT3 119 rfl rfl), fun _ h => absurd h List.not_mem_nil⟩
theorem oL_ok (o : Nat) : ∀ q ∈ oL o, oOK o q := by
  unfold oL
  split
  · exact oL0_ok
  · exact oL1_ok
  · exact oL2_ok
  · exact oL3_ok
  · exact oL4_ok
  · exact oL5_ok
  · exact oL6_ok
  · exact oL7_ok
  · exact fun _ h => absurd h List.not_mem_nil
theorem pL4_ok : ∀ q ∈ pL4, pOK 4 q := List.forall_mem_cons.mpr ⟨(bgT2 233 rfl rfl), fun _ h => absurd h List.not_mem_nil⟩
theorem pL_ok (o : Nat) : ∀ q ∈ pL o, pOK o q := by
  unfold pL
  split
  · exact pL4_ok
  · exact fun _ h => absurd h List.not_mem_nil
theorem kL1_ok : ∀ q ∈ kL1, kOK 1 q := List.forall_mem_cons.mpr ⟨⟨by decide, (bgT1 159 rfl rfl)⟩, fun _ h => absurd h List.not_mem_nil⟩
theorem kL2_ok : ∀ q ∈ kL2, kOK 2 q := List.forall_mem_cons.mpr ⟨⟨by decide, (bgT1 25 rfl rfl)⟩, List.forall_mem_cons.mpr ⟨⟨by decide, (bgT1 27 rfl rfl)⟩, fun _ h => absurd h List.not_mem_nil⟩⟩
theorem kL3_ok : ∀ q ∈ kL3, kOK 3 q := List.forall_mem_cons.mpr ⟨⟨by decide, (bgT1 176 rfl rfl)⟩, fun _ h => absurd h List.not_mem_nil⟩
theorem kL6_ok : ∀ q ∈ kL6, kOK 6 q := List.forall_mem_cons.mpr ⟨⟨by decide, (bgT1 19 rfl rfl)⟩, List.forall_mem_cons.mpr ⟨⟨by decide, (bgT1 153 rfl rfl)⟩, List.forall_mem_cons.mpr ⟨⟨by decide, (bgT1 170 rfl rfl)⟩, List.forall_mem_cons.mpr ⟨⟨by decide, (bgT1 197 rfl rfl)⟩, fun _ h => absurd h List.not_mem_nil⟩⟩⟩⟩
theorem kL8_ok : ∀ q ∈ kL8, kOK 8 q := List.forall_mem_cons.mpr ⟨⟨by decide, (bgT1 11 rfl rfl)⟩, List.forall_mem_cons.mpr ⟨⟨by decide, (bgT3 114 rfl rfl)⟩, fun _ h => absurd h List.not_mem_nil⟩⟩
theorem kL_ok (o : Nat) : ∀ q ∈ kL o, kOK o q := by
  unfold kL
  split
  · exact kL1_ok
  · exact kL2_ok
  · exact kL3_ok
  · exact kL6_ok
  · exact kL8_ok
  · exact fun _ h => absurd h List.not_mem_nil
theorem cL4_ok : ∀ q ∈ cL4, cOK 4 q := List.forall_mem_cons.mpr ⟨(bgT2 222 rfl rfl), fun _ h => absurd h List.not_mem_nil⟩
theorem cL6_ok : ∀ q ∈ cL6, cOK 6 q := List.forall_mem_cons.mpr ⟨(bgT3 48 rfl rfl), fun _ h => absurd h List.not_mem_nil⟩
theorem cL7_ok : ∀ q ∈ cL7, cOK 7 q := List.forall_mem_cons.mpr ⟨(bgT4 129 rfl rfl), fun _ h => absurd h List.not_mem_nil⟩
theorem cL9_ok : ∀ q ∈ cL9, cOK 9 q := List.forall_mem_cons.mpr ⟨(bgT2 230 rfl rfl), List.forall_mem_cons.mpr ⟨(bgT2 231 rfl rfl), List.forall_mem_cons.mpr ⟨(bgT2 232 rfl rfl), fun _ h => absurd h List.not_mem_nil⟩⟩⟩
theorem cL_ok (o : Nat) : ∀ q ∈ cL o, cOK o q := by
  unfold cL
  split
  · exact cL4_ok
  · exact cL6_ok
  · exact cL7_ok
  · exact cL9_ok
  · exact fun _ h => absurd h List.not_mem_nil
theorem lL3_ok : ∀ q ∈ lL3, lOK 3 q := List.forall_mem_cons.mpr ⟨(bgT3 85 rfl rfl), fun _ h => absurd h List.not_mem_nil⟩
theorem lL7_ok : ∀ q ∈ lL7, lOK 7 q := List.forall_mem_cons.mpr ⟨(bgT4 214 rfl rfl), fun _ h => absurd h List.not_mem_nil⟩
theorem lL8_ok : ∀ q ∈ lL8, lOK 8 q := List.forall_mem_cons.mpr ⟨(bgT4 235 rfl rfl), fun _ h => absurd h List.not_mem_nil⟩
theorem lL_ok (o : Nat) : ∀ q ∈ lL o, lOK o q := by
  unfold lL
  split
  · exact lL3_ok
  · exact lL7_ok
  · exact lL8_ok
  · exact fun _ h => absurd h List.not_mem_nil
theorem uin0_0 : u_lay RX0 TX0 0 ∈ BG := (bgT1 53 rfl rfl)
theorem uin0_1 : u_lay RX0 TX0 1 ∈ BG := (bgT1 55 rfl rfl)
theorem uin0_2 : u_lay RX0 TX0 2 ∈ BG := (bgT1 57 rfl rfl)
theorem uin0_3 : u_lay RX0 TX0 3 ∈ BG := (bgT1 59 rfl rfl)
theorem uin0_4 : u_lay RX0 TX0 4 ∈ BG := (bgT1 61 rfl rfl)
theorem uin0_5 : u_lay RX0 TX0 5 ∈ BG := (bgT1 63 rfl rfl)
theorem uin0 : ∀ w ∈ u_ws RX0 TX0 6, w ∈ BG := by
  intro w h
  obtain ⟨j, hj, rfl⟩ := List.mem_map.mp h
  have hj := List.mem_range.mp hj
  match j, hj with
  | 0, _ => exact uin0_0
  | 1, _ => exact uin0_1
  | 2, _ => exact uin0_2
  | 3, _ => exact uin0_3
  | 4, _ => exact uin0_4
  | 5, _ => exact uin0_5
  | _ + 6, h => exact absurd h (by omega)
theorem uin1_0 : u_lay RX1 TX1 0 ∈ BG := (bgT1 164 rfl rfl)
theorem uin1_1 : u_lay RX1 TX1 1 ∈ BG := (bgT1 166 rfl rfl)
theorem uin1 : ∀ w ∈ u_ws RX1 TX1 2, w ∈ BG := by
  intro w h
  obtain ⟨j, hj, rfl⟩ := List.mem_map.mp h
  have hj := List.mem_range.mp hj
  match j, hj with
  | 0, _ => exact uin1_0
  | 1, _ => exact uin1_1
  | _ + 2, h => exact absurd h (by omega)
theorem uin2_0 : u_lay RX2 TX2 0 ∈ BG := (bgT1 133 rfl rfl)
theorem uin2_1 : u_lay RX2 TX2 1 ∈ BG := (bgT1 135 rfl rfl)
theorem uin2_2 : u_lay RX2 TX2 2 ∈ BG := (bgT1 137 rfl rfl)
theorem uin2_3 : u_lay RX2 TX2 3 ∈ BG := (bgT1 139 rfl rfl)
theorem uin2_4 : u_lay RX2 TX2 4 ∈ BG := (bgT1 141 rfl rfl)
theorem uin2_5 : u_lay RX2 TX2 5 ∈ BG := (bgT1 143 rfl rfl)
theorem uin2_6 : u_lay RX2 TX2 6 ∈ BG := (bgT1 145 rfl rfl)
theorem uin2_7 : u_lay RX2 TX2 7 ∈ BG := (bgT1 147 rfl rfl)
theorem uin2_8 : u_lay RX2 TX2 8 ∈ BG := (bgT1 149 rfl rfl)
theorem uin2 : ∀ w ∈ u_ws RX2 TX2 9, w ∈ BG := by
  intro w h
  obtain ⟨j, hj, rfl⟩ := List.mem_map.mp h
  have hj := List.mem_range.mp hj
  match j, hj with
  | 0, _ => exact uin2_0
  | 1, _ => exact uin2_1
  | 2, _ => exact uin2_2
  | 3, _ => exact uin2_3
  | 4, _ => exact uin2_4
  | 5, _ => exact uin2_5
  | 6, _ => exact uin2_6
  | 7, _ => exact uin2_7
  | 8, _ => exact uin2_8
  | _ + 9, h => exact absurd h (by omega)
theorem uin3_0 : u_lay RX3 TX3 0 ∈ BG := (bgT1 186 rfl rfl)
theorem uin3_1 : u_lay RX3 TX3 1 ∈ BG := (bgT1 188 rfl rfl)
theorem uin3_2 : u_lay RX3 TX3 2 ∈ BG := (bgT1 190 rfl rfl)
theorem uin3_3 : u_lay RX3 TX3 3 ∈ BG := (bgT1 192 rfl rfl)
theorem uin3_4 : u_lay RX3 TX3 4 ∈ BG := (bgT1 194 rfl rfl)
theorem uin3 : ∀ w ∈ u_ws RX3 TX3 5, w ∈ BG := by
  intro w h
  obtain ⟨j, hj, rfl⟩ := List.mem_map.mp h
  have hj := List.mem_range.mp hj
  match j, hj with
  | 0, _ => exact uin3_0
  | 1, _ => exact uin3_1
  | 2, _ => exact uin3_2
  | 3, _ => exact uin3_3
  | 4, _ => exact uin3_4
  | _ + 5, h => exact absurd h (by omega)
theorem uin4_0 : u_lay RX4 TX4 0 ∈ BG := (bgT1 209 rfl rfl)
theorem uin4_1 : u_lay RX4 TX4 1 ∈ BG := (bgT1 211 rfl rfl)
theorem uin4_2 : u_lay RX4 TX4 2 ∈ BG := (bgT1 213 rfl rfl)
theorem uin4_3 : u_lay RX4 TX4 3 ∈ BG := (bgT1 215 rfl rfl)
theorem uin4 : ∀ w ∈ u_ws RX4 TX4 4, w ∈ BG := by
  intro w h
  obtain ⟨j, hj, rfl⟩ := List.mem_map.mp h
  have hj := List.mem_range.mp hj
  match j, hj with
  | 0, _ => exact uin4_0
  | 1, _ => exact uin4_1
  | 2, _ => exact uin4_2
  | 3, _ => exact uin4_3
  | _ + 4, h => exact absurd h (by omega)
theorem uin5_0 : u_lay RX5 TX5 0 ∈ BG := (bgT1 94 rfl rfl)
theorem uin5_1 : u_lay RX5 TX5 1 ∈ BG := (bgT1 96 rfl rfl)
theorem uin5_2 : u_lay RX5 TX5 2 ∈ BG := (bgT1 98 rfl rfl)
theorem uin5_3 : u_lay RX5 TX5 3 ∈ BG := (bgT1 100 rfl rfl)
theorem uin5_4 : u_lay RX5 TX5 4 ∈ BG := (bgT1 102 rfl rfl)
theorem uin5_5 : u_lay RX5 TX5 5 ∈ BG := (bgT1 104 rfl rfl)
theorem uin5_6 : u_lay RX5 TX5 6 ∈ BG := (bgT1 106 rfl rfl)
theorem uin5_7 : u_lay RX5 TX5 7 ∈ BG := (bgT1 108 rfl rfl)
theorem uin5_8 : u_lay RX5 TX5 8 ∈ BG := (bgT1 110 rfl rfl)
theorem uin5 : ∀ w ∈ u_ws RX5 TX5 9, w ∈ BG := by
  intro w h
  obtain ⟨j, hj, rfl⟩ := List.mem_map.mp h
  have hj := List.mem_range.mp hj
  match j, hj with
  | 0, _ => exact uin5_0
  | 1, _ => exact uin5_1
  | 2, _ => exact uin5_2
  | 3, _ => exact uin5_3
  | 4, _ => exact uin5_4
  | 5, _ => exact uin5_5
  | 6, _ => exact uin5_6
  | 7, _ => exact uin5_7
  | 8, _ => exact uin5_8
  | _ + 9, h => exact absurd h (by omega)
theorem uin6_0 : u_lay RX6 TX6 0 ∈ BG := (bgT1 225 rfl rfl)
theorem uin6_1 : u_lay RX6 TX6 1 ∈ BG := (bgT1 227 rfl rfl)
theorem uin6_2 : u_lay RX6 TX6 2 ∈ BG := (bgT1 229 rfl rfl)
theorem uin6_3 : u_lay RX6 TX6 3 ∈ BG := (bgT1 231 rfl rfl)
theorem uin6_4 : u_lay RX6 TX6 4 ∈ BG := (bgT1 233 rfl rfl)
theorem uin6_5 : u_lay RX6 TX6 5 ∈ BG := (bgT1 235 rfl rfl)
theorem uin6_6 : u_lay RX6 TX6 6 ∈ BG := (bgT1 237 rfl rfl)
theorem uin6 : ∀ w ∈ u_ws RX6 TX6 7, w ∈ BG := by
  intro w h
  obtain ⟨j, hj, rfl⟩ := List.mem_map.mp h
  have hj := List.mem_range.mp hj
  match j, hj with
  | 0, _ => exact uin6_0
  | 1, _ => exact uin6_1
  | 2, _ => exact uin6_2
  | 3, _ => exact uin6_3
  | 4, _ => exact uin6_4
  | 5, _ => exact uin6_5
  | 6, _ => exact uin6_6
  | _ + 7, h => exact absurd h (by omega)
theorem uin7_0 : u_lay RX7 TX7 0 ∈ BG := (bgT3 141 rfl rfl)
theorem uin7_1 : u_lay RX7 TX7 1 ∈ BG := (bgT3 143 rfl rfl)
theorem uin7_2 : u_lay RX7 TX7 2 ∈ BG := (bgT3 145 rfl rfl)
theorem uin7_3 : u_lay RX7 TX7 3 ∈ BG := (bgT3 147 rfl rfl)
theorem uin7_4 : u_lay RX7 TX7 4 ∈ BG := (bgT3 149 rfl rfl)
theorem uin7_5 : u_lay RX7 TX7 5 ∈ BG := (bgT3 151 rfl rfl)
theorem uin7_6 : u_lay RX7 TX7 6 ∈ BG := (bgT3 153 rfl rfl)
theorem uin7_7 : u_lay RX7 TX7 7 ∈ BG := (bgT3 155 rfl rfl)
theorem uin7_8 : u_lay RX7 TX7 8 ∈ BG := (bgT3 157 rfl rfl)
theorem uin7_9 : u_lay RX7 TX7 9 ∈ BG := (bgT3 159 rfl rfl)
theorem uin7_10 : u_lay RX7 TX7 10 ∈ BG := (bgT3 161 rfl rfl)
theorem uin7_11 : u_lay RX7 TX7 11 ∈ BG := (bgT3 163 rfl rfl)
theorem uin7_12 : u_lay RX7 TX7 12 ∈ BG := (bgT3 165 rfl rfl)
theorem uin7_13 : u_lay RX7 TX7 13 ∈ BG := (bgT3 167 rfl rfl)
theorem uin7_14 : u_lay RX7 TX7 14 ∈ BG := (bgT3 169 rfl rfl)
theorem uin7_15 : u_lay RX7 TX7 15 ∈ BG := (bgT3 171 rfl rfl)
theorem uin7_16 : u_lay RX7 TX7 16 ∈ BG := (bgT3 173 rfl rfl)
theorem uin7_17 : u_lay RX7 TX7 17 ∈ BG := (bgT3 175 rfl rfl)
theorem uin7_18 : u_lay RX7 TX7 18 ∈ BG := (bgT3 177 rfl rfl)
theorem uin7_19 : u_lay RX7 TX7 19 ∈ BG := (bgT3 179 rfl rfl)
theorem uin7_20 : u_lay RX7 TX7 20 ∈ BG := (bgT3 181 rfl rfl)
theorem uin7 : ∀ w ∈ u_ws RX7 TX7 21, w ∈ BG := by
  intro w h
  obtain ⟨j, hj, rfl⟩ := List.mem_map.mp h
  have hj := List.mem_range.mp hj
  match j, hj with
  | 0, _ => exact uin7_0
  | 1, _ => exact uin7_1
  | 2, _ => exact uin7_2
  | 3, _ => exact uin7_3
  | 4, _ => exact uin7_4
  | 5, _ => exact uin7_5
  | 6, _ => exact uin7_6
  | 7, _ => exact uin7_7
  | 8, _ => exact uin7_8
  | 9, _ => exact uin7_9
  | 10, _ => exact uin7_10
  | 11, _ => exact uin7_11
  | 12, _ => exact uin7_12
  | 13, _ => exact uin7_13
  | 14, _ => exact uin7_14
  | 15, _ => exact uin7_15
  | 16, _ => exact uin7_16
  | 17, _ => exact uin7_17
  | 18, _ => exact uin7_18
  | 19, _ => exact uin7_19
  | 20, _ => exact uin7_20
  | _ + 21, h => exact absurd h (by omega)
theorem nk_in : ∀ k, k < 8 → ∀ w ∈ u_ws (RN k) (TN k) (NN k), w ∈ BG := fun k h => match k, h with
  | 0, _ => uin0
  | 1, _ => uin1
  | 2, _ => uin2
  | 3, _ => uin3
  | 4, _ => uin4
  | 5, _ => uin5
  | 6, _ => uin6
  | 7, _ => uin7
  | _ + 8, h => absurd h (by omega)
theorem nk_nm : ∀ k, k < 8 → ∀ a, a < NN k → ∀ b, b < NN k → a ≠ b → (TN k a).2.1 ≠ (TN k b).2.1 := fun k h => match k, h with
  | 0, _ => nmX0
  | 1, _ => nmX1
  | 2, _ => nmX2
  | 3, _ => nmX3
  | 4, _ => nmX4
  | 5, _ => nmX5
  | 6, _ => nmX6
  | 7, _ => nmX7
  | _ + 8, h => absurd h (by omega)
theorem nk_ty : ∀ k, k < 8 → ∀ j, j < NN k → parseFieldDescriptor (TN k j).2.2.1 = some (tyN k j) := fun k h => match k, h with
  | 0, _ => tyX0_ok
  | 1, _ => tyX1_ok
  | 2, _ => tyX2_ok
  | 3, _ => tyX3_ok
  | 4, _ => tyX4_ok
  | 5, _ => tyX5_ok
  | 6, _ => tyX6_ok
  | 7, _ => tyX7_ok
  | _ + 8, h => absurd h (by omega)
theorem nk_cl : ∀ k, k < 8 → vwCl[k]? = some (RN k, TN k, NN k) := fun k h => match k, h with
  | 0, _ => rfl
  | 1, _ => rfl
  | 2, _ => rfl
  | 3, _ => rfl
  | 4, _ => rfl
  | 5, _ => rfl
  | 6, _ => rfl
  | 7, _ => rfl
  | _ + 8, h => absurd h (by omega)
theorem nk_mk : ∀ k, k < 8 → Cond.instantiable (RN k) (NN k) ∈ BG ∧ Cond.initialized (RN k) ∈ BG := fun k h => match k, h with
  | 0, _ => ⟨(bgT1 29 rfl rfl), (bgT1 3 rfl rfl)⟩
  | 1, _ => ⟨(bgT1 154 rfl rfl), (bgT1 5 rfl rfl)⟩
  | 2, _ => ⟨(bgT1 20 rfl rfl), (bgT1 2 rfl rfl)⟩
  | 3, _ => ⟨(bgT1 171 rfl rfl), (bgT1 6 rfl rfl)⟩
  | 4, _ => ⟨(bgT1 198 rfl rfl), (bgT1 7 rfl rfl)⟩
  | 5, _ => ⟨(bgT1 67 rfl rfl), (bgT1 4 rfl rfl)⟩
  | 6, _ => ⟨(bgT1 12 rfl rfl), (bgT1 1 rfl rfl)⟩
  | 7, _ => ⟨(bgT3 115 rfl rfl), (bgT1 8 rfl rfl)⟩
  | _ + 8, h => absurd h (by omega)
theorem nk_ar : Cond.arrayClass .int ∈ BG ∧ Cond.arrayClass .boolean ∈ BG := ⟨(bgT1 66 rfl rfl), (bgT1 169 rfl rfl)⟩
theorem nk_mi : Cond.static Lib.Math.min.name ∈ BG ∧ Cond.initialized "java/lang/Math" ∈ BG ∧ Cond.code Lib.Math.min.name Lib.Math.min.code 2 (some .int) ∈ BG := ⟨(bgT2 234 rfl rfl), (bgT1 10 rfl rfl), (bgT2 235 rfl rfl)⟩
theorem nk_oi : Cond.instanceMethod objectInit ∈ BG ∧ Cond.code objectInit ⟨#[0xb1]⟩ 1 none ∈ BG := ⟨(bgT1 17 rfl rfl), (bgT1 18 rfl rfl)⟩
