/-! the abstract machine: methods, fields, links by number -/
abbrev vDD : Type := Nat → Nat × Nat × (Nat → Option Nat)
abbrev vMM : Type := Nat → Nat → Int32
abbrev vMD : Type := MethodName × ByteArray × Nat × Option FieldType × Nat × Nat × List Nat
def mym (y : vMD) : MethodName := y.1
def mbc (y : vMD) : ByteArray := y.2.1
def mnl (y : vMD) : Nat := y.2.2.1
def mrt (y : vMD) : Option FieldType := y.2.2.2.1
def mow (y : vMD) : Nat := y.2.2.2.2.1
def mht (y : vMD) : Nat := y.2.2.2.2.2.1
def mll (y : vMD) : List Nat := y.2.2.2.2.2.2
def MX0_init : vMD := (yX0_init, cX0_init, 1, none, 0, 1, [])
def MX0_start : vMD := (yX0_start, cX0_start, 3, none, 0, 1, [])
def MX0_becomeFree : vMD := (yX0_becomeFree, cX0_becomeFree, 1, none, 0, 0, [])
def MX0_canTakeMore : vMD := (yX0_canTakeMore, cX0_canTakeMore, 1, some .boolean, 0, 0, [])
def MX0_copyFrom : vMD := (yX0_copyFrom, cX0_copyFrom, 2, none, 0, 0, [])
def MX1_init : vMD := (yX1_init, cX1_init, 2, none, 1, 3, [])
def MX1_keep : vMD := (yX1_keep, cX1_keep, 2, none, 1, 2, [])
def MX1_dropOldest : vMD := (yX1_dropOldest, cX1_dropOldest, 3, none, 1, 0, [])
def MX2_init : vMD := (yX2_init, cX2_init, 2, none, 2, 2, [])
def MX2_copyFrom : vMD := (yX2_copyFrom, cX2_copyFrom, 3, none, 2, 1, [])
def MX2_hasFixer : vMD := (yX2_hasFixer, cX2_hasFixer, 2, some .boolean, 2, 0, [])
def MX2_hasThing : vMD := (yX2_hasThing, cX2_hasThing, 2, some .boolean, 2, 0, [])
def MX2_addFixer : vMD := (yX2_addFixer, cX2_addFixer, 3, some .int, 2, 2, [])
def MX2_addThing : vMD := (yX2_addThing, cX2_addThing, 2, none, 2, 1, [])
def MX2_removeThings : vMD := (yX2_removeThings, cX2_removeThings, 2, none, 2, 1, [])
def MX2_fixersThere : vMD := (yX2_fixersThere, cX2_fixersThere, 3, some .int, 2, 0, [])
def MX2_fixersWith : vMD := (yX2_fixersWith, cX2_fixersWith, 4, some .int, 2, 0, [])
def MX2_freeFixers : vMD := (yX2_freeFixers, cX2_freeFixers, 3, some .int, 2, 1, [])
def MX2_fixerOf : vMD := (yX2_fixerOf, cX2_fixerOf, 3, some .int, 2, 0, [])
def MX2_thingsIn : vMD := (yX2_thingsIn, cX2_thingsIn, 4, some .int, 2, 0, [])
def MX2_isOver : vMD := (yX2_isOver, cX2_isOver, 1, some .boolean, 2, 1, [])
def MX2_thingsFor : vMD := (yX2_thingsFor, cX2_thingsFor, 4, some .int, 2, 3, [])
def MX2_isFor : vMD := (yX2_isFor, cX2_isFor, 3, some .boolean, 2, 2, [])
def MX2_isInStock : vMD := (yX2_isInStock, cX2_isInStock, 2, some .boolean, 2, 0, [])
def MX2_takeIfInStock : vMD := (yX2_takeIfInStock, cX2_takeIfInStock, 4, some .boolean, 2, 2, [])
def MX2_letPass : vMD := (yX2_letPass, cX2_letPass, 3, none, 2, 5, [])
def MX2_letOnePass : vMD := (yX2_letOnePass, cX2_letOnePass, 2, none, 2, 4, [])
def MX2_work : vMD := (yX2_work, cX2_work, 2, none, 2, 2, [])
def MX2_longestWaiting : vMD := (yX2_longestWaiting, cX2_longestWaiting, 5, some .int, 2, 3, [])
def MX2_waitOn : vMD := (yX2_waitOn, cX2_waitOn, 2, none, 2, 1, [])
def MX3_init : vMD := (yX3_init, cX3_init, 2, none, 3, 2, [])
def MX3_signsIn : vMD := (yX3_signsIn, cX3_signsIn, 6, some .int, 3, 1, [0, 2])
def MX3_append : vMD := (yX3_append, cX3_append, 5, none, 3, 0, [1])
def MX3_readThings : vMD := (yX3_readThings, cX3_readThings, 3, some .int, 3, 4, [])
def MX3_placeBehind : vMD := (yX3_placeBehind, cX3_placeBehind, 4, some .int, 3, 3, [])
def MX3_readFirstSkill : vMD := (yX3_readFirstSkill, cX3_readFirstSkill, 2, some .int, 3, 2, [])
def MX3_readSkill : vMD := (yX3_readSkill, cX3_readSkill, 2, some .int, 3, 1, [])
def MX3_readWork : vMD := (yX3_readWork, cX3_readWork, 2, some .int, 3, 2, [])
def MX3_readPart : vMD := (yX3_readPart, cX3_readPart, 2, some .int, 3, 2, [])
def MX3_readWeakness : vMD := (yX3_readWeakness, cX3_readWeakness, 2, some .int, 3, 0, [])
def MX3_placeBehindMark : vMD := (yX3_placeBehindMark, cX3_placeBehindMark, 3, some .int, 3, 0, [])
def MX4_init : vMD := (yX4_init, cX4_init, 1, none, 4, 1, [])
def MX4_lookAt : vMD := (yX4_lookAt, cX4_lookAt, 4, none, 4, 4, [])
def MX4_addFixer : vMD := (yX4_addFixer, cX4_addFixer, 2, none, 4, 0, [])
def MX4_mostServed : vMD := (yX4_mostServed, cX4_mostServed, 10, some .int, 4, 1, [])
def MX4_makePlan : vMD := (yX4_makePlan, cX4_makePlan, 6, none, 4, 5, [])
def MX4_lowestFor : vMD := (yX4_lowestFor, cX4_lowestFor, 7, some .int, 4, 2, [])
def MX5_init : vMD := (yX5_init, cX5_init, 1, none, 5, 1, [])
def MX5_start : vMD := (yX5_start, cX5_start, 1, none, 5, 1, [])
def MX5_becomeWaiting : vMD := (yX5_becomeWaiting, cX5_becomeWaiting, 1, none, 5, 0, [])
def MX5_leaveQueue : vMD := (yX5_leaveQueue, cX5_leaveQueue, 2, none, 5, 0, [])
def MX5_hasStep : vMD := (yX5_hasStep, cX5_hasStep, 2, some .boolean, 5, 0, [])
def MX5_addStep : vMD := (yX5_addStep, cX5_addStep, 2, none, 5, 0, [])
def MX5_setLastWork : vMD := (yX5_setLastWork, cX5_setLastWork, 2, none, 5, 1, [])
def MX5_setLastPart : vMD := (yX5_setLastPart, cX5_setLastPart, 2, none, 5, 1, [])
def MX5_nextSkill : vMD := (yX5_nextSkill, cX5_nextSkill, 1, some .int, 5, 1, [])
def MX5_nextWork : vMD := (yX5_nextWork, cX5_nextWork, 2, some .int, 5, 1, [])
def MX5_nextPart : vMD := (yX5_nextPart, cX5_nextPart, 1, some .int, 5, 1, [])
def MX5_endStep : vMD := (yX5_endStep, cX5_endStep, 1, some .boolean, 5, 1, [])
def MX5_copyFrom : vMD := (yX5_copyFrom, cX5_copyFrom, 3, none, 5, 0, [])
def MX6_init : vMD := (yX6_init, cX6_init, 2, none, 6, 4, [])
def MX6_set : vMD := (yX6_set, cX6_set, 4, some .int, 6, 3, [])
def MX6_come : vMD := (yX6_come, cX6_come, 3, some .int, 6, 3, [])
def MX6_away : vMD := (yX6_away, cX6_away, 4, some .int, 6, 3, [])
def MX6_bring : vMD := (yX6_bring, cX6_bring, 2, some .int, 6, 5, [])
def MX6_stock : vMD := (yX6_stock, cX6_stock, 3, some .int, 6, 3, [])
def MX6_again : vMD := (yX6_again, cX6_again, 3, some .int, 6, 3, [])
def MX6_pass : vMD := (yX6_pass, cX6_pass, 3, some .int, 6, 6, [])
def MX6_giveOut : vMD := (yX6_giveOut, cX6_giveOut, 3, some .int, 6, 6, [])
def MX6_clear : vMD := (yX6_clear, cX6_clear, 2, some .int, 6, 3, [])
def MX6_fixer : vMD := (yX6_fixer, cX6_fixer, 4, some .int, 6, 1, [])
def MX6_thing : vMD := (yX6_thing, cX6_thing, 5, some .int, 6, 2, [])
def MX6_step : vMD := (yX6_step, cX6_step, 5, some .int, 6, 1, [])
def MX6_count : vMD := (yX6_count, cX6_count, 2, some .int, 6, 2, [])
def MX6_plan : vMD := (yX6_plan, cX6_plan, 2, some .int, 6, 6, [])
def MX6_planned : vMD := (yX6_planned, cX6_planned, 1, some .int, 6, 5, [])
def MX6_ifAway : vMD := (yX6_ifAway, cX6_ifAway, 2, some .int, 6, 5, [])
def MX6_bestSkill : vMD := (yX6_bestSkill, cX6_bestSkill, 6, some .int, 6, 5, [])
def MX6_ifPassed : vMD := (yX6_ifPassed, cX6_ifPassed, 3, some .int, 6, 6, [])
def MX6_untilOver : vMD := (yX6_untilOver, cX6_untilOver, 2, some .int, 6, 5, [])
def MX6_bestPart : vMD := (yX6_bestPart, cX6_bestPart, 6, some .int, 6, 6, [])
def MX6_put : vMD := (yX6_put, cX6_put, 4, some .int, 6, 2, [1])
def MX6_wipe : vMD := (yX6_wipe, cX6_wipe, 2, some .int, 6, 0, [])
def MX6_fault : vMD := (yX6_fault, cX6_fault, 1, some .int, 6, 5, [])
def MX6_isOutside : vMD := (yX6_isOutside, cX6_isOutside, 3, some .boolean, 6, 0, [])
def MJ6_bitCount_0f7a4 : vMD := (yJ6_bitCount_0f7a4, cJ6_bitCount_0f7a4, 1, some .int, 9, 0, [])
def ML_cell : vMD := (yL_cell, cL_cell, 2, some .int, 8, 0, [])
def ML_low : vMD := (yL_low, cL_low, 2, some .int, 8, 0, [])
def ML_skill : vMD := (yL_skill, cL_skill, 3, some .int, 8, 0, [])
def ML_part : vMD := (yL_part, cL_part, 3, some .int, 8, 0, [])
def ML_able : vMD := (yL_able, cL_able, 5, some .boolean, 8, 2, [])
def ML_open : vMD := (yL_open, cL_open, 3, some .boolean, 8, 1, [])
def ML_take : vMD := (yL_take, cL_take, 7, none, 8, 1, [])
def ML_slot : vMD := (yL_slot, cL_slot, 8, some .int, 8, 3, [])
def ML_states : vMD := (yL_states, cL_states, 5, some .int, 8, 0, [])
def ML_same : vMD := (yL_same, cL_same, 11, some .boolean, 8, 3, [])
def ML_most : vMD := (yL_most, cL_most, 13, some .int, 8, 3, [])
def ML_at : vMD := (yL_at, cL_at, 2, some .int, 8, 0, [])
def ML_put : vMD := (yL_put, cL_put, 4, none, 8, 0, [])
def ML_plan : vMD := (yL_plan, cL_plan, 9, none, 8, 4, [])
def ML_copy : vMD := (yL_copy, cL_copy, 7, none, 8, 0, [])
def ML_would : vMD := (yL_would, cL_would, 21, some .boolean, 8, 7, [])
def ML_law : vMD := (yL_law, cL_law, 21, some .boolean, 8, 8, [])
def RN : Nat → String := fun k => match k with
  | 0 => RX0
  | 1 => RX1
  | 2 => RX2
  | 3 => RX3
  | 4 => RX4
  | 5 => RX5
  | 6 => RX6
  | 7 => RX7
  | 8 => RL
  | 9 => RJ6
  | _ => RJ9
def TN : Nat → u_T := fun k => match k with
  | 0 => TX0
  | 1 => TX1
  | 2 => TX2
  | 3 => TX3
  | 4 => TX4
  | 5 => TX5
  | 6 => TX6
  | _ => TX7
def tyN : Nat → Nat → FieldType := fun k => match k with
  | 0 => tyX0
  | 1 => tyX1
  | 2 => tyX2
  | 3 => tyX3
  | 4 => tyX4
  | 5 => tyX5
  | 6 => tyX6
  | _ => tyX7
def NN : Nat → Nat := fun k => match k with
  | 0 => 6
  | 1 => 2
  | 2 => 9
  | 3 => 5
  | 4 => 4
  | 5 => 9
  | 6 => 7
  | _ => 0
def isRfT : FieldType → Bool := fun t => match t with
  | .object _ => true
  | .array _ => true
  | _ => false
def rT (k j : Nat) : Bool := if k < 8 then isRfT (tyN k j) else if k < 10 then false else true
def lk {α : Type} : List (Nat × α) → Nat → Option α
  | [], _ => none
  | q :: t, i => if q.1 = i then some q.2 else lk t i
theorem lk_mem {α : Type} {i : Nat} {v : α} : ∀ (l : List (Nat × α)), lk l i = some v → (i, v) ∈ l
  | [], h => by simp [lk] at h
  | q :: t, h => by
    simp only [lk] at h
    by_cases hq : q.1 = i
    · rw [if_pos hq] at h
      cases h
      subst hq
      exact List.mem_cons_self
    · rw [if_neg hq] at h
      exact List.mem_cons_of_mem _ (lk_mem t h)
def BG : List Cond := lw_tbl.filter goodWord
theorem bg_of {w : Cond} (h : w ∈ lw_tbl) (g : goodWord w = true) : w ∈ BG := List.mem_filter.mpr ⟨h, g⟩
theorem bg_good {w : Cond} (h : w ∈ BG) : goodWord w = true := (List.mem_filter.mp h).2
theorem bg_in {w : Cond} (h : w ∈ BG) : w ∈ lw_tbl := (List.mem_filter.mp h).1
theorem bgT1 {w : Cond} (i : Nat) (h : tables_1_1[i]? = some w) (g : goodWord w = true) : w ∈ BG := bg_of (List.mem_append_right _ (List.mem_append_left _ (List.mem_of_getElem? h))) g
theorem bgT2 {w : Cond} (i : Nat) (h : tables_1_2[i]? = some w) (g : goodWord w = true) : w ∈ BG := bg_of (List.mem_append_right _ (List.mem_append_right _ (List.mem_append_left _ (List.mem_of_getElem? h)))) g
theorem bgT3 {w : Cond} (i : Nat) (h : tables_1_3[i]? = some w) (g : goodWord w = true) : w ∈ BG := bg_of (List.mem_append_right _ (List.mem_append_right _ (List.mem_append_right _ (List.mem_of_getElem? h)))) g
def fL0 : List (Nat × Nat × Nat) := [(9, (0, 0)), (15, (0, 1)), (18, (0, 2)), (22, (0, 5)), (28, (0, 3)), (31, (0, 4))]
def fL1 : List (Nat × Nat × Nat) := [(11, (1, 0)), (18, (1, 1))]
def fL2 : List (Nat × Nat × Nat) := [(11, (2, 0)), (19, (2, 1)), (23, (2, 2)), (27, (2, 5)), (31, (2, 6)), (36, (2, 3)), (43, (2, 4)), (49, (2, 7)), (52, (2, 8)), (62, (0, 2)), (66, (0, 0)), (73, (0, 3)), (76, (5, 5)), (104, (0, 4)), (130, (0, 1)), (136, (0, 5)), (139, (5, 6))]
def fL3 : List (Nat × Nat × Nat) := [(9, (3, 0)), (17, (3, 1)), (22, (3, 4)), (32, (3, 2)), (36, (3, 3)), (75, (5, 8)), (78, (5, 3))]
def fL4 : List (Nat × Nat × Nat) := [(9, (4, 0)), (15, (4, 1)), (18, (4, 2)), (21, (2, 3)), (27, (4, 3)), (28, (2, 0)), (38, (0, 0))]
def fL5 : List (Nat × Nat × Nat) := [(9, (5, 0)), (15, (5, 1)), (18, (5, 2)), (21, (5, 3)), (25, (5, 4)), (28, (5, 7)), (31, (5, 8)), (37, (5, 5)), (40, (5, 6))]
def fL6 : List (Nat × Nat × Nat) := [(10, (6, 0)), (16, (6, 1)), (19, (6, 2)), (23, (6, 3)), (30, (6, 4)), (37, (6, 5)), (44, (6, 6)), (56, (2, 5)), (60, (2, 6)), (63, (2, 3)), (74, (2, 0)), (78, (0, 2)), (91, (2, 4)), (94, (3, 3)), (97, (3, 1)), (105, (3, 2)), (108, (2, 2)), (115, (2, 1)), (118, (5, 5)), (137, (4, 1)), (147, (0, 0)), (150, (0, 1)), (153, (0, 3)), (156, (0, 4)), (159, (0, 5)), (162, (5, 3)), (165, (5, 4)), (168, (5, 6)), (171, (5, 7)), (174, (5, 8)), (189, (5, 0)), (191, (5, 1)), (194, (5, 2)), (198, (2, 7)), (201, (2, 8)), (204, (1, 1)), (214, (4, 0))]
def fL : Nat → List (Nat × Nat × Nat) := fun o => match o with
  | 0 => fL0
  | 1 => fL1
  | 2 => fL2
  | 3 => fL3
  | 4 => fL4
  | 5 => fL5
  | 6 => fL6
  | _ => []
def mL0 : List (Nat × vMD × Nat × Nat) := [(25, (MX0_becomeFree, 0, 0))]
def mL1 : List (Nat × vMD × Nat × Nat) := [(17, (MX2_init, 2, 0)), (22, (MX1_dropOldest, 0, 0)), (25, (MX2_copyFrom, 0, 1))]
def mL2 : List (Nat × vMD × Nat × Nat) := [(34, (MX0_init, 6, 0)), (35, (MX5_init, 6, 0)), (39, (MX0_copyFrom, 0, 1)), (46, (MX5_copyFrom, 0, 1)), (55, (MX0_start, 0, 2)), (59, (MX0_becomeFree, 0, 0)), (69, (MX0_canTakeMore, 0, 0)), (79, (MX2_thingsIn, 0, 1)), (83, (MX2_isFor, 0, 2)), (87, (MX5_nextSkill, 0, 0)), (91, (MX5_nextPart, 0, 0)), (94, (MX2_isInStock, 0, 1)), (98, (MX2_hasThing, 0, 1)), (101, (MX5_nextWork, 0, 1)), (107, (MX5_leaveQueue, 0, 1)), (111, (MX2_isOver, 0, 0)), (114, (MX2_letOnePass, 0, 0)), (117, (MX2_work, 0, 1)), (120, (MX2_longestWaiting, 0, 1)), (123, (MX2_takeIfInStock, 0, 2)), (127, (MX2_waitOn, 0, 1)), (133, (MX5_endStep, 0, 0))]
def mL3 : List (Nat × vMD × Nat × Nat) := [(21, (MX5_init, 6, 0)), (28, (MX6_isOutside, 5, 3)), (39, (MX3_placeBehind, 0, 2)), (43, (MX3_readFirstSkill, 0, 1)), (47, (MX3_readSkill, 0, 1)), (50, (MX3_readWork, 0, 1)), (53, (MX3_readPart, 0, 1)), (56, (MX3_readWeakness, 0, 1)), (59, (MX3_placeBehindMark, 0, 2)), (62, (MX5_start, 0, 0)), (65, (MX5_addStep, 0, 1)), (69, (MX5_setLastWork, 0, 1)), (72, (MX5_setLastPart, 0, 1))]
def mL4 : List (Nat × vMD × Nat × Nat) := [(32, (MX0_canTakeMore, 0, 0)), (41, (MX2_thingsFor, 0, 1)), (45, (MJ6_bitCount_0f7a4, 1, 1)), (56, (MX4_lookAt, 0, 1)), (61, (MX4_mostServed, 0, 2)), (64, (MX4_lowestFor, 0, 3))]
def mL5 : List (Nat × vMD × Nat × Nat) := [(34, (MX5_becomeWaiting, 0, 0)), (43, (MX5_hasStep, 0, 1)), (47, (MX5_leaveQueue, 0, 1))]
def mL6 : List (Nat × vMD × Nat × Nat) := [(9, (MX2_init, 2, 0)), (29, (MX1_init, 2, 0)), (36, (MX3_init, 2, 0)), (43, (MX4_init, 6, 0)), (48, (MX6_isOutside, 1, 3)), (52, (MX1_keep, 0, 1)), (66, (MX2_addFixer, 0, 2)), (70, (MX2_hasFixer, 0, 1)), (84, (MX2_fixersThere, 0, 0)), (88, (MX3_readThings, 0, 0)), (101, (MX2_addThing, 0, 1)), (112, (MX2_hasThing, 0, 1)), (123, (MX5_becomeWaiting, 0, 0)), (126, (MX2_thingsIn, 0, 1)), (130, (MX2_letPass, 0, 1)), (134, (MX4_makePlan, 0, 1)), (140, (MX2_takeIfInStock, 0, 2)), (144, (MX2_removeThings, 0, 0)), (177, (MX2_fixerOf, 0, 1)), (180, (MX5_nextSkill, 0, 0)), (183, (MX2_fixersWith, 0, 1)), (186, (MX5_hasStep, 0, 1)), (195, (MX2_freeFixers, 0, 0)), (207, (MX4_lookAt, 0, 1)), (211, (MX4_mostServed, 0, 2)), (217, (MX2_thingsFor, 0, 1)), (220, (MX4_addFixer, 0, 1)), (222, (MX2_copyFrom, 0, 1)), (225, (MX2_isOver, 0, 0)), (229, (MX2_letOnePass, 0, 0)), (232, (MX3_signsIn, 1, 1)), (236, (MX3_append, 0, 2))]
def mL8 : List (Nat × vMD × Nat × Nat) := [(10, (ML_open, 1, 3)), (16, (ML_skill, 1, 2)), (20, (ML_part, 1, 2)), (23, (ML_able, 1, 5)), (27, (ML_take, 1, 5)), (31, (MX6_fixer, 0, 2)), (37, (MX6_thing, 0, 2)), (40, (MX6_step, 0, 3)), (44, (MX6_count, 0, 1)), (48, (ML_states, 1, 3)), (52, (ML_put, 1, 3)), (56, (ML_at, 1, 2)), (60, (ML_most, 1, 8)), (64, (ML_plan, 1, 5)), (68, (MX6_plan, 0, 1)), (70, (MX6_ifAway, 0, 1)), (73, (MX6_planned, 0, 0)), (77, (MX6_bestSkill, 0, 1)), (80, (ML_low, 1, 2)), (83, (ML_copy, 1, 6)), (87, (ML_slot, 1, 3)), (91, (MX6_ifPassed, 0, 2)), (94, (MX6_untilOver, 0, 0)), (97, (MX6_bestPart, 0, 1)), (100, (MX6_init, 2, 0)), (101, (ML_cell, 1, 2)), (104, (MX6_come, 0, 2)), (107, (MX6_wipe, 0, 0)), (112, (MX6_put, 0, 1)), (119, (MX6_fault, 0, 0)), (122, (MX6_bring, 0, 0)), (125, (MX6_pass, 0, 1)), (128, (MX6_away, 0, 2)), (132, (MX6_stock, 0, 2)), (135, (MX6_again, 0, 1)), (138, (MX6_giveOut, 0, 0)), (141, (MX6_clear, 0, 0)), (144, (MX6_set, 0, 2)), (147, (ML_same, 1, 4)), (151, (ML_would, 1, 10))]
def mL : Nat → List (Nat × vMD × Nat × Nat) := fun o => match o with
  | 0 => mL0
  | 1 => mL1
  | 2 => mL2
  | 3 => mL3
  | 4 => mL4
  | 5 => mL5
  | 6 => mL6
  | 8 => mL8
  | _ => []
def oL0 : List (Nat × Unit) := [(3, ())]
def oL1 : List (Nat × Unit) := [(3, ())]
def oL2 : List (Nat × Unit) := [(3, ())]
def oL3 : List (Nat × Unit) := [(3, ())]
def oL4 : List (Nat × Unit) := [(3, ())]
def oL5 : List (Nat × Unit) := [(3, ())]
def oL6 : List (Nat × Unit) := [(1, ())]
def oL : Nat → List (Nat × Unit) := fun o => match o with
  | 0 => oL0
  | 1 => oL1
  | 2 => oL2
  | 3 => oL3
  | 4 => oL4
  | 5 => oL5
  | 6 => oL6
  | _ => []
def pL4 : List (Nat × Unit) := [(50, ())]
def pL : Nat → List (Nat × Unit) := fun o => match o with
  | 4 => pL4
  | _ => []
def kL1 : List (Nat × Nat) := [(9, 2)]
def kL2 : List (Nat × Nat) := [(9, 0), (17, 5)]
def kL3 : List (Nat × Nat) := [(15, 5)]
def kL6 : List (Nat × Nat) := [(7, 2), (27, 1), (34, 3), (41, 4)]
def kL8 : List (Nat × Nat) := [(32, 6)]
def kL : Nat → List (Nat × Nat) := fun o => match o with
  | 1 => kL1
  | 2 => kL2
  | 3 => kL3
  | 6 => kL6
  | 8 => kL8
  | _ => []
def cL4 : List (Nat × Int32) := [(60, 65535)]
def cL6 : List (Nat × Int32) := [(210, 65535)]
def cL8 : List (Nat × Int32) := [(7, 1067285333), (8, 684254881), (9, 2147483647)]
def cL9 : List (Nat × Int32) := [(265, 1431655765), (266, 858993459), (267, 252645135)]
def cL : Nat → List (Nat × Int32) := fun o => match o with
  | 4 => cL4
  | 6 => cL6
  | 8 => cL8
  | 9 => cL9
  | _ => []
def lL3 : List (Nat × Int64) := [(26, 255)]
def lL8 : List (Nat × Int64) := [(110, 44), (115, 112), (117, 33)]
def lL : Nat → List (Nat × Int64) := fun o => match o with
  | 3 => lL3
  | 8 => lL8
  | _ => []
def fOK (o : Nat) (q : Nat × Nat × Nat) : Prop := q.2.1 < 7 ∧ q.2.2 < NN q.2.1 ∧ Cond.fieldLink (RN o) q.1 (TN q.2.1 q.2.2).1 (TN q.2.1 q.2.2).2.1 (TN q.2.1 q.2.2).2.2.1 ∈ BG
def yOK (y : vMD) : Prop := Cond.code (mym y) (mbc y) (mnl y) (mrt y) ∈ BG ∧ Cond.initialized (mym y).cls ∈ BG ∧ ((mym y).cls ≠ "java/lang/invoke/MethodHandle" ∧ (mym y).cls ≠ "java/lang/invoke/VarHandle") ∧ plainName (mym y).cls = true ∧ mnl y ≤ 21 ∧ (mym y).cls = RN (mow y)
def nestL : List (Nat × Nat × MethodName) := [(2, 34, yX0_init), (2, 35, yX5_init), (3, 21, yX5_init), (3, 28, yX6_isOutside), (6, 43, yX4_init)]
def mOK (o : Nat) (q : Nat × vMD × Nat × Nat) : Prop := yOK q.2.1 ∧ (if q.2.2.1 < 4 then Cond.methodLink (RN o) q.1 (mym q.2.1) ∈ BG else (o, q.1, mym q.2.1) ∈ nestL) ∧ (parseMethodDescriptor (mym q.2.1).desc).map (fun d => d.parameters.length) = some q.2.2.2 ∧ ((q.2.2.1 = 0 ∧ mow q.2.1 < 7 ∧ Cond.instanceMethod (mym q.2.1) ∈ BG ∧ Cond.selects (mym q.2.1).cls (mym q.2.1) (mym q.2.1) ∈ BG) ∨ ((q.2.2.1 = 1 ∨ q.2.2.1 = 5) ∧ Cond.static (mym q.2.1) ∈ BG) ∨ ((q.2.2.1 = 2 ∨ q.2.2.1 = 6) ∧ mow q.2.1 < 7 ∧ mrt q.2.1 = none ∧ (mym q.2.1).name = "<init>" ∧ Cond.instanceMethod (mym q.2.1) ∈ BG))
def oOK (o : Nat) (q : Nat × Unit) : Prop := Cond.methodLink (RN o) q.1 objectInit ∈ BG
def pOK (o : Nat) (q : Nat × Unit) : Prop := Cond.methodLink (RN o) q.1 Lib.Math.min.name ∈ BG
def kOK (o : Nat) (q : Nat × Nat) : Prop := q.2 < 7 ∧ Cond.classLink (RN o) q.1 (RN q.2) ∈ BG
def cOK (o : Nat) (q : Nat × Int32) : Prop := Cond.constant (RN o) q.1 q.2 ∈ BG
def lOK (o : Nat) (q : Nat × Int64) : Prop := Cond.constantLong (RN o) q.1 q.2 ∈ BG
theorem ykX0_init : yOK MX0_init := ⟨(bgT1 31 rfl rfl), (bgT1 3 rfl rfl), ⟨by decide +kernel, by decide +kernel⟩, by decide +kernel, by decide, rfl⟩
theorem ykX0_start : yOK MX0_start := ⟨(bgT2 37 rfl rfl), (bgT1 3 rfl rfl), ⟨by decide +kernel, by decide +kernel⟩, by decide +kernel, by decide, rfl⟩
theorem ykX0_becomeFree : yOK MX0_becomeFree := ⟨(bgT2 41 rfl rfl), (bgT1 3 rfl rfl), ⟨by decide +kernel, by decide +kernel⟩, by decide +kernel, by decide, rfl⟩
theorem ykX0_canTakeMore : yOK MX0_canTakeMore := ⟨(bgT2 170 rfl rfl), (bgT1 3 rfl rfl), ⟨by decide +kernel, by decide +kernel⟩, by decide +kernel, by decide, rfl⟩
theorem ykX0_copyFrom : yOK MX0_copyFrom := ⟨(bgT2 21 rfl rfl), (bgT1 3 rfl rfl), ⟨by decide +kernel, by decide +kernel⟩, by decide +kernel, by decide, rfl⟩
theorem ykX1_init : yOK MX1_init := ⟨(bgT1 156 rfl rfl), (bgT1 5 rfl rfl), ⟨by decide +kernel, by decide +kernel⟩, by decide +kernel, by decide, rfl⟩
theorem ykX1_keep : yOK MX1_keep := ⟨(bgT2 9 rfl rfl), (bgT1 5 rfl rfl), ⟨by decide +kernel, by decide +kernel⟩, by decide +kernel, by decide, rfl⟩
theorem ykX1_dropOldest : yOK MX1_dropOldest := ⟨(bgT2 13 rfl rfl), (bgT1 5 rfl rfl), ⟨by decide +kernel, by decide +kernel⟩, by decide +kernel, by decide, rfl⟩
theorem ykX2_init : yOK MX2_init := ⟨(bgT1 22 rfl rfl), (bgT1 2 rfl rfl), ⟨by decide +kernel, by decide +kernel⟩, by decide +kernel, by decide, rfl⟩
theorem ykX2_copyFrom : yOK MX2_copyFrom := ⟨(bgT2 17 rfl rfl), (bgT1 2 rfl rfl), ⟨by decide +kernel, by decide +kernel⟩, by decide +kernel, by decide, rfl⟩
theorem ykX2_hasFixer : yOK MX2_hasFixer := ⟨(bgT2 49 rfl rfl), (bgT1 2 rfl rfl), ⟨by decide +kernel, by decide +kernel⟩, by decide +kernel, by decide, rfl⟩
theorem ykX2_hasThing : yOK MX2_hasThing := ⟨(bgT2 130 rfl rfl), (bgT1 2 rfl rfl), ⟨by decide +kernel, by decide +kernel⟩, by decide +kernel, by decide, rfl⟩
theorem ykX2_addFixer : yOK MX2_addFixer := ⟨(bgT2 33 rfl rfl), (bgT1 2 rfl rfl), ⟨by decide +kernel, by decide +kernel⟩, by decide +kernel, by decide, rfl⟩
theorem ykX2_addThing : yOK MX2_addThing := ⟨(bgT2 118 rfl rfl), (bgT1 2 rfl rfl), ⟨by decide +kernel, by decide +kernel⟩, by decide +kernel, by decide, rfl⟩
theorem ykX2_removeThings : yOK MX2_removeThings := ⟨(bgT3 7 rfl rfl), (bgT1 2 rfl rfl), ⟨by decide +kernel, by decide +kernel⟩, by decide +kernel, by decide, rfl⟩
theorem ykX2_fixersThere : yOK MX2_fixersThere := ⟨(bgT2 53 rfl rfl), (bgT1 2 rfl rfl), ⟨by decide +kernel, by decide +kernel⟩, by decide +kernel, by decide, rfl⟩
theorem ykX2_fixersWith : yOK MX2_fixersWith := ⟨(bgT3 77 rfl rfl), (bgT1 2 rfl rfl), ⟨by decide +kernel, by decide +kernel⟩, by decide +kernel, by decide, rfl⟩
theorem ykX2_freeFixers : yOK MX2_freeFixers := ⟨(bgT3 90 rfl rfl), (bgT1 2 rfl rfl), ⟨by decide +kernel, by decide +kernel⟩, by decide +kernel, by decide, rfl⟩
theorem ykX2_fixerOf : yOK MX2_fixerOf := ⟨(bgT3 72 rfl rfl), (bgT1 2 rfl rfl), ⟨by decide +kernel, by decide +kernel⟩, by decide +kernel, by decide, rfl⟩
theorem ykX2_thingsIn : yOK MX2_thingsIn := ⟨(bgT2 135 rfl rfl), (bgT1 2 rfl rfl), ⟨by decide +kernel, by decide +kernel⟩, by decide +kernel, by decide, rfl⟩
theorem ykX2_isOver : yOK MX2_isOver := ⟨(bgT2 147 rfl rfl), (bgT1 2 rfl rfl), ⟨by decide +kernel, by decide +kernel⟩, by decide +kernel, by decide, rfl⟩
theorem ykX2_thingsFor : yOK MX2_thingsFor := ⟨(bgT2 220 rfl rfl), (bgT1 2 rfl rfl), ⟨by decide +kernel, by decide +kernel⟩, by decide +kernel, by decide, rfl⟩
theorem ykX2_isFor : yOK MX2_isFor := ⟨(bgT2 178 rfl rfl), (bgT1 2 rfl rfl), ⟨by decide +kernel, by decide +kernel⟩, by decide +kernel, by decide, rfl⟩
theorem ykX2_isInStock : yOK MX2_isInStock := ⟨(bgT2 190 rfl rfl), (bgT1 2 rfl rfl), ⟨by decide +kernel, by decide +kernel⟩, by decide +kernel, by decide, rfl⟩
theorem ykX2_takeIfInStock : yOK MX2_takeIfInStock := ⟨(bgT2 194 rfl rfl), (bgT1 2 rfl rfl), ⟨by decide +kernel, by decide +kernel⟩, by decide +kernel, by decide, rfl⟩
theorem ykX2_letPass : yOK MX2_letPass := ⟨(bgT2 143 rfl rfl), (bgT1 2 rfl rfl), ⟨by decide +kernel, by decide +kernel⟩, by decide +kernel, by decide, rfl⟩
theorem ykX2_letOnePass : yOK MX2_letOnePass := ⟨(bgT2 152 rfl rfl), (bgT1 2 rfl rfl), ⟨by decide +kernel, by decide +kernel⟩, by decide +kernel, by decide, rfl⟩
theorem ykX2_work : yOK MX2_work := ⟨(bgT2 156 rfl rfl), (bgT1 2 rfl rfl), ⟨by decide +kernel, by decide +kernel⟩, by decide +kernel, by decide, rfl⟩
theorem ykX2_longestWaiting : yOK MX2_longestWaiting := ⟨(bgT2 174 rfl rfl), (bgT1 2 rfl rfl), ⟨by decide +kernel, by decide +kernel⟩, by decide +kernel, by decide, rfl⟩
theorem ykX2_waitOn : yOK MX2_waitOn := ⟨(bgT2 203 rfl rfl), (bgT1 2 rfl rfl), ⟨by decide +kernel, by decide +kernel⟩, by decide +kernel, by decide, rfl⟩
theorem ykX3_init : yOK MX3_init := ⟨(bgT1 173 rfl rfl), (bgT1 6 rfl rfl), ⟨by decide +kernel, by decide +kernel⟩, by decide +kernel, by decide, rfl⟩
theorem ykX3_signsIn : yOK MX3_signsIn := ⟨(bgT3 14 rfl rfl), (bgT1 6 rfl rfl), ⟨by decide +kernel, by decide +kernel⟩, by decide +kernel, by decide, rfl⟩
theorem ykX3_append : yOK MX3_append := ⟨(bgT3 19 rfl rfl), (bgT1 6 rfl rfl), ⟨by decide +kernel, by decide +kernel⟩, by decide +kernel, by decide, rfl⟩
theorem ykX3_readThings : yOK MX3_readThings := ⟨(bgT2 61 rfl rfl), (bgT1 6 rfl rfl), ⟨by decide +kernel, by decide +kernel⟩, by decide +kernel, by decide, rfl⟩
theorem ykX3_placeBehind : yOK MX3_placeBehind := ⟨(bgT2 65 rfl rfl), (bgT1 6 rfl rfl), ⟨by decide +kernel, by decide +kernel⟩, by decide +kernel, by decide, rfl⟩
theorem ykX3_readFirstSkill : yOK MX3_readFirstSkill := ⟨(bgT2 70 rfl rfl), (bgT1 6 rfl rfl), ⟨by decide +kernel, by decide +kernel⟩, by decide +kernel, by decide, rfl⟩
theorem ykX3_readSkill : yOK MX3_readSkill := ⟨(bgT2 82 rfl rfl), (bgT1 6 rfl rfl), ⟨by decide +kernel, by decide +kernel⟩, by decide +kernel, by decide, rfl⟩
theorem ykX3_readWork : yOK MX3_readWork := ⟨(bgT2 90 rfl rfl), (bgT1 6 rfl rfl), ⟨by decide +kernel, by decide +kernel⟩, by decide +kernel, by decide, rfl⟩
theorem ykX3_readPart : yOK MX3_readPart := ⟨(bgT2 102 rfl rfl), (bgT1 6 rfl rfl), ⟨by decide +kernel, by decide +kernel⟩, by decide +kernel, by decide, rfl⟩
theorem ykX3_readWeakness : yOK MX3_readWeakness := ⟨(bgT2 110 rfl rfl), (bgT1 6 rfl rfl), ⟨by decide +kernel, by decide +kernel⟩, by decide +kernel, by decide, rfl⟩
theorem ykX3_placeBehindMark : yOK MX3_placeBehindMark := ⟨(bgT2 114 rfl rfl), (bgT1 6 rfl rfl), ⟨by decide +kernel, by decide +kernel⟩, by decide +kernel, by decide, rfl⟩
theorem ykX4_init : yOK MX4_init := ⟨(bgT1 200 rfl rfl), (bgT1 7 rfl rfl), ⟨by decide +kernel, by decide +kernel⟩, by decide +kernel, by decide, rfl⟩
theorem ykX4_lookAt : yOK MX4_lookAt := ⟨(bgT2 215 rfl rfl), (bgT1 7 rfl rfl), ⟨by decide +kernel, by decide +kernel⟩, by decide +kernel, by decide, rfl⟩
theorem ykX4_addFixer : yOK MX4_addFixer := ⟨(bgT3 129 rfl rfl), (bgT1 7 rfl rfl), ⟨by decide +kernel, by decide +kernel⟩, by decide +kernel, by decide, rfl⟩
theorem ykX4_mostServed : yOK MX4_mostServed := ⟨(bgT2 225 rfl rfl), (bgT1 7 rfl rfl), ⟨by decide +kernel, by decide +kernel⟩, by decide +kernel, by decide, rfl⟩
theorem ykX4_makePlan : yOK MX4_makePlan := ⟨(bgT2 211 rfl rfl), (bgT1 7 rfl rfl), ⟨by decide +kernel, by decide +kernel⟩, by decide +kernel, by decide, rfl⟩
theorem ykX4_lowestFor : yOK MX4_lowestFor := ⟨(bgT2 238 rfl rfl), (bgT1 7 rfl rfl), ⟨by decide +kernel, by decide +kernel⟩, by decide +kernel, by decide, rfl⟩
theorem ykX5_init : yOK MX5_init := ⟨(bgT1 69 rfl rfl), (bgT1 4 rfl rfl), ⟨by decide +kernel, by decide +kernel⟩, by decide +kernel, by decide, rfl⟩
theorem ykX5_start : yOK MX5_start := ⟨(bgT2 74 rfl rfl), (bgT1 4 rfl rfl), ⟨by decide +kernel, by decide +kernel⟩, by decide +kernel, by decide, rfl⟩
theorem ykX5_becomeWaiting : yOK MX5_becomeWaiting := ⟨(bgT2 78 rfl rfl), (bgT1 4 rfl rfl), ⟨by decide +kernel, by decide +kernel⟩, by decide +kernel, by decide, rfl⟩
theorem ykX5_leaveQueue : yOK MX5_leaveQueue := ⟨(bgT2 165 rfl rfl), (bgT1 4 rfl rfl), ⟨by decide +kernel, by decide +kernel⟩, by decide +kernel, by decide, rfl⟩
theorem ykX5_hasStep : yOK MX5_hasStep := ⟨(bgT2 98 rfl rfl), (bgT1 4 rfl rfl), ⟨by decide +kernel, by decide +kernel⟩, by decide +kernel, by decide, rfl⟩
theorem ykX5_addStep : yOK MX5_addStep := ⟨(bgT2 86 rfl rfl), (bgT1 4 rfl rfl), ⟨by decide +kernel, by decide +kernel⟩, by decide +kernel, by decide, rfl⟩
theorem ykX5_setLastWork : yOK MX5_setLastWork := ⟨(bgT2 94 rfl rfl), (bgT1 4 rfl rfl), ⟨by decide +kernel, by decide +kernel⟩, by decide +kernel, by decide, rfl⟩
theorem ykX5_setLastPart : yOK MX5_setLastPart := ⟨(bgT2 106 rfl rfl), (bgT1 4 rfl rfl), ⟨by decide +kernel, by decide +kernel⟩, by decide +kernel, by decide, rfl⟩
theorem ykX5_nextSkill : yOK MX5_nextSkill := ⟨(bgT2 182 rfl rfl), (bgT1 4 rfl rfl), ⟨by decide +kernel, by decide +kernel⟩, by decide +kernel, by decide, rfl⟩
theorem ykX5_nextWork : yOK MX5_nextWork := ⟨(bgT2 198 rfl rfl), (bgT1 4 rfl rfl), ⟨by decide +kernel, by decide +kernel⟩, by decide +kernel, by decide, rfl⟩
theorem ykX5_nextPart : yOK MX5_nextPart := ⟨(bgT2 186 rfl rfl), (bgT1 4 rfl rfl), ⟨by decide +kernel, by decide +kernel⟩, by decide +kernel, by decide, rfl⟩
theorem ykX5_endStep : yOK MX5_endStep := ⟨(bgT2 161 rfl rfl), (bgT1 4 rfl rfl), ⟨by decide +kernel, by decide +kernel⟩, by decide +kernel, by decide, rfl⟩
theorem ykX5_copyFrom : yOK MX5_copyFrom := ⟨(bgT2 25 rfl rfl), (bgT1 4 rfl rfl), ⟨by decide +kernel, by decide +kernel⟩, by decide +kernel, by decide, rfl⟩
theorem ykX6_init : yOK MX6_init := ⟨(bgT1 14 rfl rfl), (bgT1 1 rfl rfl), ⟨by decide +kernel, by decide +kernel⟩, by decide +kernel, by decide, rfl⟩
theorem ykX6_set : yOK MX6_set := ⟨(bgT2 2 rfl rfl), (bgT1 1 rfl rfl), ⟨by decide +kernel, by decide +kernel⟩, by decide +kernel, by decide, rfl⟩
theorem ykX6_come : yOK MX6_come := ⟨(bgT2 29 rfl rfl), (bgT1 1 rfl rfl), ⟨by decide +kernel, by decide +kernel⟩, by decide +kernel, by decide, rfl⟩
theorem ykX6_away : yOK MX6_away := ⟨(bgT2 45 rfl rfl), (bgT1 1 rfl rfl), ⟨by decide +kernel, by decide +kernel⟩, by decide +kernel, by decide, rfl⟩
theorem ykX6_bring : yOK MX6_bring := ⟨(bgT2 57 rfl rfl), (bgT1 1 rfl rfl), ⟨by decide +kernel, by decide +kernel⟩, by decide +kernel, by decide, rfl⟩
theorem ykX6_stock : yOK MX6_stock := ⟨(bgT2 122 rfl rfl), (bgT1 1 rfl rfl), ⟨by decide +kernel, by decide +kernel⟩, by decide +kernel, by decide, rfl⟩
theorem ykX6_again : yOK MX6_again := ⟨(bgT2 126 rfl rfl), (bgT1 1 rfl rfl), ⟨by decide +kernel, by decide +kernel⟩, by decide +kernel, by decide, rfl⟩
theorem ykX6_pass : yOK MX6_pass := ⟨(bgT2 139 rfl rfl), (bgT1 1 rfl rfl), ⟨by decide +kernel, by decide +kernel⟩, by decide +kernel, by decide, rfl⟩
theorem ykX6_giveOut : yOK MX6_giveOut := ⟨(bgT2 207 rfl rfl), (bgT1 1 rfl rfl), ⟨by decide +kernel, by decide +kernel⟩, by decide +kernel, by decide, rfl⟩
theorem ykX6_clear : yOK MX6_clear := ⟨(bgT3 3 rfl rfl), (bgT1 1 rfl rfl), ⟨by decide +kernel, by decide +kernel⟩, by decide +kernel, by decide, rfl⟩
theorem ykX6_fixer : yOK MX6_fixer := ⟨(bgT3 64 rfl rfl), (bgT1 1 rfl rfl), ⟨by decide +kernel, by decide +kernel⟩, by decide +kernel, by decide, rfl⟩
theorem ykX6_thing : yOK MX6_thing := ⟨(bgT3 68 rfl rfl), (bgT1 1 rfl rfl), ⟨by decide +kernel, by decide +kernel⟩, by decide +kernel, by decide, rfl⟩
theorem ykX6_step : yOK MX6_step := ⟨(bgT3 81 rfl rfl), (bgT1 1 rfl rfl), ⟨by decide +kernel, by decide +kernel⟩, by decide +kernel, by decide, rfl⟩
theorem ykX6_count : yOK MX6_count := ⟨(bgT3 86 rfl rfl), (bgT1 1 rfl rfl), ⟨by decide +kernel, by decide +kernel⟩, by decide +kernel, by decide, rfl⟩
theorem ykX6_plan : yOK MX6_plan := ⟨(bgT3 109 rfl rfl), (bgT1 1 rfl rfl), ⟨by decide +kernel, by decide +kernel⟩, by decide +kernel, by decide, rfl⟩
theorem ykX6_planned : yOK MX6_planned := ⟨(bgT3 120 rfl rfl), (bgT1 1 rfl rfl), ⟨by decide +kernel, by decide +kernel⟩, by decide +kernel, by decide, rfl⟩
theorem ykX6_ifAway : yOK MX6_ifAway := ⟨(bgT3 113 rfl rfl), (bgT1 1 rfl rfl), ⟨by decide +kernel, by decide +kernel⟩, by decide +kernel, by decide, rfl⟩
theorem ykX6_bestSkill : yOK MX6_bestSkill := ⟨(bgT3 124 rfl rfl), (bgT1 1 rfl rfl), ⟨by decide +kernel, by decide +kernel⟩, by decide +kernel, by decide, rfl⟩
theorem ykX6_ifPassed : yOK MX6_ifPassed := ⟨(bgT3 136 rfl rfl), (bgT1 1 rfl rfl), ⟨by decide +kernel, by decide +kernel⟩, by decide +kernel, by decide, rfl⟩
theorem ykX6_untilOver : yOK MX6_untilOver := ⟨(bgT3 141 rfl rfl), (bgT1 1 rfl rfl), ⟨by decide +kernel, by decide +kernel⟩, by decide +kernel, by decide, rfl⟩
theorem ykX6_bestPart : yOK MX6_bestPart := ⟨(bgT3 147 rfl rfl), (bgT1 1 rfl rfl), ⟨by decide +kernel, by decide +kernel⟩, by decide +kernel, by decide, rfl⟩
theorem ykX6_put : yOK MX6_put := ⟨(bgT3 11 rfl rfl), (bgT1 1 rfl rfl), ⟨by decide +kernel, by decide +kernel⟩, by decide +kernel, by decide, rfl⟩
theorem ykX6_wipe : yOK MX6_wipe := ⟨(bgT3 23 rfl rfl), (bgT1 1 rfl rfl), ⟨by decide +kernel, by decide +kernel⟩, by decide +kernel, by decide, rfl⟩
theorem ykX6_fault : yOK MX6_fault := ⟨(bgT3 27 rfl rfl), (bgT1 1 rfl rfl), ⟨by decide +kernel, by decide +kernel⟩, by decide +kernel, by decide, rfl⟩
theorem ykX6_isOutside : yOK MX6_isOutside := ⟨(bgT2 5 rfl rfl), (bgT1 1 rfl rfl), ⟨by decide +kernel, by decide +kernel⟩, by decide +kernel, by decide, rfl⟩
theorem ykJ6_bitCount_0f7a4 : yOK MJ6_bitCount_0f7a4 := ⟨(bgT2 228 rfl rfl), (bgT1 8 rfl rfl), ⟨by decide +kernel, by decide +kernel⟩, by decide +kernel, by decide, rfl⟩
theorem ykL_cell : yOK ML_cell := ⟨(bgT3 30 rfl rfl), (bgT1 0 rfl rfl), ⟨by decide +kernel, by decide +kernel⟩, by decide +kernel, by decide, rfl⟩
theorem ykL_low : yOK ML_low := ⟨(bgT3 35 rfl rfl), (bgT1 0 rfl rfl), ⟨by decide +kernel, by decide +kernel⟩, by decide +kernel, by decide, rfl⟩
theorem ykL_skill : yOK ML_skill := ⟨(bgT3 54 rfl rfl), (bgT1 0 rfl rfl), ⟨by decide +kernel, by decide +kernel⟩, by decide +kernel, by decide, rfl⟩
theorem ykL_part : yOK ML_part := ⟨(bgT3 42 rfl rfl), (bgT1 0 rfl rfl), ⟨by decide +kernel, by decide +kernel⟩, by decide +kernel, by decide, rfl⟩
theorem ykL_able : yOK ML_able := ⟨(bgT3 51 rfl rfl), (bgT1 0 rfl rfl), ⟨by decide +kernel, by decide +kernel⟩, by decide +kernel, by decide, rfl⟩
theorem ykL_open : yOK ML_open := ⟨(bgT3 39 rfl rfl), (bgT1 0 rfl rfl), ⟨by decide +kernel, by decide +kernel⟩, by decide +kernel, by decide, rfl⟩
theorem ykL_take : yOK ML_take := ⟨(bgT3 45 rfl rfl), (bgT1 0 rfl rfl), ⟨by decide +kernel, by decide +kernel⟩, by decide +kernel, by decide, rfl⟩
theorem ykL_slot : yOK ML_slot := ⟨(bgT3 48 rfl rfl), (bgT1 0 rfl rfl), ⟨by decide +kernel, by decide +kernel⟩, by decide +kernel, by decide, rfl⟩
theorem ykL_states : yOK ML_states := ⟨(bgT3 57 rfl rfl), (bgT1 0 rfl rfl), ⟨by decide +kernel, by decide +kernel⟩, by decide +kernel, by decide, rfl⟩
theorem ykL_same : yOK ML_same := ⟨(bgT3 60 rfl rfl), (bgT1 0 rfl rfl), ⟨by decide +kernel, by decide +kernel⟩, by decide +kernel, by decide, rfl⟩
theorem ykL_most : yOK ML_most := ⟨(bgT3 96 rfl rfl), (bgT1 0 rfl rfl), ⟨by decide +kernel, by decide +kernel⟩, by decide +kernel, by decide, rfl⟩
theorem ykL_at : yOK ML_at := ⟨(bgT3 102 rfl rfl), (bgT1 0 rfl rfl), ⟨by decide +kernel, by decide +kernel⟩, by decide +kernel, by decide, rfl⟩
theorem ykL_put : yOK ML_put := ⟨(bgT3 99 rfl rfl), (bgT1 0 rfl rfl), ⟨by decide +kernel, by decide +kernel⟩, by decide +kernel, by decide, rfl⟩
theorem ykL_plan : yOK ML_plan := ⟨(bgT3 93 rfl rfl), (bgT1 0 rfl rfl), ⟨by decide +kernel, by decide +kernel⟩, by decide +kernel, by decide, rfl⟩
theorem ykL_copy : yOK ML_copy := ⟨(bgT3 132 rfl rfl), (bgT1 0 rfl rfl), ⟨by decide +kernel, by decide +kernel⟩, by decide +kernel, by decide, rfl⟩
theorem ykL_would : yOK ML_would := ⟨(bgT3 105 rfl rfl), (bgT1 0 rfl rfl), ⟨by decide +kernel, by decide +kernel⟩, by decide +kernel, by decide, rfl⟩
theorem fL0_ok : ∀ q ∈ fL0, fOK 0 q := List.forall_mem_cons.mpr ⟨⟨by decide, by decide, (bgT1 33 rfl rfl)⟩, List.forall_mem_cons.mpr ⟨⟨by decide, by decide, (bgT1 37 rfl rfl)⟩, List.forall_mem_cons.mpr ⟨⟨by decide, by decide, (bgT1 40 rfl rfl)⟩, List.forall_mem_cons.mpr ⟨⟨by decide, by decide, (bgT1 49 rfl rfl)⟩, List.forall_mem_cons.mpr ⟨⟨by decide, by decide, (bgT1 43 rfl rfl)⟩, List.forall_mem_cons.mpr ⟨⟨by decide, by decide, (bgT1 46 rfl rfl)⟩, fun _ h => absurd h List.not_mem_nil⟩⟩⟩⟩⟩⟩
theorem fL1_ok : ∀ q ∈ fL1, fOK 1 q := List.forall_mem_cons.mpr ⟨⟨by decide, by decide, (bgT1 160 rfl rfl)⟩, List.forall_mem_cons.mpr ⟨⟨by decide, by decide, (bgT1 161 rfl rfl)⟩, fun _ h => absurd h List.not_mem_nil⟩⟩
theorem fL2_ok : ∀ q ∈ fL2, fOK 2 q := List.forall_mem_cons.mpr ⟨⟨by decide, by decide, (bgT1 112 rfl rfl)⟩, List.forall_mem_cons.mpr ⟨⟨by decide, by decide, (bgT1 115 rfl rfl)⟩, List.forall_mem_cons.mpr ⟨⟨by decide, by decide, (bgT1 117 rfl rfl)⟩, List.forall_mem_cons.mpr ⟨⟨by decide, by decide, (bgT1 124 rfl rfl)⟩, List.forall_mem_cons.mpr ⟨⟨by decide, by decide, (bgT1 126 rfl rfl)⟩, List.forall_mem_cons.mpr ⟨⟨by decide, by decide, (bgT1 119 rfl rfl)⟩, List.forall_mem_cons.mpr ⟨⟨by decide, by decide, (bgT1 122 rfl rfl)⟩, List.forall_mem_cons.mpr ⟨⟨by decide, by decide, (bgT1 128 rfl rfl)⟩, List.forall_mem_cons.mpr ⟨⟨by decide, by decide, (bgT1 130 rfl rfl)⟩, List.forall_mem_cons.mpr ⟨⟨by decide, by decide, (bgT1 42 rfl rfl)⟩, List.forall_mem_cons.mpr ⟨⟨by decide, by decide, (bgT1 35 rfl rfl)⟩, List.forall_mem_cons.mpr ⟨⟨by decide, by decide, (bgT1 44 rfl rfl)⟩, List.forall_mem_cons.mpr ⟨⟨by decide, by decide, (bgT1 84 rfl rfl)⟩, List.forall_mem_cons.mpr ⟨⟨by decide, by decide, (bgT1 48 rfl rfl)⟩, List.forall_mem_cons.mpr ⟨⟨by decide, by decide, (bgT1 39 rfl rfl)⟩, List.forall_mem_cons.mpr ⟨⟨by decide, by decide, (bgT1 51 rfl rfl)⟩, List.forall_mem_cons.mpr ⟨⟨by decide, by decide, (bgT1 87 rfl rfl)⟩, fun _ h => absurd h List.not_mem_nil⟩⟩⟩⟩⟩⟩⟩⟩⟩⟩⟩⟩⟩⟩⟩⟩⟩
theorem fL3_ok : ∀ q ∈ fL3, fOK 3 q := List.forall_mem_cons.mpr ⟨⟨by decide, by decide, (bgT1 177 rfl rfl)⟩, List.forall_mem_cons.mpr ⟨⟨by decide, by decide, (bgT1 178 rfl rfl)⟩, List.forall_mem_cons.mpr ⟨⟨by decide, by decide, (bgT1 184 rfl rfl)⟩, List.forall_mem_cons.mpr ⟨⟨by decide, by decide, (bgT1 180 rfl rfl)⟩, List.forall_mem_cons.mpr ⟨⟨by decide, by decide, (bgT1 182 rfl rfl)⟩, List.forall_mem_cons.mpr ⟨⟨by decide, by decide, (bgT1 91 rfl rfl)⟩, List.forall_mem_cons.mpr ⟨⟨by decide, by decide, (bgT1 78 rfl rfl)⟩, fun _ h => absurd h List.not_mem_nil⟩⟩⟩⟩⟩⟩⟩
theorem fL4_ok : ∀ q ∈ fL4, fOK 4 q := List.forall_mem_cons.mpr ⟨⟨by decide, by decide, (bgT1 202 rfl rfl)⟩, List.forall_mem_cons.mpr ⟨⟨by decide, by decide, (bgT1 204 rfl rfl)⟩, List.forall_mem_cons.mpr ⟨⟨by decide, by decide, (bgT1 206 rfl rfl)⟩, List.forall_mem_cons.mpr ⟨⟨by decide, by decide, (bgT1 120 rfl rfl)⟩, List.forall_mem_cons.mpr ⟨⟨by decide, by decide, (bgT1 207 rfl rfl)⟩, List.forall_mem_cons.mpr ⟨⟨by decide, by decide, (bgT1 113 rfl rfl)⟩, List.forall_mem_cons.mpr ⟨⟨by decide, by decide, (bgT1 34 rfl rfl)⟩, fun _ h => absurd h List.not_mem_nil⟩⟩⟩⟩⟩⟩⟩
theorem fL5_ok : ∀ q ∈ fL5, fOK 5 q := List.forall_mem_cons.mpr ⟨⟨by decide, by decide, (bgT1 71 rfl rfl)⟩, List.forall_mem_cons.mpr ⟨⟨by decide, by decide, (bgT1 73 rfl rfl)⟩, List.forall_mem_cons.mpr ⟨⟨by decide, by decide, (bgT1 75 rfl rfl)⟩, List.forall_mem_cons.mpr ⟨⟨by decide, by decide, (bgT1 77 rfl rfl)⟩, List.forall_mem_cons.mpr ⟨⟨by decide, by decide, (bgT1 80 rfl rfl)⟩, List.forall_mem_cons.mpr ⟨⟨by decide, by decide, (bgT1 88 rfl rfl)⟩, List.forall_mem_cons.mpr ⟨⟨by decide, by decide, (bgT1 90 rfl rfl)⟩, List.forall_mem_cons.mpr ⟨⟨by decide, by decide, (bgT1 82 rfl rfl)⟩, List.forall_mem_cons.mpr ⟨⟨by decide, by decide, (bgT1 85 rfl rfl)⟩, fun _ h => absurd h List.not_mem_nil⟩⟩⟩⟩⟩⟩⟩⟩⟩
theorem fL6_ok : ∀ q ∈ fL6, fOK 6 q := List.forall_mem_cons.mpr ⟨⟨by decide, by decide, (bgT1 217 rfl rfl)⟩, List.forall_mem_cons.mpr ⟨⟨by decide, by decide, (bgT1 218 rfl rfl)⟩, List.forall_mem_cons.mpr ⟨⟨by decide, by decide, (bgT1 219 rfl rfl)⟩, List.forall_mem_cons.mpr ⟨⟨by decide, by decide, (bgT1 220 rfl rfl)⟩, List.forall_mem_cons.mpr ⟨⟨by decide, by decide, (bgT1 221 rfl rfl)⟩, List.forall_mem_cons.mpr ⟨⟨by decide, by decide, (bgT1 222 rfl rfl)⟩, List.forall_mem_cons.mpr ⟨⟨by decide, by decide, (bgT1 223 rfl rfl)⟩, List.forall_mem_cons.mpr ⟨⟨by decide, by decide, (bgT1 125 rfl rfl)⟩, List.forall_mem_cons.mpr ⟨⟨by decide, by decide, (bgT1 127 rfl rfl)⟩, List.forall_mem_cons.mpr ⟨⟨by decide, by decide, (bgT1 121 rfl rfl)⟩, List.forall_mem_cons.mpr ⟨⟨by decide, by decide, (bgT1 114 rfl rfl)⟩, List.forall_mem_cons.mpr ⟨⟨by decide, by decide, (bgT1 41 rfl rfl)⟩, List.forall_mem_cons.mpr ⟨⟨by decide, by decide, (bgT1 123 rfl rfl)⟩, List.forall_mem_cons.mpr ⟨⟨by decide, by decide, (bgT1 183 rfl rfl)⟩, List.forall_mem_cons.mpr ⟨⟨by decide, by decide, (bgT1 179 rfl rfl)⟩, List.forall_mem_cons.mpr ⟨⟨by decide, by decide, (bgT1 181 rfl rfl)⟩, List.forall_mem_cons.mpr ⟨⟨by decide, by decide, (bgT1 118 rfl rfl)⟩, List.forall_mem_cons.mpr ⟨⟨by decide, by decide, (bgT1 116 rfl rfl)⟩, List.forall_mem_cons.mpr ⟨⟨by decide, by decide, (bgT1 83 rfl rfl)⟩, List.forall_mem_cons.mpr ⟨⟨by decide, by decide, (bgT1 205 rfl rfl)⟩, List.forall_mem_cons.mpr ⟨⟨by decide, by decide, (bgT1 36 rfl rfl)⟩, List.forall_mem_cons.mpr ⟨⟨by decide, by decide, (bgT1 38 rfl rfl)⟩, List.forall_mem_cons.mpr ⟨⟨by decide, by decide, (bgT1 45 rfl rfl)⟩, List.forall_mem_cons.mpr ⟨⟨by decide, by decide, (bgT1 47 rfl rfl)⟩, List.forall_mem_cons.mpr ⟨⟨by decide, by decide, (bgT1 50 rfl rfl)⟩, List.forall_mem_cons.mpr ⟨⟨by decide, by decide, (bgT1 79 rfl rfl)⟩, List.forall_mem_cons.mpr ⟨⟨by decide, by decide, (bgT1 81 rfl rfl)⟩, List.forall_mem_cons.mpr ⟨⟨by decide, by decide, (bgT1 86 rfl rfl)⟩, List.forall_mem_cons.mpr ⟨⟨by decide, by decide, (bgT1 89 rfl rfl)⟩, List.forall_mem_cons.mpr ⟨⟨by decide, by decide, (bgT1 92 rfl rfl)⟩, List.forall_mem_cons.mpr ⟨⟨by decide, by decide, (bgT1 72 rfl rfl)⟩, List.forall_mem_cons.mpr ⟨⟨by decide, by decide, (bgT1 74 rfl rfl)⟩, List.forall_mem_cons.mpr ⟨⟨by decide, by decide, (bgT1 76 rfl rfl)⟩, List.forall_mem_cons.mpr ⟨⟨by decide, by decide, (bgT1 129 rfl rfl)⟩, List.forall_mem_cons.mpr ⟨⟨by decide, by decide, (bgT1 131 rfl rfl)⟩, List.forall_mem_cons.mpr ⟨⟨by decide, by decide, (bgT1 162 rfl rfl)⟩, List.forall_mem_cons.mpr ⟨⟨by decide, by decide, (bgT1 203 rfl rfl)⟩, fun _ h => absurd h List.not_mem_nil⟩⟩⟩⟩⟩⟩⟩⟩⟩⟩⟩⟩⟩⟩⟩⟩⟩⟩⟩⟩⟩⟩⟩⟩⟩⟩⟩⟩⟩⟩⟩⟩⟩⟩⟩⟩⟩
theorem fL_ok (o : Nat) : ∀ q ∈ fL o, fOK o q := by
  unfold fL
  split
  · exact fL0_ok
  · exact fL1_ok
  · exact fL2_ok
  · exact fL3_ok
  · exact fL4_ok
  · exact fL5_ok
  · exact fL6_ok
  · exact fun _ h => absurd h List.not_mem_nil
theorem mL0_ok : ∀ q ∈ mL0, mOK 0 q := List.forall_mem_cons.mpr ⟨⟨ykX0_becomeFree, (bgT2 38 rfl rfl), by decide +kernel, Or.inl ⟨rfl, by decide, (bgT2 39 rfl rfl), (bgT2 40 rfl rfl)⟩⟩, fun _ h => absurd h List.not_mem_nil⟩
theorem mL1_ok : ∀ q ∈ mL1, mOK 1 q := List.forall_mem_cons.mpr ⟨⟨ykX2_init, (bgT1 159 rfl rfl), by decide +kernel, Or.inr (Or.inr ⟨by decide, by decide, rfl, rfl, (bgT1 21 rfl rfl)⟩)⟩, List.forall_mem_cons.mpr ⟨⟨ykX1_dropOldest, (bgT2 10 rfl rfl), by decide +kernel, Or.inl ⟨rfl, by decide, (bgT2 11 rfl rfl), (bgT2 12 rfl rfl)⟩⟩, List.forall_mem_cons.mpr ⟨⟨ykX2_copyFrom, (bgT2 14 rfl rfl), by decide +kernel, Or.inl ⟨rfl, by decide, (bgT2 15 rfl rfl), (bgT2 16 rfl rfl)⟩⟩, fun _ h => absurd h List.not_mem_nil⟩⟩⟩
theorem mL2_ok : ∀ q ∈ mL2, mOK 2 q := List.forall_mem_cons.mpr ⟨⟨ykX0_init, by decide +kernel, by decide +kernel, Or.inr (Or.inr ⟨by decide, by decide, rfl, rfl, (bgT1 30 rfl rfl)⟩)⟩, List.forall_mem_cons.mpr ⟨⟨ykX5_init, by decide +kernel, by decide +kernel, Or.inr (Or.inr ⟨by decide, by decide, rfl, rfl, (bgT1 68 rfl rfl)⟩)⟩, List.forall_mem_cons.mpr ⟨⟨ykX0_copyFrom, (bgT2 18 rfl rfl), by decide +kernel, Or.inl ⟨rfl, by decide, (bgT2 19 rfl rfl), (bgT2 20 rfl rfl)⟩⟩, List.forall_mem_cons.mpr ⟨⟨ykX5_copyFrom, (bgT2 22 rfl rfl), by decide +kernel, Or.inl ⟨rfl, by decide, (bgT2 23 rfl rfl), (bgT2 24 rfl rfl)⟩⟩, List.forall_mem_cons.mpr ⟨⟨ykX0_start, (bgT2 34 rfl rfl), by decide +kernel, Or.inl ⟨rfl, by decide, (bgT2 35 rfl rfl), (bgT2 36 rfl rfl)⟩⟩, List.forall_mem_cons.mpr ⟨⟨ykX0_becomeFree, (bgT2 166 rfl rfl), by decide +kernel, Or.inl ⟨rfl, by decide, (bgT2 39 rfl rfl), (bgT2 40 rfl rfl)⟩⟩, List.forall_mem_cons.mpr ⟨⟨ykX0_canTakeMore, (bgT2 167 rfl rfl), by decide +kernel, Or.inl ⟨rfl, by decide, (bgT2 168 rfl rfl), (bgT2 169 rfl rfl)⟩⟩, List.forall_mem_cons.mpr ⟨⟨ykX2_thingsIn, (bgT2 148 rfl rfl), by decide +kernel, Or.inl ⟨rfl, by decide, (bgT2 133 rfl rfl), (bgT2 134 rfl rfl)⟩⟩, List.forall_mem_cons.mpr ⟨⟨ykX2_isFor, (bgT2 175 rfl rfl), by decide +kernel, Or.inl ⟨rfl, by decide, (bgT2 176 rfl rfl), (bgT2 177 rfl rfl)⟩⟩, List.forall_mem_cons.mpr ⟨⟨ykX5_nextSkill, (bgT2 179 rfl rfl), by decide +kernel, Or.inl ⟨rfl, by decide, (bgT2 180 rfl rfl), (bgT2 181 rfl rfl)⟩⟩, List.forall_mem_cons.mpr ⟨⟨ykX5_nextPart, (bgT2 183 rfl rfl), by decide +kernel, Or.inl ⟨rfl, by decide, (bgT2 184 rfl rfl), (bgT2 185 rfl rfl)⟩⟩, List.forall_mem_cons.mpr ⟨⟨ykX2_isInStock, (bgT2 187 rfl rfl), by decide +kernel, Or.inl ⟨rfl, by decide, (bgT2 188 rfl rfl), (bgT2 189 rfl rfl)⟩⟩, List.forall_mem_cons.mpr ⟨⟨ykX2_hasThing, (bgT2 157 rfl rfl), by decide +kernel, Or.inl ⟨rfl, by decide, (bgT2 128 rfl rfl), (bgT2 129 rfl rfl)⟩⟩, List.forall_mem_cons.mpr ⟨⟨ykX5_nextWork, (bgT2 195 rfl rfl), by decide +kernel, Or.inl ⟨rfl, by decide, (bgT2 196 rfl rfl), (bgT2 197 rfl rfl)⟩⟩, List.forall_mem_cons.mpr ⟨⟨ykX5_leaveQueue, (bgT2 199 rfl rfl), by decide +kernel, Or.inl ⟨rfl, by decide, (bgT2 163 rfl rfl), (bgT2 164 rfl rfl)⟩⟩, List.forall_mem_cons.mpr ⟨⟨ykX2_isOver, (bgT2 144 rfl rfl), by decide +kernel, Or.inl ⟨rfl, by decide, (bgT2 145 rfl rfl), (bgT2 146 rfl rfl)⟩⟩, List.forall_mem_cons.mpr ⟨⟨ykX2_letOnePass, (bgT2 149 rfl rfl), by decide +kernel, Or.inl ⟨rfl, by decide, (bgT2 150 rfl rfl), (bgT2 151 rfl rfl)⟩⟩, List.forall_mem_cons.mpr ⟨⟨ykX2_work, (bgT2 153 rfl rfl), by decide +kernel, Or.inl ⟨rfl, by decide, (bgT2 154 rfl rfl), (bgT2 155 rfl rfl)⟩⟩, List.forall_mem_cons.mpr ⟨⟨ykX2_longestWaiting, (bgT2 171 rfl rfl), by decide +kernel, Or.inl ⟨rfl, by decide, (bgT2 172 rfl rfl), (bgT2 173 rfl rfl)⟩⟩, List.forall_mem_cons.mpr ⟨⟨ykX2_takeIfInStock, (bgT2 191 rfl rfl), by decide +kernel, Or.inl ⟨rfl, by decide, (bgT2 192 rfl rfl), (bgT2 193 rfl rfl)⟩⟩, List.forall_mem_cons.mpr ⟨⟨ykX2_waitOn, (bgT2 200 rfl rfl), by decide +kernel, Or.inl ⟨rfl, by decide, (bgT2 201 rfl rfl), (bgT2 202 rfl rfl)⟩⟩, List.forall_mem_cons.mpr ⟨⟨ykX5_endStep, (bgT2 158 rfl rfl), by decide +kernel, Or.inl ⟨rfl, by decide, (bgT2 159 rfl rfl), (bgT2 160 rfl rfl)⟩⟩, fun _ h => absurd h List.not_mem_nil⟩⟩⟩⟩⟩⟩⟩⟩⟩⟩⟩⟩⟩⟩⟩⟩⟩⟩⟩⟩⟩⟩
theorem mL3_ok : ∀ q ∈ mL3, mOK 3 q := List.forall_mem_cons.mpr ⟨⟨ykX5_init, by decide +kernel, by decide +kernel, Or.inr (Or.inr ⟨by decide, by decide, rfl, rfl, (bgT1 68 rfl rfl)⟩)⟩, List.forall_mem_cons.mpr ⟨⟨ykX6_isOutside, by decide +kernel, by decide +kernel, Or.inr (Or.inl ⟨by decide, (bgT2 4 rfl rfl)⟩)⟩, List.forall_mem_cons.mpr ⟨⟨ykX3_placeBehind, (bgT2 62 rfl rfl), by decide +kernel, Or.inl ⟨rfl, by decide, (bgT2 63 rfl rfl), (bgT2 64 rfl rfl)⟩⟩, List.forall_mem_cons.mpr ⟨⟨ykX3_readFirstSkill, (bgT2 67 rfl rfl), by decide +kernel, Or.inl ⟨rfl, by decide, (bgT2 68 rfl rfl), (bgT2 69 rfl rfl)⟩⟩, List.forall_mem_cons.mpr ⟨⟨ykX3_readSkill, (bgT2 79 rfl rfl), by decide +kernel, Or.inl ⟨rfl, by decide, (bgT2 80 rfl rfl), (bgT2 81 rfl rfl)⟩⟩, List.forall_mem_cons.mpr ⟨⟨ykX3_readWork, (bgT2 87 rfl rfl), by decide +kernel, Or.inl ⟨rfl, by decide, (bgT2 88 rfl rfl), (bgT2 89 rfl rfl)⟩⟩, List.forall_mem_cons.mpr ⟨⟨ykX3_readPart, (bgT2 99 rfl rfl), by decide +kernel, Or.inl ⟨rfl, by decide, (bgT2 100 rfl rfl), (bgT2 101 rfl rfl)⟩⟩, List.forall_mem_cons.mpr ⟨⟨ykX3_readWeakness, (bgT2 107 rfl rfl), by decide +kernel, Or.inl ⟨rfl, by decide, (bgT2 108 rfl rfl), (bgT2 109 rfl rfl)⟩⟩, List.forall_mem_cons.mpr ⟨⟨ykX3_placeBehindMark, (bgT2 111 rfl rfl), by decide +kernel, Or.inl ⟨rfl, by decide, (bgT2 112 rfl rfl), (bgT2 113 rfl rfl)⟩⟩, List.forall_mem_cons.mpr ⟨⟨ykX5_start, (bgT2 71 rfl rfl), by decide +kernel, Or.inl ⟨rfl, by decide, (bgT2 72 rfl rfl), (bgT2 73 rfl rfl)⟩⟩, List.forall_mem_cons.mpr ⟨⟨ykX5_addStep, (bgT2 83 rfl rfl), by decide +kernel, Or.inl ⟨rfl, by decide, (bgT2 84 rfl rfl), (bgT2 85 rfl rfl)⟩⟩, List.forall_mem_cons.mpr ⟨⟨ykX5_setLastWork, (bgT2 91 rfl rfl), by decide +kernel, Or.inl ⟨rfl, by decide, (bgT2 92 rfl rfl), (bgT2 93 rfl rfl)⟩⟩, List.forall_mem_cons.mpr ⟨⟨ykX5_setLastPart, (bgT2 103 rfl rfl), by decide +kernel, Or.inl ⟨rfl, by decide, (bgT2 104 rfl rfl), (bgT2 105 rfl rfl)⟩⟩, fun _ h => absurd h List.not_mem_nil⟩⟩⟩⟩⟩⟩⟩⟩⟩⟩⟩⟩⟩
theorem mL4_ok : ∀ q ∈ mL4, mOK 4 q := List.forall_mem_cons.mpr ⟨⟨ykX0_canTakeMore, (bgT2 216 rfl rfl), by decide +kernel, Or.inl ⟨rfl, by decide, (bgT2 168 rfl rfl), (bgT2 169 rfl rfl)⟩⟩, List.forall_mem_cons.mpr ⟨⟨ykX2_thingsFor, (bgT2 217 rfl rfl), by decide +kernel, Or.inl ⟨rfl, by decide, (bgT2 218 rfl rfl), (bgT2 219 rfl rfl)⟩⟩, List.forall_mem_cons.mpr ⟨⟨ykJ6_bitCount_0f7a4, (bgT2 226 rfl rfl), by decide +kernel, Or.inr (Or.inl ⟨by decide, (bgT2 227 rfl rfl)⟩)⟩, List.forall_mem_cons.mpr ⟨⟨ykX4_lookAt, (bgT2 212 rfl rfl), by decide +kernel, Or.inl ⟨rfl, by decide, (bgT2 213 rfl rfl), (bgT2 214 rfl rfl)⟩⟩, List.forall_mem_cons.mpr ⟨⟨ykX4_mostServed, (bgT2 222 rfl rfl), by decide +kernel, Or.inl ⟨rfl, by decide, (bgT2 223 rfl rfl), (bgT2 224 rfl rfl)⟩⟩, List.forall_mem_cons.mpr ⟨⟨ykX4_lowestFor, (bgT2 235 rfl rfl), by decide +kernel, Or.inl ⟨rfl, by decide, (bgT2 236 rfl rfl), (bgT2 237 rfl rfl)⟩⟩, fun _ h => absurd h List.not_mem_nil⟩⟩⟩⟩⟩⟩
theorem mL5_ok : ∀ q ∈ mL5, mOK 5 q := List.forall_mem_cons.mpr ⟨⟨ykX5_becomeWaiting, (bgT2 75 rfl rfl), by decide +kernel, Or.inl ⟨rfl, by decide, (bgT2 76 rfl rfl), (bgT2 77 rfl rfl)⟩⟩, List.forall_mem_cons.mpr ⟨⟨ykX5_hasStep, (bgT2 95 rfl rfl), by decide +kernel, Or.inl ⟨rfl, by decide, (bgT2 96 rfl rfl), (bgT2 97 rfl rfl)⟩⟩, List.forall_mem_cons.mpr ⟨⟨ykX5_leaveQueue, (bgT2 162 rfl rfl), by decide +kernel, Or.inl ⟨rfl, by decide, (bgT2 163 rfl rfl), (bgT2 164 rfl rfl)⟩⟩, fun _ h => absurd h List.not_mem_nil⟩⟩⟩
theorem mL6_ok : ∀ q ∈ mL6, mOK 6 q := List.forall_mem_cons.mpr ⟨⟨ykX2_init, (bgT1 20 rfl rfl), by decide +kernel, Or.inr (Or.inr ⟨by decide, by decide, rfl, rfl, (bgT1 21 rfl rfl)⟩)⟩, List.forall_mem_cons.mpr ⟨⟨ykX1_init, (bgT1 154 rfl rfl), by decide +kernel, Or.inr (Or.inr ⟨by decide, by decide, rfl, rfl, (bgT1 155 rfl rfl)⟩)⟩, List.forall_mem_cons.mpr ⟨⟨ykX3_init, (bgT1 171 rfl rfl), by decide +kernel, Or.inr (Or.inr ⟨by decide, by decide, rfl, rfl, (bgT1 172 rfl rfl)⟩)⟩, List.forall_mem_cons.mpr ⟨⟨ykX4_init, by decide +kernel, by decide +kernel, Or.inr (Or.inr ⟨by decide, by decide, rfl, rfl, (bgT1 199 rfl rfl)⟩)⟩, List.forall_mem_cons.mpr ⟨⟨ykX6_isOutside, (bgT2 3 rfl rfl), by decide +kernel, Or.inr (Or.inl ⟨by decide, (bgT2 4 rfl rfl)⟩)⟩, List.forall_mem_cons.mpr ⟨⟨ykX1_keep, (bgT2 6 rfl rfl), by decide +kernel, Or.inl ⟨rfl, by decide, (bgT2 7 rfl rfl), (bgT2 8 rfl rfl)⟩⟩, List.forall_mem_cons.mpr ⟨⟨ykX2_addFixer, (bgT2 30 rfl rfl), by decide +kernel, Or.inl ⟨rfl, by decide, (bgT2 31 rfl rfl), (bgT2 32 rfl rfl)⟩⟩, List.forall_mem_cons.mpr ⟨⟨ykX2_hasFixer, (bgT2 46 rfl rfl), by decide +kernel, Or.inl ⟨rfl, by decide, (bgT2 47 rfl rfl), (bgT2 48 rfl rfl)⟩⟩, List.forall_mem_cons.mpr ⟨⟨ykX2_fixersThere, (bgT2 50 rfl rfl), by decide +kernel, Or.inl ⟨rfl, by decide, (bgT2 51 rfl rfl), (bgT2 52 rfl rfl)⟩⟩, List.forall_mem_cons.mpr ⟨⟨ykX3_readThings, (bgT2 58 rfl rfl), by decide +kernel, Or.inl ⟨rfl, by decide, (bgT2 59 rfl rfl), (bgT2 60 rfl rfl)⟩⟩, List.forall_mem_cons.mpr ⟨⟨ykX2_addThing, (bgT2 115 rfl rfl), by decide +kernel, Or.inl ⟨rfl, by decide, (bgT2 116 rfl rfl), (bgT2 117 rfl rfl)⟩⟩, List.forall_mem_cons.mpr ⟨⟨ykX2_hasThing, (bgT2 127 rfl rfl), by decide +kernel, Or.inl ⟨rfl, by decide, (bgT2 128 rfl rfl), (bgT2 129 rfl rfl)⟩⟩, List.forall_mem_cons.mpr ⟨⟨ykX5_becomeWaiting, (bgT2 131 rfl rfl), by decide +kernel, Or.inl ⟨rfl, by decide, (bgT2 76 rfl rfl), (bgT2 77 rfl rfl)⟩⟩, List.forall_mem_cons.mpr ⟨⟨ykX2_thingsIn, (bgT2 132 rfl rfl), by decide +kernel, Or.inl ⟨rfl, by decide, (bgT2 133 rfl rfl), (bgT2 134 rfl rfl)⟩⟩, List.forall_mem_cons.mpr ⟨⟨ykX2_letPass, (bgT2 140 rfl rfl), by decide +kernel, Or.inl ⟨rfl, by decide, (bgT2 141 rfl rfl), (bgT2 142 rfl rfl)⟩⟩, List.forall_mem_cons.mpr ⟨⟨ykX4_makePlan, (bgT2 208 rfl rfl), by decide +kernel, Or.inl ⟨rfl, by decide, (bgT2 209 rfl rfl), (bgT2 210 rfl rfl)⟩⟩, List.forall_mem_cons.mpr ⟨⟨ykX2_takeIfInStock, (bgT2 239 rfl rfl), by decide +kernel, Or.inl ⟨rfl, by decide, (bgT2 192 rfl rfl), (bgT2 193 rfl rfl)⟩⟩, List.forall_mem_cons.mpr ⟨⟨ykX2_removeThings, (bgT3 4 rfl rfl), by decide +kernel, Or.inl ⟨rfl, by decide, (bgT3 5 rfl rfl), (bgT3 6 rfl rfl)⟩⟩, List.forall_mem_cons.mpr ⟨⟨ykX2_fixerOf, (bgT3 69 rfl rfl), by decide +kernel, Or.inl ⟨rfl, by decide, (bgT3 70 rfl rfl), (bgT3 71 rfl rfl)⟩⟩, List.forall_mem_cons.mpr ⟨⟨ykX5_nextSkill, (bgT3 73 rfl rfl), by decide +kernel, Or.inl ⟨rfl, by decide, (bgT2 180 rfl rfl), (bgT2 181 rfl rfl)⟩⟩, List.forall_mem_cons.mpr ⟨⟨ykX2_fixersWith, (bgT3 74 rfl rfl), by decide +kernel, Or.inl ⟨rfl, by decide, (bgT3 75 rfl rfl), (bgT3 76 rfl rfl)⟩⟩, List.forall_mem_cons.mpr ⟨⟨ykX5_hasStep, (bgT3 82 rfl rfl), by decide +kernel, Or.inl ⟨rfl, by decide, (bgT2 96 rfl rfl), (bgT2 97 rfl rfl)⟩⟩, List.forall_mem_cons.mpr ⟨⟨ykX2_freeFixers, (bgT3 87 rfl rfl), by decide +kernel, Or.inl ⟨rfl, by decide, (bgT3 88 rfl rfl), (bgT3 89 rfl rfl)⟩⟩, List.forall_mem_cons.mpr ⟨⟨ykX4_lookAt, (bgT3 114 rfl rfl), by decide +kernel, Or.inl ⟨rfl, by decide, (bgT2 213 rfl rfl), (bgT2 214 rfl rfl)⟩⟩, List.forall_mem_cons.mpr ⟨⟨ykX4_mostServed, (bgT3 116 rfl rfl), by decide +kernel, Or.inl ⟨rfl, by decide, (bgT2 223 rfl rfl), (bgT2 224 rfl rfl)⟩⟩, List.forall_mem_cons.mpr ⟨⟨ykX2_thingsFor, (bgT3 125 rfl rfl), by decide +kernel, Or.inl ⟨rfl, by decide, (bgT2 218 rfl rfl), (bgT2 219 rfl rfl)⟩⟩, List.forall_mem_cons.mpr ⟨⟨ykX4_addFixer, (bgT3 126 rfl rfl), by decide +kernel, Or.inl ⟨rfl, by decide, (bgT3 127 rfl rfl), (bgT3 128 rfl rfl)⟩⟩, List.forall_mem_cons.mpr ⟨⟨ykX2_copyFrom, (bgT3 137 rfl rfl), by decide +kernel, Or.inl ⟨rfl, by decide, (bgT2 15 rfl rfl), (bgT2 16 rfl rfl)⟩⟩, List.forall_mem_cons.mpr ⟨⟨ykX2_isOver, (bgT3 142 rfl rfl), by decide +kernel, Or.inl ⟨rfl, by decide, (bgT2 145 rfl rfl), (bgT2 146 rfl rfl)⟩⟩, List.forall_mem_cons.mpr ⟨⟨ykX2_letOnePass, (bgT3 143 rfl rfl), by decide +kernel, Or.inl ⟨rfl, by decide, (bgT2 150 rfl rfl), (bgT2 151 rfl rfl)⟩⟩, List.forall_mem_cons.mpr ⟨⟨ykX3_signsIn, (bgT3 12 rfl rfl), by decide +kernel, Or.inr (Or.inl ⟨by decide, (bgT3 13 rfl rfl)⟩)⟩, List.forall_mem_cons.mpr ⟨⟨ykX3_append, (bgT3 16 rfl rfl), by decide +kernel, Or.inl ⟨rfl, by decide, (bgT3 17 rfl rfl), (bgT3 18 rfl rfl)⟩⟩, fun _ h => absurd h List.not_mem_nil⟩⟩⟩⟩⟩⟩⟩⟩⟩⟩⟩⟩⟩⟩⟩⟩⟩⟩⟩⟩⟩⟩⟩⟩⟩⟩⟩⟩⟩⟩⟩⟩
theorem mL8_ok : ∀ q ∈ mL8, mOK 8 q := List.forall_mem_cons.mpr ⟨⟨ykL_open, (bgT3 37 rfl rfl), by decide +kernel, Or.inr (Or.inl ⟨by decide, (bgT3 38 rfl rfl)⟩)⟩, List.forall_mem_cons.mpr ⟨⟨ykL_skill, (bgT3 52 rfl rfl), by decide +kernel, Or.inr (Or.inl ⟨by decide, (bgT3 53 rfl rfl)⟩)⟩, List.forall_mem_cons.mpr ⟨⟨ykL_part, (bgT3 40 rfl rfl), by decide +kernel, Or.inr (Or.inl ⟨by decide, (bgT3 41 rfl rfl)⟩)⟩, List.forall_mem_cons.mpr ⟨⟨ykL_able, (bgT3 49 rfl rfl), by decide +kernel, Or.inr (Or.inl ⟨by decide, (bgT3 50 rfl rfl)⟩)⟩, List.forall_mem_cons.mpr ⟨⟨ykL_take, (bgT3 43 rfl rfl), by decide +kernel, Or.inr (Or.inl ⟨by decide, (bgT3 44 rfl rfl)⟩)⟩, List.forall_mem_cons.mpr ⟨⟨ykX6_fixer, (bgT3 61 rfl rfl), by decide +kernel, Or.inl ⟨rfl, by decide, (bgT3 62 rfl rfl), (bgT3 63 rfl rfl)⟩⟩, List.forall_mem_cons.mpr ⟨⟨ykX6_thing, (bgT3 65 rfl rfl), by decide +kernel, Or.inl ⟨rfl, by decide, (bgT3 66 rfl rfl), (bgT3 67 rfl rfl)⟩⟩, List.forall_mem_cons.mpr ⟨⟨ykX6_step, (bgT3 78 rfl rfl), by decide +kernel, Or.inl ⟨rfl, by decide, (bgT3 79 rfl rfl), (bgT3 80 rfl rfl)⟩⟩, List.forall_mem_cons.mpr ⟨⟨ykX6_count, (bgT3 83 rfl rfl), by decide +kernel, Or.inl ⟨rfl, by decide, (bgT3 84 rfl rfl), (bgT3 85 rfl rfl)⟩⟩, List.forall_mem_cons.mpr ⟨⟨ykL_states, (bgT3 55 rfl rfl), by decide +kernel, Or.inr (Or.inl ⟨by decide, (bgT3 56 rfl rfl)⟩)⟩, List.forall_mem_cons.mpr ⟨⟨ykL_put, (bgT3 97 rfl rfl), by decide +kernel, Or.inr (Or.inl ⟨by decide, (bgT3 98 rfl rfl)⟩)⟩, List.forall_mem_cons.mpr ⟨⟨ykL_at, (bgT3 100 rfl rfl), by decide +kernel, Or.inr (Or.inl ⟨by decide, (bgT3 101 rfl rfl)⟩)⟩, List.forall_mem_cons.mpr ⟨⟨ykL_most, (bgT3 94 rfl rfl), by decide +kernel, Or.inr (Or.inl ⟨by decide, (bgT3 95 rfl rfl)⟩)⟩, List.forall_mem_cons.mpr ⟨⟨ykL_plan, (bgT3 91 rfl rfl), by decide +kernel, Or.inr (Or.inl ⟨by decide, (bgT3 92 rfl rfl)⟩)⟩, List.forall_mem_cons.mpr ⟨⟨ykX6_plan, (bgT3 106 rfl rfl), by decide +kernel, Or.inl ⟨rfl, by decide, (bgT3 107 rfl rfl), (bgT3 108 rfl rfl)⟩⟩, List.forall_mem_cons.mpr ⟨⟨ykX6_ifAway, (bgT3 110 rfl rfl), by decide +kernel, Or.inl ⟨rfl, by decide, (bgT3 111 rfl rfl), (bgT3 112 rfl rfl)⟩⟩, List.forall_mem_cons.mpr ⟨⟨ykX6_planned, (bgT3 117 rfl rfl), by decide +kernel, Or.inl ⟨rfl, by decide, (bgT3 118 rfl rfl), (bgT3 119 rfl rfl)⟩⟩, List.forall_mem_cons.mpr ⟨⟨ykX6_bestSkill, (bgT3 121 rfl rfl), by decide +kernel, Or.inl ⟨rfl, by decide, (bgT3 122 rfl rfl), (bgT3 123 rfl rfl)⟩⟩, List.forall_mem_cons.mpr ⟨⟨ykL_low, (bgT3 33 rfl rfl), by decide +kernel, Or.inr (Or.inl ⟨by decide, (bgT3 34 rfl rfl)⟩)⟩, List.forall_mem_cons.mpr ⟨⟨ykL_copy, (bgT3 130 rfl rfl), by decide +kernel, Or.inr (Or.inl ⟨by decide, (bgT3 131 rfl rfl)⟩)⟩, List.forall_mem_cons.mpr ⟨⟨ykL_slot, (bgT3 46 rfl rfl), by decide +kernel, Or.inr (Or.inl ⟨by decide, (bgT3 47 rfl rfl)⟩)⟩, List.forall_mem_cons.mpr ⟨⟨ykX6_ifPassed, (bgT3 133 rfl rfl), by decide +kernel, Or.inl ⟨rfl, by decide, (bgT3 134 rfl rfl), (bgT3 135 rfl rfl)⟩⟩, List.forall_mem_cons.mpr ⟨⟨ykX6_untilOver, (bgT3 138 rfl rfl), by decide +kernel, Or.inl ⟨rfl, by decide, (bgT3 139 rfl rfl), (bgT3 140 rfl rfl)⟩⟩, List.forall_mem_cons.mpr ⟨⟨ykX6_bestPart, (bgT3 144 rfl rfl), by decide +kernel, Or.inl ⟨rfl, by decide, (bgT3 145 rfl rfl), (bgT3 146 rfl rfl)⟩⟩, List.forall_mem_cons.mpr ⟨⟨ykX6_init, (bgT1 12 rfl rfl), by decide +kernel, Or.inr (Or.inr ⟨by decide, by decide, rfl, rfl, (bgT1 13 rfl rfl)⟩)⟩, List.forall_mem_cons.mpr ⟨⟨ykL_cell, (bgT3 28 rfl rfl), by decide +kernel, Or.inr (Or.inl ⟨by decide, (bgT3 29 rfl rfl)⟩)⟩, List.forall_mem_cons.mpr ⟨⟨ykX6_come, (bgT2 26 rfl rfl), by decide +kernel, Or.inl ⟨rfl, by decide, (bgT2 27 rfl rfl), (bgT2 28 rfl rfl)⟩⟩, List.forall_mem_cons.mpr ⟨⟨ykX6_wipe, (bgT3 20 rfl rfl), by decide +kernel, Or.inl ⟨rfl, by decide, (bgT3 21 rfl rfl), (bgT3 22 rfl rfl)⟩⟩, List.forall_mem_cons.mpr ⟨⟨ykX6_put, (bgT3 8 rfl rfl), by decide +kernel, Or.inl ⟨rfl, by decide, (bgT3 9 rfl rfl), (bgT3 10 rfl rfl)⟩⟩, List.forall_mem_cons.mpr ⟨⟨ykX6_fault, (bgT3 24 rfl rfl), by decide +kernel, Or.inl ⟨rfl, by decide, (bgT3 25 rfl rfl), (bgT3 26 rfl rfl)⟩⟩, List.forall_mem_cons.mpr ⟨⟨ykX6_bring, (bgT2 54 rfl rfl), by decide +kernel, Or.inl ⟨rfl, by decide, (bgT2 55 rfl rfl), (bgT2 56 rfl rfl)⟩⟩, List.forall_mem_cons.mpr ⟨⟨ykX6_pass, (bgT2 136 rfl rfl), by decide +kernel, Or.inl ⟨rfl, by decide, (bgT2 137 rfl rfl), (bgT2 138 rfl rfl)⟩⟩, List.forall_mem_cons.mpr ⟨⟨ykX6_away, (bgT2 42 rfl rfl), by decide +kernel, Or.inl ⟨rfl, by decide, (bgT2 43 rfl rfl), (bgT2 44 rfl rfl)⟩⟩, List.forall_mem_cons.mpr ⟨⟨ykX6_stock, (bgT2 119 rfl rfl), by decide +kernel, Or.inl ⟨rfl, by decide, (bgT2 120 rfl rfl), (bgT2 121 rfl rfl)⟩⟩, List.forall_mem_cons.mpr ⟨⟨ykX6_again, (bgT2 123 rfl rfl), by decide +kernel, Or.inl ⟨rfl, by decide, (bgT2 124 rfl rfl), (bgT2 125 rfl rfl)⟩⟩, List.forall_mem_cons.mpr ⟨⟨ykX6_giveOut, (bgT2 204 rfl rfl), by decide +kernel, Or.inl ⟨rfl, by decide, (bgT2 205 rfl rfl), (bgT2 206 rfl rfl)⟩⟩, List.forall_mem_cons.mpr ⟨⟨ykX6_clear, (bgT3 0 rfl rfl), by decide +kernel, Or.inl ⟨rfl, by decide, (bgT3 1 rfl rfl), (bgT3 2 rfl rfl)⟩⟩, List.forall_mem_cons.mpr ⟨⟨ykX6_set, (bgT1 239 rfl rfl), by decide +kernel, Or.inl ⟨rfl, by decide, (bgT2 0 rfl rfl), (bgT2 1 rfl rfl)⟩⟩, List.forall_mem_cons.mpr ⟨⟨ykL_same, (bgT3 58 rfl rfl), by decide +kernel, Or.inr (Or.inl ⟨by decide, (bgT3 59 rfl rfl)⟩)⟩, List.forall_mem_cons.mpr ⟨⟨ykL_would, (bgT3 103 rfl rfl), by decide +kernel, Or.inr (Or.inl ⟨by decide, (bgT3 104 rfl rfl)⟩)⟩, fun _ h => absurd h List.not_mem_nil⟩⟩⟩⟩⟩⟩⟩⟩⟩⟩⟩⟩⟩⟩⟩⟩⟩⟩⟩⟩⟩⟩⟩⟩⟩⟩⟩⟩⟩⟩⟩⟩⟩⟩⟩⟩⟩⟩⟩⟩
theorem mL_ok (o : Nat) : ∀ q ∈ mL o, mOK o q := by
  unfold mL
  split
  · exact mL0_ok
  · exact mL1_ok
  · exact mL2_ok
  · exact mL3_ok
  · exact mL4_ok
  · exact mL5_ok
  · exact mL6_ok
  · exact mL8_ok
  · exact fun _ h => absurd h List.not_mem_nil
theorem oL0_ok : ∀ q ∈ oL0, oOK 0 q := List.forall_mem_cons.mpr ⟨(bgT1 32 rfl rfl), fun _ h => absurd h List.not_mem_nil⟩
theorem oL1_ok : ∀ q ∈ oL1, oOK 1 q := List.forall_mem_cons.mpr ⟨(bgT1 157 rfl rfl), fun _ h => absurd h List.not_mem_nil⟩
theorem oL2_ok : ∀ q ∈ oL2, oOK 2 q := List.forall_mem_cons.mpr ⟨(bgT1 23 rfl rfl), fun _ h => absurd h List.not_mem_nil⟩
theorem oL3_ok : ∀ q ∈ oL3, oOK 3 q := List.forall_mem_cons.mpr ⟨(bgT1 174 rfl rfl), fun _ h => absurd h List.not_mem_nil⟩
theorem oL4_ok : ∀ q ∈ oL4, oOK 4 q := List.forall_mem_cons.mpr ⟨(bgT1 201 rfl rfl), fun _ h => absurd h List.not_mem_nil⟩
theorem oL5_ok : ∀ q ∈ oL5, oOK 5 q := List.forall_mem_cons.mpr ⟨(bgT1 70 rfl rfl), fun _ h => absurd h List.not_mem_nil⟩
theorem oL6_ok : ∀ q ∈ oL6, oOK 6 q := List.forall_mem_cons.mpr ⟨(bgT1 15 rfl rfl), fun _ h => absurd h List.not_mem_nil⟩
theorem oL_ok (o : Nat) : ∀ q ∈ oL o, oOK o q := by
  unfold oL
  split
  · exact oL0_ok
  · exact oL1_ok
  · exact oL2_ok
  · exact oL3_ok
  · exact oL4_ok
  · exact oL5_ok
  · exact oL6_ok
  · exact fun _ h => absurd h List.not_mem_nil
theorem pL4_ok : ∀ q ∈ pL4, pOK 4 q := List.forall_mem_cons.mpr ⟨(bgT2 232 rfl rfl), fun _ h => absurd h List.not_mem_nil⟩
theorem pL_ok (o : Nat) : ∀ q ∈ pL o, pOK o q := by
  unfold pL
  split
  · exact pL4_ok
  · exact fun _ h => absurd h List.not_mem_nil
theorem kL1_ok : ∀ q ∈ kL1, kOK 1 q := List.forall_mem_cons.mpr ⟨⟨by decide, (bgT1 158 rfl rfl)⟩, fun _ h => absurd h List.not_mem_nil⟩
theorem kL2_ok : ∀ q ∈ kL2, kOK 2 q := List.forall_mem_cons.mpr ⟨⟨by decide, (bgT1 24 rfl rfl)⟩, List.forall_mem_cons.mpr ⟨⟨by decide, (bgT1 26 rfl rfl)⟩, fun _ h => absurd h List.not_mem_nil⟩⟩
theorem kL3_ok : ∀ q ∈ kL3, kOK 3 q := List.forall_mem_cons.mpr ⟨⟨by decide, (bgT1 175 rfl rfl)⟩, fun _ h => absurd h List.not_mem_nil⟩
theorem kL6_ok : ∀ q ∈ kL6, kOK 6 q := List.forall_mem_cons.mpr ⟨⟨by decide, (bgT1 18 rfl rfl)⟩, List.forall_mem_cons.mpr ⟨⟨by decide, (bgT1 152 rfl rfl)⟩, List.forall_mem_cons.mpr ⟨⟨by decide, (bgT1 169 rfl rfl)⟩, List.forall_mem_cons.mpr ⟨⟨by decide, (bgT1 196 rfl rfl)⟩, fun _ h => absurd h List.not_mem_nil⟩⟩⟩⟩
theorem kL8_ok : ∀ q ∈ kL8, kOK 8 q := List.forall_mem_cons.mpr ⟨⟨by decide, (bgT1 10 rfl rfl)⟩, fun _ h => absurd h List.not_mem_nil⟩
theorem kL_ok (o : Nat) : ∀ q ∈ kL o, kOK o q := by
  unfold kL
  split
  · exact kL1_ok
  · exact kL2_ok
  · exact kL3_ok
  · exact kL6_ok
  · exact kL8_ok
  · exact fun _ h => absurd h List.not_mem_nil
theorem cL4_ok : ∀ q ∈ cL4, cOK 4 q := List.forall_mem_cons.mpr ⟨(bgT2 221 rfl rfl), fun _ h => absurd h List.not_mem_nil⟩
theorem cL6_ok : ∀ q ∈ cL6, cOK 6 q := List.forall_mem_cons.mpr ⟨(bgT3 115 rfl rfl), fun _ h => absurd h List.not_mem_nil⟩
theorem cL8_ok : ∀ q ∈ cL8, cOK 8 q := List.forall_mem_cons.mpr ⟨(bgT3 31 rfl rfl), List.forall_mem_cons.mpr ⟨(bgT3 32 rfl rfl), List.forall_mem_cons.mpr ⟨(bgT3 36 rfl rfl), fun _ h => absurd h List.not_mem_nil⟩⟩⟩
theorem cL9_ok : ∀ q ∈ cL9, cOK 9 q := List.forall_mem_cons.mpr ⟨(bgT2 229 rfl rfl), List.forall_mem_cons.mpr ⟨(bgT2 230 rfl rfl), List.forall_mem_cons.mpr ⟨(bgT2 231 rfl rfl), fun _ h => absurd h List.not_mem_nil⟩⟩⟩
theorem cL_ok (o : Nat) : ∀ q ∈ cL o, cOK o q := by
  unfold cL
  split
  · exact cL4_ok
  · exact cL6_ok
  · exact cL8_ok
  · exact cL9_ok
  · exact fun _ h => absurd h List.not_mem_nil
theorem lL3_ok : ∀ q ∈ lL3, lOK 3 q := List.forall_mem_cons.mpr ⟨(bgT3 15 rfl rfl), fun _ h => absurd h List.not_mem_nil⟩
theorem lL8_ok : ∀ q ∈ lL8, lOK 8 q := List.forall_mem_cons.mpr ⟨(bgT3 148 rfl rfl), List.forall_mem_cons.mpr ⟨(bgT3 149 rfl rfl), List.forall_mem_cons.mpr ⟨(bgT3 150 rfl rfl), fun _ h => absurd h List.not_mem_nil⟩⟩⟩
theorem lL_ok (o : Nat) : ∀ q ∈ lL o, lOK o q := by
  unfold lL
  split
  · exact lL3_ok
  · exact lL8_ok
  · exact fun _ h => absurd h List.not_mem_nil
theorem uin0_0 : u_lay RX0 TX0 0 ∈ BG := (bgT1 52 rfl rfl)
theorem uin0_1 : u_lay RX0 TX0 1 ∈ BG := (bgT1 54 rfl rfl)
theorem uin0_2 : u_lay RX0 TX0 2 ∈ BG := (bgT1 56 rfl rfl)
theorem uin0_3 : u_lay RX0 TX0 3 ∈ BG := (bgT1 58 rfl rfl)
theorem uin0_4 : u_lay RX0 TX0 4 ∈ BG := (bgT1 60 rfl rfl)
theorem uin0_5 : u_lay RX0 TX0 5 ∈ BG := (bgT1 62 rfl rfl)
theorem uin0 : ∀ w ∈ u_ws RX0 TX0 6, w ∈ BG := by
  intro w h
  obtain ⟨j, hj, rfl⟩ := List.mem_map.mp h
  have hj := List.mem_range.mp hj
  match j, hj with
  | 0, _ => exact uin0_0
  | 1, _ => exact uin0_1
  | 2, _ => exact uin0_2
  | 3, _ => exact uin0_3
  | 4, _ => exact uin0_4
  | 5, _ => exact uin0_5
  | _ + 6, h => exact absurd h (by omega)
theorem uin1_0 : u_lay RX1 TX1 0 ∈ BG := (bgT1 163 rfl rfl)
theorem uin1_1 : u_lay RX1 TX1 1 ∈ BG := (bgT1 165 rfl rfl)
theorem uin1 : ∀ w ∈ u_ws RX1 TX1 2, w ∈ BG := by
  intro w h
  obtain ⟨j, hj, rfl⟩ := List.mem_map.mp h
  have hj := List.mem_range.mp hj
  match j, hj with
  | 0, _ => exact uin1_0
  | 1, _ => exact uin1_1
  | _ + 2, h => exact absurd h (by omega)
theorem uin2_0 : u_lay RX2 TX2 0 ∈ BG := (bgT1 132 rfl rfl)
theorem uin2_1 : u_lay RX2 TX2 1 ∈ BG := (bgT1 134 rfl rfl)
theorem uin2_2 : u_lay RX2 TX2 2 ∈ BG := (bgT1 136 rfl rfl)
theorem uin2_3 : u_lay RX2 TX2 3 ∈ BG := (bgT1 138 rfl rfl)
theorem uin2_4 : u_lay RX2 TX2 4 ∈ BG := (bgT1 140 rfl rfl)
theorem uin2_5 : u_lay RX2 TX2 5 ∈ BG := (bgT1 142 rfl rfl)
theorem uin2_6 : u_lay RX2 TX2 6 ∈ BG := (bgT1 144 rfl rfl)
theorem uin2_7 : u_lay RX2 TX2 7 ∈ BG := (bgT1 146 rfl rfl)
theorem uin2_8 : u_lay RX2 TX2 8 ∈ BG := (bgT1 148 rfl rfl)
theorem uin2 : ∀ w ∈ u_ws RX2 TX2 9, w ∈ BG := by
  intro w h
  obtain ⟨j, hj, rfl⟩ := List.mem_map.mp h
  have hj := List.mem_range.mp hj
  match j, hj with
  | 0, _ => exact uin2_0
  | 1, _ => exact uin2_1
  | 2, _ => exact uin2_2
  | 3, _ => exact uin2_3
  | 4, _ => exact uin2_4
  | 5, _ => exact uin2_5
  | 6, _ => exact uin2_6
  | 7, _ => exact uin2_7
  | 8, _ => exact uin2_8
  | _ + 9, h => exact absurd h (by omega)
theorem uin3_0 : u_lay RX3 TX3 0 ∈ BG := (bgT1 185 rfl rfl)
theorem uin3_1 : u_lay RX3 TX3 1 ∈ BG := (bgT1 187 rfl rfl)
theorem uin3_2 : u_lay RX3 TX3 2 ∈ BG := (bgT1 189 rfl rfl)
theorem uin3_3 : u_lay RX3 TX3 3 ∈ BG := (bgT1 191 rfl rfl)
theorem uin3_4 : u_lay RX3 TX3 4 ∈ BG := (bgT1 193 rfl rfl)
theorem uin3 : ∀ w ∈ u_ws RX3 TX3 5, w ∈ BG := by
  intro w h
  obtain ⟨j, hj, rfl⟩ := List.mem_map.mp h
  have hj := List.mem_range.mp hj
  match j, hj with
  | 0, _ => exact uin3_0
  | 1, _ => exact uin3_1
  | 2, _ => exact uin3_2
  | 3, _ => exact uin3_3
  | 4, _ => exact uin3_4
  | _ + 5, h => exact absurd h (by omega)
theorem uin4_0 : u_lay RX4 TX4 0 ∈ BG := (bgT1 208 rfl rfl)
theorem uin4_1 : u_lay RX4 TX4 1 ∈ BG := (bgT1 210 rfl rfl)
theorem uin4_2 : u_lay RX4 TX4 2 ∈ BG := (bgT1 212 rfl rfl)
theorem uin4_3 : u_lay RX4 TX4 3 ∈ BG := (bgT1 214 rfl rfl)
theorem uin4 : ∀ w ∈ u_ws RX4 TX4 4, w ∈ BG := by
  intro w h
  obtain ⟨j, hj, rfl⟩ := List.mem_map.mp h
  have hj := List.mem_range.mp hj
  match j, hj with
  | 0, _ => exact uin4_0
  | 1, _ => exact uin4_1
  | 2, _ => exact uin4_2
  | 3, _ => exact uin4_3
  | _ + 4, h => exact absurd h (by omega)
theorem uin5_0 : u_lay RX5 TX5 0 ∈ BG := (bgT1 93 rfl rfl)
theorem uin5_1 : u_lay RX5 TX5 1 ∈ BG := (bgT1 95 rfl rfl)
theorem uin5_2 : u_lay RX5 TX5 2 ∈ BG := (bgT1 97 rfl rfl)
theorem uin5_3 : u_lay RX5 TX5 3 ∈ BG := (bgT1 99 rfl rfl)
theorem uin5_4 : u_lay RX5 TX5 4 ∈ BG := (bgT1 101 rfl rfl)
theorem uin5_5 : u_lay RX5 TX5 5 ∈ BG := (bgT1 103 rfl rfl)
theorem uin5_6 : u_lay RX5 TX5 6 ∈ BG := (bgT1 105 rfl rfl)
theorem uin5_7 : u_lay RX5 TX5 7 ∈ BG := (bgT1 107 rfl rfl)
theorem uin5_8 : u_lay RX5 TX5 8 ∈ BG := (bgT1 109 rfl rfl)
theorem uin5 : ∀ w ∈ u_ws RX5 TX5 9, w ∈ BG := by
  intro w h
  obtain ⟨j, hj, rfl⟩ := List.mem_map.mp h
  have hj := List.mem_range.mp hj
  match j, hj with
  | 0, _ => exact uin5_0
  | 1, _ => exact uin5_1
  | 2, _ => exact uin5_2
  | 3, _ => exact uin5_3
  | 4, _ => exact uin5_4
  | 5, _ => exact uin5_5
  | 6, _ => exact uin5_6
  | 7, _ => exact uin5_7
  | 8, _ => exact uin5_8
  | _ + 9, h => exact absurd h (by omega)
theorem uin6_0 : u_lay RX6 TX6 0 ∈ BG := (bgT1 224 rfl rfl)
theorem uin6_1 : u_lay RX6 TX6 1 ∈ BG := (bgT1 226 rfl rfl)
theorem uin6_2 : u_lay RX6 TX6 2 ∈ BG := (bgT1 228 rfl rfl)
theorem uin6_3 : u_lay RX6 TX6 3 ∈ BG := (bgT1 230 rfl rfl)
theorem uin6_4 : u_lay RX6 TX6 4 ∈ BG := (bgT1 232 rfl rfl)
theorem uin6_5 : u_lay RX6 TX6 5 ∈ BG := (bgT1 234 rfl rfl)
theorem uin6_6 : u_lay RX6 TX6 6 ∈ BG := (bgT1 236 rfl rfl)
theorem uin6 : ∀ w ∈ u_ws RX6 TX6 7, w ∈ BG := by
  intro w h
  obtain ⟨j, hj, rfl⟩ := List.mem_map.mp h
  have hj := List.mem_range.mp hj
  match j, hj with
  | 0, _ => exact uin6_0
  | 1, _ => exact uin6_1
  | 2, _ => exact uin6_2
  | 3, _ => exact uin6_3
  | 4, _ => exact uin6_4
  | 5, _ => exact uin6_5
  | 6, _ => exact uin6_6
  | _ + 7, h => exact absurd h (by omega)
theorem nk_in : ∀ k, k < 7 → ∀ w ∈ u_ws (RN k) (TN k) (NN k), w ∈ BG := fun k h => match k, h with
  | 0, _ => uin0
  | 1, _ => uin1
  | 2, _ => uin2
  | 3, _ => uin3
  | 4, _ => uin4
  | 5, _ => uin5
  | 6, _ => uin6
  | _ + 7, h => absurd h (by omega)
theorem nk_nm : ∀ k, k < 7 → ∀ a, a < NN k → ∀ b, b < NN k → a ≠ b → (TN k a).2.1 ≠ (TN k b).2.1 := fun k h => match k, h with
  | 0, _ => nmX0
  | 1, _ => nmX1
  | 2, _ => nmX2
  | 3, _ => nmX3
  | 4, _ => nmX4
  | 5, _ => nmX5
  | 6, _ => nmX6
  | _ + 7, h => absurd h (by omega)
theorem nk_ty : ∀ k, k < 7 → ∀ j, j < NN k → parseFieldDescriptor (TN k j).2.2.1 = some (tyN k j) := fun k h => match k, h with
  | 0, _ => tyX0_ok
  | 1, _ => tyX1_ok
  | 2, _ => tyX2_ok
  | 3, _ => tyX3_ok
  | 4, _ => tyX4_ok
  | 5, _ => tyX5_ok
  | 6, _ => tyX6_ok
  | _ + 7, h => absurd h (by omega)
theorem nk_cl : ∀ k, k < 7 → vwCl[k]? = some (RN k, TN k, NN k) := fun k h => match k, h with
  | 0, _ => rfl
  | 1, _ => rfl
  | 2, _ => rfl
  | 3, _ => rfl
  | 4, _ => rfl
  | 5, _ => rfl
  | 6, _ => rfl
  | _ + 7, h => absurd h (by omega)
theorem nk_mk : ∀ k, k < 7 → Cond.instantiable (RN k) (NN k) ∈ BG ∧ Cond.initialized (RN k) ∈ BG := fun k h => match k, h with
  | 0, _ => ⟨(bgT1 28 rfl rfl), (bgT1 3 rfl rfl)⟩
  | 1, _ => ⟨(bgT1 153 rfl rfl), (bgT1 5 rfl rfl)⟩
  | 2, _ => ⟨(bgT1 19 rfl rfl), (bgT1 2 rfl rfl)⟩
  | 3, _ => ⟨(bgT1 170 rfl rfl), (bgT1 6 rfl rfl)⟩
  | 4, _ => ⟨(bgT1 197 rfl rfl), (bgT1 7 rfl rfl)⟩
  | 5, _ => ⟨(bgT1 66 rfl rfl), (bgT1 4 rfl rfl)⟩
  | 6, _ => ⟨(bgT1 11 rfl rfl), (bgT1 1 rfl rfl)⟩
  | _ + 7, h => absurd h (by omega)
theorem nk_ar : Cond.arrayClass .int ∈ BG ∧ Cond.arrayClass .boolean ∈ BG := ⟨(bgT1 65 rfl rfl), (bgT1 168 rfl rfl)⟩
theorem nk_mi : Cond.static Lib.Math.min.name ∈ BG ∧ Cond.initialized "java/lang/Math" ∈ BG ∧ Cond.code Lib.Math.min.name Lib.Math.min.code 2 (some .int) ∈ BG := ⟨(bgT2 233 rfl rfl), (bgT1 9 rfl rfl), (bgT2 234 rfl rfl)⟩
theorem nk_oi : Cond.instanceMethod objectInit ∈ BG ∧ Cond.code objectInit ⟨#[0xb1]⟩ 1 none ∈ BG := ⟨(bgT1 16 rfl rfl), (bgT1 17 rfl rfl)⟩
