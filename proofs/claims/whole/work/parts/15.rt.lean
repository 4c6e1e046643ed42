theorem r_X0_takeFrom : i_X0_takeFrom.2.2.2.1 = none := rfl
theorem r_X0_clear : i_X0_clear.2.2.2.1 = none := rfl
theorem r_X0_known : i_X0_known.2.2.2.1 = some .boolean := rfl
theorem r_X0_lives : i_X0_lives.2.2.2.1 = some .boolean := rfl
theorem r_X0_isOf : i_X0_isOf.2.2.2.1 = some .boolean := rfl
theorem r_X0_isThing : i_X0_isThing.2.2.2.1 = some .boolean := rfl
theorem r_X0_allLive : i_X0_allLive.2.2.2.1 = some .boolean := rfl
theorem r_X0_addPerson : i_X0_addPerson.2.2.2.1 = some .int := rfl
theorem r_X0_addThing : i_X0_addThing.2.2.2.1 = some .int := rfl
theorem r_X0_setRule : i_X0_setRule.2.2.2.1 = none := rfl
theorem r_X0_canMarry : i_X0_canMarry.2.2.2.1 = some .boolean := rfl
theorem r_X0_join : i_X0_join.2.2.2.1 = some .boolean := rfl
theorem r_X0_houseOf : i_X0_houseOf.2.2.2.1 = some .int := rfl
theorem r_X0_isIn : i_X0_isIn.2.2.2.1 = some .boolean := rfl
theorem r_X0_childrenOf : i_X0_childrenOf.2.2.2.1 = some .int := rfl
theorem r_X0_siblingsOf : i_X0_siblingsOf.2.2.2.1 = some .int := rfl
theorem r_X0_ofSex : i_X0_ofSex.2.2.2.1 = some .int := rfl
theorem r_X0_related : i_X0_related.2.2.2.1 = some .int := rfl
theorem r_X0_heirBy : i_X0_heirBy.2.2.2.1 = some .int := rfl
theorem r_X0_member : i_X0_member.2.2.2.1 = some .int := rfl
theorem r_X0_heldBy : i_X0_heldBy.2.2.2.1 = some .int := rfl
theorem r_X0_worthOfLands : i_X0_worthOfLands.2.2.2.1 = some .int := rfl
theorem r_X0_owedTo : i_X0_owedTo.2.2.2.1 = some .int := rfl
theorem r_X0_pass : i_X0_pass.2.2.2.1 = none := rfl
theorem r_X0_bury : i_X0_bury.2.2.2.1 = none := rfl
theorem r_X0_death : i_X0_death.2.2.2.1 = none := rfl
theorem r_X0_deaths : i_X0_deaths.2.2.2.1 = none := rfl
theorem r_X0_hasThingsOf : i_X0_hasThingsOf.2.2.2.1 = some .boolean := rfl
theorem r_X0_drawn : i_X0_drawn.2.2.2.1 = some .int := rfl
theorem r_X0_wives : i_X0_wives.2.2.2.1 = some .int := rfl
theorem r_X0_lot : i_X0_lot.2.2.2.1 = some .int := rfl
theorem r_X1_takes : i_X1_takes.2.2.2.1 = some .boolean := rfl
theorem r_X1_gather : i_X1_gather.2.2.2.1 = none := rfl
theorem r_X1_lay : i_X1_lay.2.2.2.1 = none := rfl
theorem r_X2_isSheet : i_X2_isSheet.2.2.2.1 = some .boolean := rfl
theorem r_X2_isLane : i_X2_isLane.2.2.2.1 = some .boolean := rfl
theorem r_X2_holds : i_X2_holds.2.2.2.1 = some .boolean := rfl
theorem r_X2_spans : i_X2_spans.2.2.2.1 = some .boolean := rfl
theorem r_X2_look : i_X2_look.2.2.2.1 = some .int := rfl
theorem r_X2_renew : i_X2_renew.2.2.2.1 = none := rfl
theorem r_X2_get : i_X2_get.2.2.2.1 = some .int := rfl
theorem r_X2_put : i_X2_put.2.2.2.1 = none := rfl
theorem r_X2_move : i_X2_move.2.2.2.1 = none := rfl
theorem r_X3_tell : i_X3_tell.2.2.2.1 = none := rfl
theorem r_X3_firstWhoCannotDie : i_X3_firstWhoCannotDie.2.2.2.1 = some .int := rfl
theorem r_X3_fewest : i_X3_fewest.2.2.2.1 = some .int := rfl
theorem r_X3_isPair : i_X3_isPair.2.2.2.1 = some .boolean := rfl
theorem r_X3_brings : i_X3_brings.2.2.2.1 = some .boolean := rfl
theorem r_X3_weds : i_X3_weds.2.2.2.1 = some .boolean := rfl
theorem r_X4_put : i_X4_put.2.2.2.1 = some .int := rfl
theorem r_X4_byteOf : i_X4_byteOf.2.2.2.1 = some .int := rfl
theorem r_X4_open : i_X4_open.2.2.2.1 = none := rfl
theorem r_X4_passBlanks : i_X4_passBlanks.2.2.2.1 = none := rfl
theorem r_X4_step : i_X4_step.2.2.2.1 = none := rfl
theorem r_X4_empty : i_X4_empty.2.2.2.1 = none := rfl
theorem r_X4_next : i_X4_next.2.2.2.1 = some .int := rfl
theorem r_X4_skip : i_X4_skip.2.2.2.1 = some .boolean := rfl
theorem r_X4_fault : i_X4_fault.2.2.2.1 = some .int := rfl
theorem r_X4_readPeople : i_X4_readPeople.2.2.2.1 = some .int := rfl
theorem r_X4_readPerson : i_X4_readPerson.2.2.2.1 = some .boolean := rfl
theorem r_X4_readFather : i_X4_readFather.2.2.2.1 = some .boolean := rfl
theorem r_X4_readMother : i_X4_readMother.2.2.2.1 = some .boolean := rfl
theorem r_X4_readSpouse : i_X4_readSpouse.2.2.2.1 = some .boolean := rfl
theorem r_X4_readRules : i_X4_readRules.2.2.2.1 = some .int := rfl
theorem r_X4_kindOf : i_X4_kindOf.2.2.2.1 = some .int := rfl
theorem r_X4_readRow : i_X4_readRow.2.2.2.1 = some .boolean := rfl
theorem r_X5_person : i_X5_person.2.2.2.1 = some .int := rfl
theorem r_X5_marry : i_X5_marry.2.2.2.1 = some .int := rfl
theorem r_X5_adopt : i_X5_adopt.2.2.2.1 = some .int := rfl
theorem r_X5_god : i_X5_god.2.2.2.1 = some .int := rfl
theorem r_X5_told : i_X5_told.2.2.2.1 = some .int := rfl
theorem r_X5_kin : i_X5_kin.2.2.2.1 = some .int := rfl
theorem r_X5_thing : i_X5_thing.2.2.2.1 = some .int := rfl
theorem r_X5_of : i_X5_of.2.2.2.1 = some .int := rfl
theorem r_X5_rule : i_X5_rule.2.2.2.1 = some .int := rfl
theorem r_X5_heir : i_X5_heir.2.2.2.1 = some .int := rfl
theorem r_X5_type : i_X5_type.2.2.2.1 = some .int := rfl
theorem r_X5_family : i_X5_family.2.2.2.1 = some .int := rfl
theorem r_X5_rules : i_X5_rules.2.2.2.1 = some .int := rfl
theorem r_X5_count : i_X5_count.2.2.2.1 = some .int := rfl
theorem r_X5_dies : i_X5_dies.2.2.2.1 = some .int := rfl
theorem r_X5_gathers : i_X5_gathers.2.2.2.1 = some .int := rfl
theorem r_X5_balance : i_X5_balance.2.2.2.1 = some .int := rfl
theorem r_X5_paid : i_X5_paid.2.2.2.1 = some .int := rfl
theorem r_X5_orders : i_X5_orders.2.2.2.1 = some .int := rfl
theorem r_X5_explained : i_X5_explained.2.2.2.1 = some .int := rfl
theorem r_X5_lots : i_X5_lots.2.2.2.1 = some .int := rfl
theorem r_X5_seed : i_X5_seed.2.2.2.1 = some .int := rfl
theorem r_X5_image : i_X5_image.2.2.2.1 = some .int := rfl
theorem r_X5_restore : i_X5_restore.2.2.2.1 = some .int := rfl
theorem r_X5_judged : i_X5_judged.2.2.2.1 = some .int := rfl
theorem r_X5_wed : i_X5_wed.2.2.2.1 = some .int := rfl
theorem r_X5_film : i_X5_film.2.2.2.1 = some .int := rfl
theorem r_X5_sheet : i_X5_sheet.2.2.2.1 = some .int := rfl
theorem r_X5_drop : i_X5_drop.2.2.2.1 = some .int := rfl
theorem r_X5_item : i_X5_item.2.2.2.1 = some .int := rfl
theorem r_X5_copy : i_X5_copy.2.2.2.1 = some .int := rfl
theorem r_X5_has : i_X5_has.2.2.2.1 = some .boolean := rfl
theorem r_X5_isKind : i_X5_isKind.2.2.2.1 = some .boolean := rfl
theorem r_X5_hasOtherSide : i_X5_hasOtherSide.2.2.2.1 = some .boolean := rfl
theorem r_X5_isRow : i_X5_isRow.2.2.2.1 = some .boolean := rfl
theorem r_X6_in : i_X6_in.2.2.2.1 = some .boolean := rfl
theorem r_X6_has : i_X6_has.2.2.2.1 = some .boolean := rfl
theorem r_X6_ones : i_X6_ones.2.2.2.1 = some .int := rfl
theorem r_X6_isOne : i_X6_isOne.2.2.2.1 = some .boolean := rfl
theorem r_X6_isThing : i_X6_isThing.2.2.2.1 = some .boolean := rfl
theorem r_X6_livesOne : i_X6_livesOne.2.2.2.1 = some .boolean := rfl
theorem r_X6_add : i_X6_add.2.2.2.1 = none := rfl
theorem r_X6_isParent : i_X6_isParent.2.2.2.1 = some .boolean := rfl
theorem r_X6_person : i_X6_person.2.2.2.1 = some .int := rfl
theorem r_X6_areAlike : i_X6_areAlike.2.2.2.1 = some .boolean := rfl
theorem r_X6_areSiblings : i_X6_areSiblings.2.2.2.1 = some .boolean := rfl
theorem r_X6_isChild : i_X6_isChild.2.2.2.1 = some .boolean := rfl
theorem r_X6_canMarry : i_X6_canMarry.2.2.2.1 = some .boolean := rfl
theorem r_X6_marryNow : i_X6_marryNow.2.2.2.1 = none := rfl
theorem r_X6_marry : i_X6_marry.2.2.2.1 = some .int := rfl
theorem r_X6_adopt : i_X6_adopt.2.2.2.1 = some .int := rfl
theorem r_X6_god : i_X6_god.2.2.2.1 = some .int := rfl
theorem r_X6_houseOf : i_X6_houseOf.2.2.2.1 = some .int := rfl
theorem r_X6_told : i_X6_told.2.2.2.1 = some .int := rfl
theorem r_X6_isParentsSibling : i_X6_isParentsSibling.2.2.2.1 = some .boolean := rfl
theorem r_X6_areCousins : i_X6_areCousins.2.2.2.1 = some .boolean := rfl
theorem r_X6_isRelation : i_X6_isRelation.2.2.2.1 = some .boolean := rfl
theorem r_X6_kinOf : i_X6_kinOf.2.2.2.1 = some .int := rfl
theorem r_X6_kin : i_X6_kin.2.2.2.1 = some .int := rfl
theorem r_X6_hasOther : i_X6_hasOther.2.2.2.1 = some .boolean := rfl
theorem r_X6_thing : i_X6_thing.2.2.2.1 = some .int := rfl
theorem r_X6_of : i_X6_of.2.2.2.1 = some .int := rfl
theorem r_X6_rule : i_X6_rule.2.2.2.1 = some .int := rfl
theorem r_X6_heirOf : i_X6_heirOf.2.2.2.1 = some .int := rfl
theorem r_X6_heir : i_X6_heir.2.2.2.1 = some .int := rfl
theorem r_X6_type : i_X6_type.2.2.2.1 = some .int := rfl
theorem r_X6_nextByte : i_X6_nextByte.2.2.2.1 = some .int := rfl
theorem r_X6_takes : i_X6_takes.2.2.2.1 = some .boolean := rfl
theorem r_X6_readOne : i_X6_readOne.2.2.2.1 = some .int := rfl
theorem r_X6_readPerson : i_X6_readPerson.2.2.2.1 = some .boolean := rfl
theorem r_X6_readRule : i_X6_readRule.2.2.2.1 = some .boolean := rfl
theorem r_X6_readAll : i_X6_readAll.2.2.2.1 = some .boolean := rfl
theorem r_X6_end : i_X6_end.2.2.2.1 = some .int := rfl
theorem r_X6_family : i_X6_family.2.2.2.1 = some .int := rfl
theorem r_X6_rules : i_X6_rules.2.2.2.1 = some .int := rfl
theorem r_X6_count : i_X6_count.2.2.2.1 = some .int := rfl
theorem r_X6_end1 : i_X6_end1.2.2.2.1 = none := rfl
theorem r_X6_die : i_X6_die.2.2.2.1 = some .int := rfl
theorem r_X6_dies : i_X6_dies.2.2.2.1 = some .int := rfl
theorem r_X6_gathers : i_X6_gathers.2.2.2.1 = some .int := rfl
theorem r_X6_balanceOf : i_X6_balanceOf.2.2.2.1 = some .int := rfl
theorem r_X6_balance : i_X6_balance.2.2.2.1 = some .int := rfl
theorem r_X6_paid : i_X6_paid.2.2.2.1 = some .int := rfl
theorem r_X6_keepAside : i_X6_keepAside.2.2.2.1 = none := rfl
theorem r_X6_bringBack : i_X6_bringBack.2.2.2.1 = none := rfl
theorem r_X6_nextOrder : i_X6_nextOrder.2.2.2.1 = some .boolean := rfl
theorem r_X6_firstOrder : i_X6_firstOrder.2.2.2.1 = some .int := rfl
theorem r_X6_allLive : i_X6_allLive.2.2.2.1 = some .boolean := rfl
theorem r_X6_isFew : i_X6_isFew.2.2.2.1 = some .boolean := rfl
theorem r_X6_orders : i_X6_orders.2.2.2.1 = some .int := rfl
theorem r_X6_carried : i_X6_carried.2.2.2.1 = some .int := rfl
theorem r_X6_store : i_X6_store.2.2.2.1 = none := rfl
theorem r_X6_load : i_X6_load.2.2.2.1 = none := rfl
theorem r_X6_image : i_X6_image.2.2.2.1 = some .int := rfl
theorem r_X6_restore : i_X6_restore.2.2.2.1 = some .int := rfl
theorem r_X6_areAsNow : i_X6_areAsNow.2.2.2.1 = some .boolean := rfl
theorem r_X6_explained : i_X6_explained.2.2.2.1 = some .int := rfl
theorem r_X6_nextDraw : i_X6_nextDraw.2.2.2.1 = some .int := rfl
theorem r_X6_nth : i_X6_nth.2.2.2.1 = some .int := rfl
theorem r_X6_lots : i_X6_lots.2.2.2.1 = some .int := rfl
theorem r_X6_seed : i_X6_seed.2.2.2.1 = some .int := rfl
theorem r_X6_isSheet : i_X6_isSheet.2.2.2.1 = some .boolean := rfl
theorem r_X6_sheet : i_X6_sheet.2.2.2.1 = some .int := rfl
theorem r_X6_drop : i_X6_drop.2.2.2.1 = some .int := rfl
theorem r_X6_lacksRow : i_X6_lacksRow.2.2.2.1 = some .int := rfl
theorem r_X6_item : i_X6_item.2.2.2.1 = some .int := rfl
theorem r_X6_dieAll : i_X6_dieAll.2.2.2.1 = some .int := rfl
theorem r_X6_judged : i_X6_judged.2.2.2.1 = some .int := rfl
theorem r_X6_canPair : i_X6_canPair.2.2.2.1 = some .boolean := rfl
theorem r_X6_brings : i_X6_brings.2.2.2.1 = some .boolean := rfl
theorem r_X6_findWed : i_X6_findWed.2.2.2.1 = some .int := rfl
theorem r_X6_wed : i_X6_wed.2.2.2.1 = some .int := rfl
theorem r_X6_film : i_X6_film.2.2.2.1 = some .int := rfl
theorem r_X6_copy : i_X6_copy.2.2.2.1 = some .int := rfl
theorem r_J6_bitCount : i_J6_bitCount.2.2.2.1 = some .int := rfl
