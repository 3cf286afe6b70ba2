theorem hp_X0_init : yX0_init.cls ≠ "java/lang/invoke/MethodHandle" ∧ yX0_init.cls ≠ "java/lang/invoke/VarHandle" ∧ (parseMethodDescriptor yX0_init.desc).map (fun d => d.parameters.length) = some 0 := by decide +kernel
theorem hp_X0_copyOf : yX0_copyOf.cls ≠ "java/lang/invoke/MethodHandle" ∧ yX0_copyOf.cls ≠ "java/lang/invoke/VarHandle" ∧ (parseMethodDescriptor yX0_copyOf.desc).map (fun d => d.parameters.length) = some 1 := by decide +kernel
theorem hp_X0_addStep : yX0_addStep.cls ≠ "java/lang/invoke/MethodHandle" ∧ yX0_addStep.cls ≠ "java/lang/invoke/VarHandle" ∧ (parseMethodDescriptor yX0_addStep.desc).map (fun d => d.parameters.length) = some 1 := by decide +kernel
theorem hp_X0_value : yX0_value.cls ≠ "java/lang/invoke/MethodHandle" ∧ yX0_value.cls ≠ "java/lang/invoke/VarHandle" ∧ (parseMethodDescriptor yX0_value.desc).map (fun d => d.parameters.length) = some 4 := by decide +kernel
theorem hp_X0_result : yX0_result.cls ≠ "java/lang/invoke/MethodHandle" ∧ yX0_result.cls ≠ "java/lang/invoke/VarHandle" ∧ (parseMethodDescriptor yX0_result.desc).map (fun d => d.parameters.length) = some 3 := by decide +kernel
theorem hp_X1_init : yX1_init.cls ≠ "java/lang/invoke/MethodHandle" ∧ yX1_init.cls ≠ "java/lang/invoke/VarHandle" ∧ (parseMethodDescriptor yX1_init.desc).map (fun d => d.parameters.length) = some 0 := by decide +kernel
theorem hp_X1_begin : yX1_begin.cls ≠ "java/lang/invoke/MethodHandle" ∧ yX1_begin.cls ≠ "java/lang/invoke/VarHandle" ∧ (parseMethodDescriptor yX1_begin.desc).map (fun d => d.parameters.length) = some 2 := by decide +kernel
theorem hp_X1_copyOf : yX1_copyOf.cls ≠ "java/lang/invoke/MethodHandle" ∧ yX1_copyOf.cls ≠ "java/lang/invoke/VarHandle" ∧ (parseMethodDescriptor yX1_copyOf.desc).map (fun d => d.parameters.length) = some 1 := by decide +kernel
theorem hp_X2_init : yX2_init.cls ≠ "java/lang/invoke/MethodHandle" ∧ yX2_init.cls ≠ "java/lang/invoke/VarHandle" ∧ (parseMethodDescriptor yX2_init.desc).map (fun d => d.parameters.length) = some 0 := by decide +kernel
theorem hp_X2_begin : yX2_begin.cls ≠ "java/lang/invoke/MethodHandle" ∧ yX2_begin.cls ≠ "java/lang/invoke/VarHandle" ∧ (parseMethodDescriptor yX2_begin.desc).map (fun d => d.parameters.length) = some 3 := by decide +kernel
theorem hp_X2_copyOf : yX2_copyOf.cls ≠ "java/lang/invoke/MethodHandle" ∧ yX2_copyOf.cls ≠ "java/lang/invoke/VarHandle" ∧ (parseMethodDescriptor yX2_copyOf.desc).map (fun d => d.parameters.length) = some 1 := by decide +kernel
theorem hp_X2_placeOf : yX2_placeOf.cls ≠ "java/lang/invoke/MethodHandle" ∧ yX2_placeOf.cls ≠ "java/lang/invoke/VarHandle" ∧ (parseMethodDescriptor yX2_placeOf.desc).map (fun d => d.parameters.length) = some 1 := by decide +kernel
theorem hp_X2_addTenant : yX2_addTenant.cls ≠ "java/lang/invoke/MethodHandle" ∧ yX2_addTenant.cls ≠ "java/lang/invoke/VarHandle" ∧ (parseMethodDescriptor yX2_addTenant.desc).map (fun d => d.parameters.length) = some 1 := by decide +kernel
theorem hp_X2_removeTenant : yX2_removeTenant.cls ≠ "java/lang/invoke/MethodHandle" ∧ yX2_removeTenant.cls ≠ "java/lang/invoke/VarHandle" ∧ (parseMethodDescriptor yX2_removeTenant.desc).map (fun d => d.parameters.length) = some 1 := by decide +kernel
theorem hp_X2_payAtMost : yX2_payAtMost.cls ≠ "java/lang/invoke/MethodHandle" ∧ yX2_payAtMost.cls ≠ "java/lang/invoke/VarHandle" ∧ (parseMethodDescriptor yX2_payAtMost.desc).map (fun d => d.parameters.length) = some 1 := by decide +kernel
theorem hp_X3_init : yX3_init.cls ≠ "java/lang/invoke/MethodHandle" ∧ yX3_init.cls ≠ "java/lang/invoke/VarHandle" ∧ (parseMethodDescriptor yX3_init.desc).map (fun d => d.parameters.length) = some 0 := by decide +kernel
theorem hp_X3_begin : yX3_begin.cls ≠ "java/lang/invoke/MethodHandle" ∧ yX3_begin.cls ≠ "java/lang/invoke/VarHandle" ∧ (parseMethodDescriptor yX3_begin.desc).map (fun d => d.parameters.length) = some 3 := by decide +kernel
theorem hp_X3_copyOf : yX3_copyOf.cls ≠ "java/lang/invoke/MethodHandle" ∧ yX3_copyOf.cls ≠ "java/lang/invoke/VarHandle" ∧ (parseMethodDescriptor yX3_copyOf.desc).map (fun d => d.parameters.length) = some 1 := by decide +kernel
theorem hp_X4_init : yX4_init.cls ≠ "java/lang/invoke/MethodHandle" ∧ yX4_init.cls ≠ "java/lang/invoke/VarHandle" ∧ (parseMethodDescriptor yX4_init.desc).map (fun d => d.parameters.length) = some 0 := by decide +kernel
theorem hp_X4_reads : yX4_reads.cls ≠ "java/lang/invoke/MethodHandle" ∧ yX4_reads.cls ≠ "java/lang/invoke/VarHandle" ∧ (parseMethodDescriptor yX4_reads.desc).map (fun d => d.parameters.length) = some 2 := by decide +kernel
theorem hp_X4_kind : yX4_kind.cls ≠ "java/lang/invoke/MethodHandle" ∧ yX4_kind.cls ≠ "java/lang/invoke/VarHandle" ∧ (parseMethodDescriptor yX4_kind.desc).map (fun d => d.parameters.length) = some 0 := by decide +kernel
theorem hp_X4_fails : yX4_fails.cls ≠ "java/lang/invoke/MethodHandle" ∧ yX4_fails.cls ≠ "java/lang/invoke/VarHandle" ∧ (parseMethodDescriptor yX4_fails.desc).map (fun d => d.parameters.length) = some 1 := by decide +kernel
theorem hp_X4_takes : yX4_takes.cls ≠ "java/lang/invoke/MethodHandle" ∧ yX4_takes.cls ≠ "java/lang/invoke/VarHandle" ∧ (parseMethodDescriptor yX4_takes.desc).map (fun d => d.parameters.length) = some 1 := by decide +kernel
theorem hp_X4_readsNumber : yX4_readsNumber.cls ≠ "java/lang/invoke/MethodHandle" ∧ yX4_readsNumber.cls ≠ "java/lang/invoke/VarHandle" ∧ (parseMethodDescriptor yX4_readsNumber.desc).map (fun d => d.parameters.length) = some 2 := by decide +kernel
theorem hp_X4_readsStatement : yX4_readsStatement.cls ≠ "java/lang/invoke/MethodHandle" ∧ yX4_readsStatement.cls ≠ "java/lang/invoke/VarHandle" ∧ (parseMethodDescriptor yX4_readsStatement.desc).map (fun d => d.parameters.length) = some 0 := by decide +kernel
theorem hp_X4_beginsOnce : yX4_beginsOnce.cls ≠ "java/lang/invoke/MethodHandle" ∧ yX4_beginsOnce.cls ≠ "java/lang/invoke/VarHandle" ∧ (parseMethodDescriptor yX4_beginsOnce.desc).map (fun d => d.parameters.length) = some 1 := by decide +kernel
theorem hp_X4_readsRule : yX4_readsRule.cls ≠ "java/lang/invoke/MethodHandle" ∧ yX4_readsRule.cls ≠ "java/lang/invoke/VarHandle" ∧ (parseMethodDescriptor yX4_readsRule.desc).map (fun d => d.parameters.length) = some 1 := by decide +kernel
theorem hp_X4_readsHandler : yX4_readsHandler.cls ≠ "java/lang/invoke/MethodHandle" ∧ yX4_readsHandler.cls ≠ "java/lang/invoke/VarHandle" ∧ (parseMethodDescriptor yX4_readsHandler.desc).map (fun d => d.parameters.length) = some 0 := by decide +kernel
theorem hp_X4_readsLine : yX4_readsLine.cls ≠ "java/lang/invoke/MethodHandle" ∧ yX4_readsLine.cls ≠ "java/lang/invoke/VarHandle" ∧ (parseMethodDescriptor yX4_readsLine.desc).map (fun d => d.parameters.length) = some 0 := by decide +kernel
theorem hp_X4_readsTenant : yX4_readsTenant.cls ≠ "java/lang/invoke/MethodHandle" ∧ yX4_readsTenant.cls ≠ "java/lang/invoke/VarHandle" ∧ (parseMethodDescriptor yX4_readsTenant.desc).map (fun d => d.parameters.length) = some 1 := by decide +kernel
theorem hp_X4_readsRaise : yX4_readsRaise.cls ≠ "java/lang/invoke/MethodHandle" ∧ yX4_readsRaise.cls ≠ "java/lang/invoke/VarHandle" ∧ (parseMethodDescriptor yX4_readsRaise.desc).map (fun d => d.parameters.length) = some 0 := by decide +kernel
theorem hp_X4_readsSum : yX4_readsSum.cls ≠ "java/lang/invoke/MethodHandle" ∧ yX4_readsSum.cls ≠ "java/lang/invoke/VarHandle" ∧ (parseMethodDescriptor yX4_readsSum.desc).map (fun d => d.parameters.length) = some 1 := by decide +kernel
theorem hp_X4_readsTerm : yX4_readsTerm.cls ≠ "java/lang/invoke/MethodHandle" ∧ yX4_readsTerm.cls ≠ "java/lang/invoke/VarHandle" ∧ (parseMethodDescriptor yX4_readsTerm.desc).map (fun d => d.parameters.length) = some 1 := by decide +kernel
theorem hp_X4_readsFactor : yX4_readsFactor.cls ≠ "java/lang/invoke/MethodHandle" ∧ yX4_readsFactor.cls ≠ "java/lang/invoke/VarHandle" ∧ (parseMethodDescriptor yX4_readsFactor.desc).map (fun d => d.parameters.length) = some 1 := by decide +kernel
theorem hp_X5_init : yX5_init.cls ≠ "java/lang/invoke/MethodHandle" ∧ yX5_init.cls ≠ "java/lang/invoke/VarHandle" ∧ (parseMethodDescriptor yX5_init.desc).map (fun d => d.parameters.length) = some 0 := by decide +kernel
theorem hp_X5_split : yX5_split.cls ≠ "java/lang/invoke/MethodHandle" ∧ yX5_split.cls ≠ "java/lang/invoke/VarHandle" ∧ (parseMethodDescriptor yX5_split.desc).map (fun d => d.parameters.length) = some 2 := by decide +kernel
theorem hp_X5_addToken : yX5_addToken.cls ≠ "java/lang/invoke/MethodHandle" ∧ yX5_addToken.cls ≠ "java/lang/invoke/VarHandle" ∧ (parseMethodDescriptor yX5_addToken.desc).map (fun d => d.parameters.length) = some 3 := by decide +kernel
theorem hp_X5_endOfRun : yX5_endOfRun.cls ≠ "java/lang/invoke/MethodHandle" ∧ yX5_endOfRun.cls ≠ "java/lang/invoke/VarHandle" ∧ (parseMethodDescriptor yX5_endOfRun.desc).map (fun d => d.parameters.length) = some 5 := by decide +kernel
theorem hp_X5_numberIn : yX5_numberIn.cls ≠ "java/lang/invoke/MethodHandle" ∧ yX5_numberIn.cls ≠ "java/lang/invoke/VarHandle" ∧ (parseMethodDescriptor yX5_numberIn.desc).map (fun d => d.parameters.length) = some 3 := by decide +kernel
theorem hp_X5_signKind : yX5_signKind.cls ≠ "java/lang/invoke/MethodHandle" ∧ yX5_signKind.cls ≠ "java/lang/invoke/VarHandle" ∧ (parseMethodDescriptor yX5_signKind.desc).map (fun d => d.parameters.length) = some 1 := by decide +kernel
theorem hp_X5_wordKind : yX5_wordKind.cls ≠ "java/lang/invoke/MethodHandle" ∧ yX5_wordKind.cls ≠ "java/lang/invoke/VarHandle" ∧ (parseMethodDescriptor yX5_wordKind.desc).map (fun d => d.parameters.length) = some 3 := by decide +kernel
theorem hp_X5_isWord : yX5_isWord.cls ≠ "java/lang/invoke/MethodHandle" ∧ yX5_isWord.cls ≠ "java/lang/invoke/VarHandle" ∧ (parseMethodDescriptor yX5_isWord.desc).map (fun d => d.parameters.length) = some 4 := by decide +kernel
theorem hp_X5_spelling : yX5_spelling.cls ≠ "java/lang/invoke/MethodHandle" ∧ yX5_spelling.cls ≠ "java/lang/invoke/VarHandle" ∧ (parseMethodDescriptor yX5_spelling.desc).map (fun d => d.parameters.length) = some 1 := by decide +kernel
theorem hp_X6_init : yX6_init.cls ≠ "java/lang/invoke/MethodHandle" ∧ yX6_init.cls ≠ "java/lang/invoke/VarHandle" ∧ (parseMethodDescriptor yX6_init.desc).map (fun d => d.parameters.length) = some 0 := by decide +kernel
theorem hp_X6_begin : yX6_begin.cls ≠ "java/lang/invoke/MethodHandle" ∧ yX6_begin.cls ≠ "java/lang/invoke/VarHandle" ∧ (parseMethodDescriptor yX6_begin.desc).map (fun d => d.parameters.length) = some 0 := by decide +kernel
theorem hp_X6_copyOf : yX6_copyOf.cls ≠ "java/lang/invoke/MethodHandle" ∧ yX6_copyOf.cls ≠ "java/lang/invoke/VarHandle" ∧ (parseMethodDescriptor yX6_copyOf.desc).map (fun d => d.parameters.length) = some 1 := by decide +kernel
theorem hp_X6_hasHandler : yX6_hasHandler.cls ≠ "java/lang/invoke/MethodHandle" ∧ yX6_hasHandler.cls ≠ "java/lang/invoke/VarHandle" ∧ (parseMethodDescriptor yX6_hasHandler.desc).map (fun d => d.parameters.length) = some 1 := by decide +kernel
theorem hp_X6_hasLine : yX6_hasLine.cls ≠ "java/lang/invoke/MethodHandle" ∧ yX6_hasLine.cls ≠ "java/lang/invoke/VarHandle" ∧ (parseMethodDescriptor yX6_hasLine.desc).map (fun d => d.parameters.length) = some 1 := by decide +kernel
theorem hp_X6_hasRequest : yX6_hasRequest.cls ≠ "java/lang/invoke/MethodHandle" ∧ yX6_hasRequest.cls ≠ "java/lang/invoke/VarHandle" ∧ (parseMethodDescriptor yX6_hasRequest.desc).map (fun d => d.parameters.length) = some 1 := by decide +kernel
theorem hp_X6_addHandler : yX6_addHandler.cls ≠ "java/lang/invoke/MethodHandle" ∧ yX6_addHandler.cls ≠ "java/lang/invoke/VarHandle" ∧ (parseMethodDescriptor yX6_addHandler.desc).map (fun d => d.parameters.length) = some 2 := by decide +kernel
theorem hp_X6_addLine : yX6_addLine.cls ≠ "java/lang/invoke/MethodHandle" ∧ yX6_addLine.cls ≠ "java/lang/invoke/VarHandle" ∧ (parseMethodDescriptor yX6_addLine.desc).map (fun d => d.parameters.length) = some 3 := by decide +kernel
theorem hp_X6_addRequest : yX6_addRequest.cls ≠ "java/lang/invoke/MethodHandle" ∧ yX6_addRequest.cls ≠ "java/lang/invoke/VarHandle" ∧ (parseMethodDescriptor yX6_addRequest.desc).map (fun d => d.parameters.length) = some 3 := by decide +kernel
theorem hp_X6_requestsIn : yX6_requestsIn.cls ≠ "java/lang/invoke/MethodHandle" ∧ yX6_requestsIn.cls ≠ "java/lang/invoke/VarHandle" ∧ (parseMethodDescriptor yX6_requestsIn.desc).map (fun d => d.parameters.length) = some 1 := by decide +kernel
theorem hp_X6_bankruptHandlers : yX6_bankruptHandlers.cls ≠ "java/lang/invoke/MethodHandle" ∧ yX6_bankruptHandlers.cls ≠ "java/lang/invoke/VarHandle" ∧ (parseMethodDescriptor yX6_bankruptHandlers.desc).map (fun d => d.parameters.length) = some 0 := by decide +kernel
theorem hp_X6_allCoins : yX6_allCoins.cls ≠ "java/lang/invoke/MethodHandle" ∧ yX6_allCoins.cls ≠ "java/lang/invoke/VarHandle" ∧ (parseMethodDescriptor yX6_allCoins.desc).map (fun d => d.parameters.length) = some 0 := by decide +kernel
theorem hp_X6_allFines : yX6_allFines.cls ≠ "java/lang/invoke/MethodHandle" ∧ yX6_allFines.cls ≠ "java/lang/invoke/VarHandle" ∧ (parseMethodDescriptor yX6_allFines.desc).map (fun d => d.parameters.length) = some 0 := by decide +kernel
theorem hp_X6_linesOf : yX6_linesOf.cls ≠ "java/lang/invoke/MethodHandle" ∧ yX6_linesOf.cls ≠ "java/lang/invoke/VarHandle" ∧ (parseMethodDescriptor yX6_linesOf.desc).map (fun d => d.parameters.length) = some 1 := by decide +kernel
theorem hp_X6_openOf : yX6_openOf.cls ≠ "java/lang/invoke/MethodHandle" ∧ yX6_openOf.cls ≠ "java/lang/invoke/VarHandle" ∧ (parseMethodDescriptor yX6_openOf.desc).map (fun d => d.parameters.length) = some 2 := by decide +kernel
theorem hp_X6_raisedInWindow : yX6_raisedInWindow.cls ≠ "java/lang/invoke/MethodHandle" ∧ yX6_raisedInWindow.cls ≠ "java/lang/invoke/VarHandle" ∧ (parseMethodDescriptor yX6_raisedInWindow.desc).map (fun d => d.parameters.length) = some 1 := by decide +kernel
theorem hp_X6_openOrRefuse : yX6_openOrRefuse.cls ≠ "java/lang/invoke/MethodHandle" ∧ yX6_openOrRefuse.cls ≠ "java/lang/invoke/VarHandle" ∧ (parseMethodDescriptor yX6_openOrRefuse.desc).map (fun d => d.parameters.length) = some 1 := by decide +kernel
theorem hp_X6_assign : yX6_assign.cls ≠ "java/lang/invoke/MethodHandle" ∧ yX6_assign.cls ≠ "java/lang/invoke/VarHandle" ∧ (parseMethodDescriptor yX6_assign.desc).map (fun d => d.parameters.length) = some 1 := by decide +kernel
theorem hp_X6_assignThoseOf : yX6_assignThoseOf.cls ≠ "java/lang/invoke/MethodHandle" ∧ yX6_assignThoseOf.cls ≠ "java/lang/invoke/VarHandle" ∧ (parseMethodDescriptor yX6_assignThoseOf.desc).map (fun d => d.parameters.length) = some 2 := by decide +kernel
theorem hp_X6_mayLease : yX6_mayLease.cls ≠ "java/lang/invoke/MethodHandle" ∧ yX6_mayLease.cls ≠ "java/lang/invoke/VarHandle" ∧ (parseMethodDescriptor yX6_mayLease.desc).map (fun d => d.parameters.length) = some 2 := by decide +kernel
theorem hp_X6_letLease : yX6_letLease.cls ≠ "java/lang/invoke/MethodHandle" ∧ yX6_letLease.cls ≠ "java/lang/invoke/VarHandle" ∧ (parseMethodDescriptor yX6_letLease.desc).map (fun d => d.parameters.length) = some 2 := by decide +kernel
theorem hp_X6_letRelease : yX6_letRelease.cls ≠ "java/lang/invoke/MethodHandle" ∧ yX6_letRelease.cls ≠ "java/lang/invoke/VarHandle" ∧ (parseMethodDescriptor yX6_letRelease.desc).map (fun d => d.parameters.length) = some 2 := by decide +kernel
theorem hp_X6_finesWithin : yX6_finesWithin.cls ≠ "java/lang/invoke/MethodHandle" ∧ yX6_finesWithin.cls ≠ "java/lang/invoke/VarHandle" ∧ (parseMethodDescriptor yX6_finesWithin.desc).map (fun d => d.parameters.length) = some 1 := by decide +kernel
theorem hp_X6_passTick : yX6_passTick.cls ≠ "java/lang/invoke/MethodHandle" ∧ yX6_passTick.cls ≠ "java/lang/invoke/VarHandle" ∧ (parseMethodDescriptor yX6_passTick.desc).map (fun d => d.parameters.length) = some 0 := by decide +kernel
theorem hp_X6_doWork : yX6_doWork.cls ≠ "java/lang/invoke/MethodHandle" ∧ yX6_doWork.cls ≠ "java/lang/invoke/VarHandle" ∧ (parseMethodDescriptor yX6_doWork.desc).map (fun d => d.parameters.length) = some 1 := by decide +kernel
theorem hp_X6_answer : yX6_answer.cls ≠ "java/lang/invoke/MethodHandle" ∧ yX6_answer.cls ≠ "java/lang/invoke/VarHandle" ∧ (parseMethodDescriptor yX6_answer.desc).map (fun d => d.parameters.length) = some 1 := by decide +kernel
theorem hp_X6_chargeFine : yX6_chargeFine.cls ≠ "java/lang/invoke/MethodHandle" ∧ yX6_chargeFine.cls ≠ "java/lang/invoke/VarHandle" ∧ (parseMethodDescriptor yX6_chargeFine.desc).map (fun d => d.parameters.length) = some 1 := by decide +kernel
theorem hp_X6_chargeRent : yX6_chargeRent.cls ≠ "java/lang/invoke/MethodHandle" ∧ yX6_chargeRent.cls ≠ "java/lang/invoke/VarHandle" ∧ (parseMethodDescriptor yX6_chargeRent.desc).map (fun d => d.parameters.length) = some 1 := by decide +kernel
theorem hp_X6_takeFrom : yX6_takeFrom.cls ≠ "java/lang/invoke/MethodHandle" ∧ yX6_takeFrom.cls ≠ "java/lang/invoke/VarHandle" ∧ (parseMethodDescriptor yX6_takeFrom.desc).map (fun d => d.parameters.length) = some 2 := by decide +kernel
theorem hp_X6_goBankrupt : yX6_goBankrupt.cls ≠ "java/lang/invoke/MethodHandle" ∧ yX6_goBankrupt.cls ≠ "java/lang/invoke/VarHandle" ∧ (parseMethodDescriptor yX6_goBankrupt.desc).map (fun d => d.parameters.length) = some 1 := by decide +kernel
theorem hp_X7_init : yX7_init.cls ≠ "java/lang/invoke/MethodHandle" ∧ yX7_init.cls ≠ "java/lang/invoke/VarHandle" ∧ (parseMethodDescriptor yX7_init.desc).map (fun d => d.parameters.length) = some 0 := by decide +kernel
theorem hp_X7_append : yX7_append.cls ≠ "java/lang/invoke/MethodHandle" ∧ yX7_append.cls ≠ "java/lang/invoke/VarHandle" ∧ (parseMethodDescriptor yX7_append.desc).map (fun d => d.parameters.length) = some 5 := by decide +kernel
theorem hp_X7_putBytes : yX7_putBytes.cls ≠ "java/lang/invoke/MethodHandle" ∧ yX7_putBytes.cls ≠ "java/lang/invoke/VarHandle" ∧ (parseMethodDescriptor yX7_putBytes.desc).map (fun d => d.parameters.length) = some 1 := by decide +kernel
theorem hp_X7_load : yX7_load.cls ≠ "java/lang/invoke/MethodHandle" ∧ yX7_load.cls ≠ "java/lang/invoke/VarHandle" ∧ (parseMethodDescriptor yX7_load.desc).map (fun d => d.parameters.length) = some 1 := by decide +kernel
theorem hp_X7_errorOffset : yX7_errorOffset.cls ≠ "java/lang/invoke/MethodHandle" ∧ yX7_errorOffset.cls ≠ "java/lang/invoke/VarHandle" ∧ (parseMethodDescriptor yX7_errorOffset.desc).map (fun d => d.parameters.length) = some 0 := by decide +kernel
theorem hp_X7_state : yX7_state.cls ≠ "java/lang/invoke/MethodHandle" ∧ yX7_state.cls ≠ "java/lang/invoke/VarHandle" ∧ (parseMethodDescriptor yX7_state.desc).map (fun d => d.parameters.length) = some 1 := by decide +kernel
theorem hp_X7_handler : yX7_handler.cls ≠ "java/lang/invoke/MethodHandle" ∧ yX7_handler.cls ≠ "java/lang/invoke/VarHandle" ∧ (parseMethodDescriptor yX7_handler.desc).map (fun d => d.parameters.length) = some 2 := by decide +kernel
theorem hp_X7_line : yX7_line.cls ≠ "java/lang/invoke/MethodHandle" ∧ yX7_line.cls ≠ "java/lang/invoke/VarHandle" ∧ (parseMethodDescriptor yX7_line.desc).map (fun d => d.parameters.length) = some 2 := by decide +kernel
theorem hp_X7_tenant : yX7_tenant.cls ≠ "java/lang/invoke/MethodHandle" ∧ yX7_tenant.cls ≠ "java/lang/invoke/VarHandle" ∧ (parseMethodDescriptor yX7_tenant.desc).map (fun d => d.parameters.length) = some 2 := by decide +kernel
theorem hp_X7_request : yX7_request.cls ≠ "java/lang/invoke/MethodHandle" ∧ yX7_request.cls ≠ "java/lang/invoke/VarHandle" ∧ (parseMethodDescriptor yX7_request.desc).map (fun d => d.parameters.length) = some 2 := by decide +kernel
theorem hp_X7_calm : yX7_calm.cls ≠ "java/lang/invoke/MethodHandle" ∧ yX7_calm.cls ≠ "java/lang/invoke/VarHandle" ∧ (parseMethodDescriptor yX7_calm.desc).map (fun d => d.parameters.length) = some 1 := by decide +kernel
theorem hp_X7_endsAt : yX7_endsAt.cls ≠ "java/lang/invoke/MethodHandle" ∧ yX7_endsAt.cls ≠ "java/lang/invoke/VarHandle" ∧ (parseMethodDescriptor yX7_endsAt.desc).map (fun d => d.parameters.length) = some 1 := by decide +kernel
theorem hp_X7_bankruptIn : yX7_bankruptIn.cls ≠ "java/lang/invoke/MethodHandle" ∧ yX7_bankruptIn.cls ≠ "java/lang/invoke/VarHandle" ∧ (parseMethodDescriptor yX7_bankruptIn.desc).map (fun d => d.parameters.length) = some 1 := by decide +kernel
theorem hp_X7_finesIn : yX7_finesIn.cls ≠ "java/lang/invoke/MethodHandle" ∧ yX7_finesIn.cls ≠ "java/lang/invoke/VarHandle" ∧ (parseMethodDescriptor yX7_finesIn.desc).map (fun d => d.parameters.length) = some 1 := by decide +kernel
theorem hp_X7_advise : yX7_advise.cls ≠ "java/lang/invoke/MethodHandle" ∧ yX7_advise.cls ≠ "java/lang/invoke/VarHandle" ∧ (parseMethodDescriptor yX7_advise.desc).map (fun d => d.parameters.length) = some 1 := by decide +kernel
theorem hp_X7_pass : yX7_pass.cls ≠ "java/lang/invoke/MethodHandle" ∧ yX7_pass.cls ≠ "java/lang/invoke/VarHandle" ∧ (parseMethodDescriptor yX7_pass.desc).map (fun d => d.parameters.length) = some 1 := by decide +kernel
theorem hp_X7_raise : yX7_raise.cls ≠ "java/lang/invoke/MethodHandle" ∧ yX7_raise.cls ≠ "java/lang/invoke/VarHandle" ∧ (parseMethodDescriptor yX7_raise.desc).map (fun d => d.parameters.length) = some 2 := by decide +kernel
theorem hp_X7_lease : yX7_lease.cls ≠ "java/lang/invoke/MethodHandle" ∧ yX7_lease.cls ≠ "java/lang/invoke/VarHandle" ∧ (parseMethodDescriptor yX7_lease.desc).map (fun d => d.parameters.length) = some 2 := by decide +kernel
theorem hp_X7_release : yX7_release.cls ≠ "java/lang/invoke/MethodHandle" ∧ yX7_release.cls ≠ "java/lang/invoke/VarHandle" ∧ (parseMethodDescriptor yX7_release.desc).map (fun d => d.parameters.length) = some 2 := by decide +kernel
theorem hp_X7_fund : yX7_fund.cls ≠ "java/lang/invoke/MethodHandle" ∧ yX7_fund.cls ≠ "java/lang/invoke/VarHandle" ∧ (parseMethodDescriptor yX7_fund.desc).map (fun d => d.parameters.length) = some 2 := by decide +kernel
theorem hp_X7_undo : yX7_undo.cls ≠ "java/lang/invoke/MethodHandle" ∧ yX7_undo.cls ≠ "java/lang/invoke/VarHandle" ∧ (parseMethodDescriptor yX7_undo.desc).map (fun d => d.parameters.length) = some 0 := by decide +kernel
theorem hp_X7_keepPresent : yX7_keepPresent.cls ≠ "java/lang/invoke/MethodHandle" ∧ yX7_keepPresent.cls ≠ "java/lang/invoke/VarHandle" ∧ (parseMethodDescriptor yX7_keepPresent.desc).map (fun d => d.parameters.length) = some 0 := by decide +kernel
theorem hp_X7_checksum : yX7_checksum.cls ≠ "java/lang/invoke/MethodHandle" ∧ yX7_checksum.cls ≠ "java/lang/invoke/VarHandle" ∧ (parseMethodDescriptor yX7_checksum.desc).map (fun d => d.parameters.length) = some 0 := by decide +kernel
theorem vc_X0 : vwCl[0]? = some (RX0, TX0, 3) := rfl
theorem fb_X0_0 : 0 < 3 := by decide
theorem xr_X0_0 : xrf 0 0 = true := rfl
theorem ff_X0_0 : (TX0 0).2.2.2 = true := rfl
theorem fb_X0_1 : 1 < 3 := by decide
theorem xr_X0_1 : xrf 0 1 = false := rfl
theorem ff_X0_1 : (TX0 1).2.2.2 = false := rfl
theorem nf_X0_1 (v : Int32) : narrow (tyX0 1) (.int v) = .int v := rfl
theorem ft_X0_1 (v : Int32) : fits (tyX0 1) (.int v) = true := rfl
theorem fb_X0_2 : 2 < 3 := by decide
theorem xr_X0_2 : xrf 0 2 = true := rfl
theorem ff_X0_2 : (TX0 2).2.2.2 = true := rfl
theorem vc_X1 : vwCl[1]? = some (RX1, TX1, 7) := rfl
theorem fb_X1_0 : 0 < 7 := by decide
theorem xr_X1_0 : xrf 1 0 = false := rfl
theorem ff_X1_0 : (TX1 0).2.2.2 = false := rfl
theorem nf_X1_0 (v : Int32) : narrow (tyX1 0) (.int v) = .int v := rfl
theorem ft_X1_0 (v : Int32) : fits (tyX1 0) (.int v) = true := rfl
theorem fb_X1_1 : 1 < 7 := by decide
theorem xr_X1_1 : xrf 1 1 = false := rfl
theorem ff_X1_1 : (TX1 1).2.2.2 = false := rfl
theorem nf_X1_1 (v : Int32) : narrow (tyX1 1) (.int v) = .int v := rfl
theorem ft_X1_1 (v : Int32) : fits (tyX1 1) (.int v) = true := rfl
theorem fb_X1_2 : 2 < 7 := by decide
theorem xr_X1_2 : xrf 1 2 = false := rfl
theorem ff_X1_2 : (TX1 2).2.2.2 = false := rfl
theorem fb_X1_3 : 3 < 7 := by decide
theorem xr_X1_3 : xrf 1 3 = false := rfl
theorem ff_X1_3 : (TX1 3).2.2.2 = false := rfl
theorem nf_X1_3 (v : Int32) : narrow (tyX1 3) (.int v) = .int v := rfl
theorem ft_X1_3 (v : Int32) : fits (tyX1 3) (.int v) = true := rfl
theorem fb_X1_4 : 4 < 7 := by decide
theorem xr_X1_4 : xrf 1 4 = false := rfl
theorem ff_X1_4 : (TX1 4).2.2.2 = false := rfl
theorem nf_X1_4 (v : Int32) : narrow (tyX1 4) (.int v) = .int v := rfl
theorem ft_X1_4 (v : Int32) : fits (tyX1 4) (.int v) = true := rfl
theorem fb_X1_5 : 5 < 7 := by decide
theorem xr_X1_5 : xrf 1 5 = false := rfl
theorem ff_X1_5 : (TX1 5).2.2.2 = false := rfl
theorem nf_X1_5 (v : Int32) : narrow (tyX1 5) (.int v) = .int v := rfl
theorem ft_X1_5 (v : Int32) : fits (tyX1 5) (.int v) = true := rfl
theorem fb_X1_6 : 6 < 7 := by decide
theorem xr_X1_6 : xrf 1 6 = false := rfl
theorem ff_X1_6 : (TX1 6).2.2.2 = false := rfl
theorem nf_X1_6 (v : Int32) : narrow (tyX1 6) (.int v) = .int v := rfl
theorem ft_X1_6 (v : Int32) : fits (tyX1 6) (.int v) = true := rfl
theorem vc_X2 : vwCl[2]? = some (RX2, TX2, 5) := rfl
theorem fb_X2_0 : 0 < 5 := by decide
theorem xr_X2_0 : xrf 2 0 = false := rfl
theorem ff_X2_0 : (TX2 0).2.2.2 = false := rfl
theorem nf_X2_0 (v : Int32) : narrow (tyX2 0) (.int v) = .int v := rfl
theorem ft_X2_0 (v : Int32) : fits (tyX2 0) (.int v) = true := rfl
theorem fb_X2_1 : 1 < 5 := by decide
theorem xr_X2_1 : xrf 2 1 = false := rfl
theorem ff_X2_1 : (TX2 1).2.2.2 = false := rfl
theorem nf_X2_1 (v : Int32) : narrow (tyX2 1) (.int v) = .int v := rfl
theorem ft_X2_1 (v : Int32) : fits (tyX2 1) (.int v) = true := rfl
theorem fb_X2_2 : 2 < 5 := by decide
theorem xr_X2_2 : xrf 2 2 = false := rfl
theorem ff_X2_2 : (TX2 2).2.2.2 = false := rfl
theorem nf_X2_2 (v : Int32) : narrow (tyX2 2) (.int v) = .int v := rfl
theorem ft_X2_2 (v : Int32) : fits (tyX2 2) (.int v) = true := rfl
theorem fb_X2_3 : 3 < 5 := by decide
theorem xr_X2_3 : xrf 2 3 = true := rfl
theorem ff_X2_3 : (TX2 3).2.2.2 = true := rfl
theorem fb_X2_4 : 4 < 5 := by decide
theorem xr_X2_4 : xrf 2 4 = false := rfl
theorem ff_X2_4 : (TX2 4).2.2.2 = false := rfl
theorem nf_X2_4 (v : Int32) : narrow (tyX2 4) (.int v) = .int v := rfl
theorem ft_X2_4 (v : Int32) : fits (tyX2 4) (.int v) = true := rfl
theorem vc_X3 : vwCl[3]? = some (RX3, TX3, 8) := rfl
theorem fb_X3_0 : 0 < 8 := by decide
theorem xr_X3_0 : xrf 3 0 = false := rfl
theorem ff_X3_0 : (TX3 0).2.2.2 = false := rfl
theorem nf_X3_0 (v : Int32) : narrow (tyX3 0) (.int v) = .int v := rfl
theorem ft_X3_0 (v : Int32) : fits (tyX3 0) (.int v) = true := rfl
theorem fb_X3_1 : 1 < 8 := by decide
theorem xr_X3_1 : xrf 3 1 = false := rfl
theorem ff_X3_1 : (TX3 1).2.2.2 = false := rfl
theorem nf_X3_1 (v : Int32) : narrow (tyX3 1) (.int v) = .int v := rfl
theorem ft_X3_1 (v : Int32) : fits (tyX3 1) (.int v) = true := rfl
theorem fb_X3_2 : 2 < 8 := by decide
theorem xr_X3_2 : xrf 3 2 = false := rfl
theorem ff_X3_2 : (TX3 2).2.2.2 = false := rfl
theorem nf_X3_2 (v : Int32) : narrow (tyX3 2) (.int v) = .int v := rfl
theorem ft_X3_2 (v : Int32) : fits (tyX3 2) (.int v) = true := rfl
theorem fb_X3_3 : 3 < 8 := by decide
theorem xr_X3_3 : xrf 3 3 = false := rfl
theorem ff_X3_3 : (TX3 3).2.2.2 = false := rfl
theorem nf_X3_3 (v : Int32) : narrow (tyX3 3) (.int v) = .int v := rfl
theorem ft_X3_3 (v : Int32) : fits (tyX3 3) (.int v) = true := rfl
theorem fb_X3_4 : 4 < 8 := by decide
theorem xr_X3_4 : xrf 3 4 = false := rfl
theorem ff_X3_4 : (TX3 4).2.2.2 = false := rfl
theorem nf_X3_4 (v : Int32) : narrow (tyX3 4) (.int v) = .int v := rfl
theorem ft_X3_4 (v : Int32) : fits (tyX3 4) (.int v) = true := rfl
theorem fb_X3_5 : 5 < 8 := by decide
theorem xr_X3_5 : xrf 3 5 = false := rfl
theorem ff_X3_5 : (TX3 5).2.2.2 = false := rfl
theorem nf_X3_5 (v : Int32) : narrow (tyX3 5) (.int v) = .int v := rfl
theorem ft_X3_5 (v : Int32) : fits (tyX3 5) (.int v) = true := rfl
theorem fb_X3_6 : 6 < 8 := by decide
theorem xr_X3_6 : xrf 3 6 = false := rfl
theorem ff_X3_6 : (TX3 6).2.2.2 = false := rfl
theorem nf_X3_6 (v : Int32) : narrow (tyX3 6) (.int v) = .int v := rfl
theorem ft_X3_6 (v : Int32) : fits (tyX3 6) (.int v) = true := rfl
theorem fb_X3_7 : 7 < 8 := by decide
theorem xr_X3_7 : xrf 3 7 = false := rfl
theorem ff_X3_7 : (TX3 7).2.2.2 = false := rfl
theorem nf_X3_7 (v : Int32) : narrow (tyX3 7) (.int v) = .int v := rfl
theorem ft_X3_7 (v : Int32) : fits (tyX3 7) (.int v) = true := rfl
theorem vc_X4 : vwCl[4]? = some (RX4, TX4, 7) := rfl
theorem fb_X4_0 : 0 < 7 := by decide
theorem xr_X4_0 : xrf 4 0 = false := rfl
theorem ff_X4_0 : (TX4 0).2.2.2 = false := rfl
theorem nf_X4_0 (v : Int32) : narrow (tyX4 0) (.int v) = .int v := rfl
theorem ft_X4_0 (v : Int32) : fits (tyX4 0) (.int v) = true := rfl
theorem fb_X4_1 : 1 < 7 := by decide
theorem xr_X4_1 : xrf 4 1 = false := rfl
theorem ff_X4_1 : (TX4 1).2.2.2 = false := rfl
theorem nf_X4_1 (v : Int32) : narrow (tyX4 1) (.int v) = .int v := rfl
theorem ft_X4_1 (v : Int32) : fits (tyX4 1) (.int v) = true := rfl
theorem fb_X4_2 : 2 < 7 := by decide
theorem xr_X4_2 : xrf 4 2 = true := rfl
theorem ff_X4_2 : (TX4 2).2.2.2 = false := rfl
theorem fb_X4_3 : 3 < 7 := by decide
theorem xr_X4_3 : xrf 4 3 = true := rfl
theorem ff_X4_3 : (TX4 3).2.2.2 = false := rfl
theorem fb_X4_4 : 4 < 7 := by decide
theorem xr_X4_4 : xrf 4 4 = false := rfl
theorem ff_X4_4 : (TX4 4).2.2.2 = false := rfl
theorem nf_X4_4 (v : Int32) : narrow (tyX4 4) (.int v) = .int v := rfl
theorem ft_X4_4 (v : Int32) : fits (tyX4 4) (.int v) = true := rfl
theorem fb_X4_5 : 5 < 7 := by decide
theorem xr_X4_5 : xrf 4 5 = false := rfl
theorem ff_X4_5 : (TX4 5).2.2.2 = false := rfl
theorem nf_X4_5 (v : Int32) : narrow (tyX4 5) (.int v) = .int v := rfl
theorem ft_X4_5 (v : Int32) : fits (tyX4 5) (.int v) = true := rfl
theorem fb_X4_6 : 6 < 7 := by decide
theorem xr_X4_6 : xrf 4 6 = false := rfl
theorem ff_X4_6 : (TX4 6).2.2.2 = false := rfl
theorem nf_X4_6 (v : Int32) : narrow (tyX4 6) (.int v) = .int v := rfl
theorem ft_X4_6 (v : Int32) : fits (tyX4 6) (.int v) = true := rfl
theorem vc_X5 : vwCl[5]? = some (RX5, TX5, 4) := rfl
theorem fb_X5_0 : 0 < 4 := by decide
theorem xr_X5_0 : xrf 5 0 = true := rfl
theorem ff_X5_0 : (TX5 0).2.2.2 = true := rfl
theorem fb_X5_1 : 1 < 4 := by decide
theorem xr_X5_1 : xrf 5 1 = true := rfl
theorem ff_X5_1 : (TX5 1).2.2.2 = true := rfl
theorem fb_X5_2 : 2 < 4 := by decide
theorem xr_X5_2 : xrf 5 2 = true := rfl
theorem ff_X5_2 : (TX5 2).2.2.2 = true := rfl
theorem fb_X5_3 : 3 < 4 := by decide
theorem xr_X5_3 : xrf 5 3 = false := rfl
theorem ff_X5_3 : (TX5 3).2.2.2 = false := rfl
theorem nf_X5_3 (v : Int32) : narrow (tyX5 3) (.int v) = .int v := rfl
theorem ft_X5_3 (v : Int32) : fits (tyX5 3) (.int v) = true := rfl
theorem vc_X6 : vwCl[6]? = some (RX6, TX6, 15) := rfl
theorem fb_X6_0 : 0 < 15 := by decide
theorem xr_X6_0 : xrf 6 0 = true := rfl
theorem ff_X6_0 : (TX6 0).2.2.2 = true := rfl
theorem fb_X6_1 : 1 < 15 := by decide
theorem xr_X6_1 : xrf 6 1 = false := rfl
theorem ff_X6_1 : (TX6 1).2.2.2 = false := rfl
theorem nf_X6_1 (v : Int32) : narrow (tyX6 1) (.int v) = .int v := rfl
theorem ft_X6_1 (v : Int32) : fits (tyX6 1) (.int v) = true := rfl
theorem fb_X6_2 : 2 < 15 := by decide
theorem xr_X6_2 : xrf 6 2 = true := rfl
theorem ff_X6_2 : (TX6 2).2.2.2 = true := rfl
theorem fb_X6_3 : 3 < 15 := by decide
theorem xr_X6_3 : xrf 6 3 = false := rfl
theorem ff_X6_3 : (TX6 3).2.2.2 = false := rfl
theorem nf_X6_3 (v : Int32) : narrow (tyX6 3) (.int v) = .int v := rfl
theorem ft_X6_3 (v : Int32) : fits (tyX6 3) (.int v) = true := rfl
theorem fb_X6_4 : 4 < 15 := by decide
theorem xr_X6_4 : xrf 6 4 = true := rfl
theorem ff_X6_4 : (TX6 4).2.2.2 = true := rfl
theorem fb_X6_5 : 5 < 15 := by decide
theorem xr_X6_5 : xrf 6 5 = false := rfl
theorem ff_X6_5 : (TX6 5).2.2.2 = false := rfl
theorem nf_X6_5 (v : Int32) : narrow (tyX6 5) (.int v) = .int v := rfl
theorem ft_X6_5 (v : Int32) : fits (tyX6 5) (.int v) = true := rfl
theorem fb_X6_6 : 6 < 15 := by decide
theorem xr_X6_6 : xrf 6 6 = false := rfl
theorem ff_X6_6 : (TX6 6).2.2.2 = false := rfl
theorem nf_X6_6 (v : Int32) : narrow (tyX6 6) (.int v) = .int v := rfl
theorem ft_X6_6 (v : Int32) : fits (tyX6 6) (.int v) = true := rfl
theorem fb_X6_7 : 7 < 15 := by decide
theorem xr_X6_7 : xrf 6 7 = false := rfl
theorem ff_X6_7 : (TX6 7).2.2.2 = false := rfl
theorem nf_X6_7 (v : Int32) : narrow (tyX6 7) (.int v) = .int v := rfl
theorem ft_X6_7 (v : Int32) : fits (tyX6 7) (.int v) = true := rfl
theorem fb_X6_8 : 8 < 15 := by decide
theorem xr_X6_8 : xrf 6 8 = false := rfl
theorem ff_X6_8 : (TX6 8).2.2.2 = false := rfl
theorem nf_X6_8 (v : Int32) : narrow (tyX6 8) (.int v) = .int v := rfl
theorem ft_X6_8 (v : Int32) : fits (tyX6 8) (.int v) = true := rfl
theorem fb_X6_9 : 9 < 15 := by decide
theorem xr_X6_9 : xrf 6 9 = false := rfl
theorem ff_X6_9 : (TX6 9).2.2.2 = false := rfl
theorem nf_X6_9 (v : Int32) : narrow (tyX6 9) (.int v) = .int v := rfl
theorem ft_X6_9 (v : Int32) : fits (tyX6 9) (.int v) = true := rfl
theorem fb_X6_10 : 10 < 15 := by decide
theorem xr_X6_10 : xrf 6 10 = false := rfl
theorem ff_X6_10 : (TX6 10).2.2.2 = false := rfl
theorem nf_X6_10 (v : Int32) : narrow (tyX6 10) (.int v) = .int v := rfl
theorem ft_X6_10 (v : Int32) : fits (tyX6 10) (.int v) = true := rfl
theorem fb_X6_11 : 11 < 15 := by decide
theorem xr_X6_11 : xrf 6 11 = false := rfl
theorem ff_X6_11 : (TX6 11).2.2.2 = false := rfl
theorem nf_X6_11 (v : Int32) : narrow (tyX6 11) (.int v) = .int v := rfl
theorem ft_X6_11 (v : Int32) : fits (tyX6 11) (.int v) = true := rfl
theorem fb_X6_12 : 12 < 15 := by decide
theorem xr_X6_12 : xrf 6 12 = false := rfl
theorem ff_X6_12 : (TX6 12).2.2.2 = false := rfl
theorem nf_X6_12 (v : Int32) : narrow (tyX6 12) (.int v) = .int v := rfl
theorem ft_X6_12 (v : Int32) : fits (tyX6 12) (.int v) = true := rfl
theorem fb_X6_13 : 13 < 15 := by decide
theorem xr_X6_13 : xrf 6 13 = true := rfl
theorem ff_X6_13 : (TX6 13).2.2.2 = true := rfl
theorem fb_X6_14 : 14 < 15 := by decide
theorem xr_X6_14 : xrf 6 14 = true := rfl
theorem ff_X6_14 : (TX6 14).2.2.2 = true := rfl
theorem vc_X7 : vwCl[7]? = some (RX7, TX7, 10) := rfl
theorem fb_X7_0 : 0 < 10 := by decide
theorem xr_X7_0 : xrf 7 0 = true := rfl
theorem ff_X7_0 : (TX7 0).2.2.2 = true := rfl
theorem fb_X7_1 : 1 < 10 := by decide
theorem xr_X7_1 : xrf 7 1 = false := rfl
theorem ff_X7_1 : (TX7 1).2.2.2 = false := rfl
theorem nf_X7_1 (v : Int32) : narrow (tyX7 1) (.int v) = .int v := rfl
theorem ft_X7_1 (v : Int32) : fits (tyX7 1) (.int v) = true := rfl
theorem fb_X7_2 : 2 < 10 := by decide
theorem xr_X7_2 : xrf 7 2 = false := rfl
theorem ff_X7_2 : (TX7 2).2.2.2 = false := rfl
theorem nf_X7_2 (v : Int32) : narrow (tyX7 2) (.int v) = .int v := rfl
theorem ft_X7_2 (v : Int32) : fits (tyX7 2) (.int v) = true := rfl
theorem fb_X7_3 : 3 < 10 := by decide
theorem xr_X7_3 : xrf 7 3 = true := rfl
theorem ff_X7_3 : (TX7 3).2.2.2 = true := rfl
theorem fb_X7_4 : 4 < 10 := by decide
theorem xr_X7_4 : xrf 7 4 = true := rfl
theorem ff_X7_4 : (TX7 4).2.2.2 = true := rfl
theorem fb_X7_5 : 5 < 10 := by decide
theorem xr_X7_5 : xrf 7 5 = true := rfl
theorem ff_X7_5 : (TX7 5).2.2.2 = true := rfl
theorem fb_X7_6 : 6 < 10 := by decide
theorem xr_X7_6 : xrf 7 6 = true := rfl
theorem ff_X7_6 : (TX7 6).2.2.2 = true := rfl
theorem fb_X7_7 : 7 < 10 := by decide
theorem xr_X7_7 : xrf 7 7 = true := rfl
theorem ff_X7_7 : (TX7 7).2.2.2 = true := rfl
theorem fb_X7_8 : 8 < 10 := by decide
theorem xr_X7_8 : xrf 7 8 = false := rfl
theorem ff_X7_8 : (TX7 8).2.2.2 = false := rfl
theorem nf_X7_8 (v : Int32) : narrow (tyX7 8) (.int v) = .int v := rfl
theorem ft_X7_8 (v : Int32) : fits (tyX7 8) (.int v) = true := rfl
theorem fb_X7_9 : 9 < 10 := by decide
theorem xr_X7_9 : xrf 7 9 = false := rfl
theorem ff_X7_9 : (TX7 9).2.2.2 = false := rfl
theorem nf_X7_9 (v : Int32) : narrow (tyX7 9) (.int v) = .int v := rfl
theorem ft_X7_9 (v : Int32) : fits (tyX7 9) (.int v) = true := rfl
theorem vc_X8 : vwCl[8]? = some (RX8, TX8, 8) := rfl
theorem fb_X8_0 : 0 < 8 := by decide
theorem xr_X8_0 : xrf 8 0 = false := rfl
theorem ff_X8_0 : (TX8 0).2.2.2 = false := rfl
theorem nf_X8_0 (v : Int32) : narrow (tyX8 0) (.int v) = .int v := rfl
theorem ft_X8_0 (v : Int32) : fits (tyX8 0) (.int v) = true := rfl
theorem fb_X8_1 : 1 < 8 := by decide
theorem xr_X8_1 : xrf 8 1 = false := rfl
theorem ff_X8_1 : (TX8 1).2.2.2 = false := rfl
theorem nf_X8_1 (v : Int32) : narrow (tyX8 1) (.int v) = .int v := rfl
theorem ft_X8_1 (v : Int32) : fits (tyX8 1) (.int v) = true := rfl
theorem fb_X8_2 : 2 < 8 := by decide
theorem xr_X8_2 : xrf 8 2 = true := rfl
theorem ff_X8_2 : (TX8 2).2.2.2 = false := rfl
theorem fb_X8_3 : 3 < 8 := by decide
theorem xr_X8_3 : xrf 8 3 = true := rfl
theorem ff_X8_3 : (TX8 3).2.2.2 = false := rfl
theorem fb_X8_4 : 4 < 8 := by decide
theorem xr_X8_4 : xrf 8 4 = true := rfl
theorem ff_X8_4 : (TX8 4).2.2.2 = false := rfl
theorem fb_X8_5 : 5 < 8 := by decide
theorem xr_X8_5 : xrf 8 5 = true := rfl
theorem ff_X8_5 : (TX8 5).2.2.2 = false := rfl
theorem fb_X8_6 : 6 < 8 := by decide
theorem xr_X8_6 : xrf 8 6 = true := rfl
theorem ff_X8_6 : (TX8 6).2.2.2 = false := rfl
theorem fb_X8_7 : 7 < 8 := by decide
theorem xr_X8_7 : xrf 8 7 = true := rfl
theorem ff_X8_7 : (TX8 7).2.2.2 = false := rfl
theorem vc_X9 : vwCl[9]? = some (RX9, TX9, 4) := rfl
theorem fb_X9_0 : 0 < 4 := by decide
theorem xr_X9_0 : xrf 9 0 = false := rfl
theorem ff_X9_0 : (TX9 0).2.2.2 = false := rfl
theorem nf_X9_0 (v : Int32) : narrow (tyX9 0) (.int v) = .int v := rfl
theorem ft_X9_0 (v : Int32) : fits (tyX9 0) (.int v) = true := rfl
theorem fb_X9_1 : 1 < 4 := by decide
theorem xr_X9_1 : xrf 9 1 = false := rfl
theorem ff_X9_1 : (TX9 1).2.2.2 = false := rfl
theorem nf_X9_1 (v : Int32) : narrow (tyX9 1) (.int v) = .int v := rfl
theorem ft_X9_1 (v : Int32) : fits (tyX9 1) (.int v) = true := rfl
theorem fb_X9_2 : 2 < 4 := by decide
theorem xr_X9_2 : xrf 9 2 = true := rfl
theorem ff_X9_2 : (TX9 2).2.2.2 = false := rfl
theorem fb_X9_3 : 3 < 4 := by decide
theorem xr_X9_3 : xrf 9 3 = true := rfl
theorem ff_X9_3 : (TX9 3).2.2.2 = false := rfl
theorem vc_X10 : vwCl[10]? = some (RX10, TX10, 1) := rfl
theorem fb_X10_0 : 0 < 1 := by decide
theorem xr_X10_0 : xrf 10 0 = false := rfl
theorem ff_X10_0 : (TX10 0).2.2.2 = false := rfl
theorem nf_X10_0 (v : Int32) : narrow (tyX10 0) (.int v) = .int v := rfl
theorem ft_X10_0 (v : Int32) : fits (tyX10 0) (.int v) = true := rfl
theorem vc_J0 : vwCl[11]? = some (RJ0, TJ0, 4) := rfl
theorem fb_J0_0 : 0 < 4 := by decide
theorem xr_J0_0 : xrf 11 0 = true := rfl
theorem ff_J0_0 : (TJ0 0).2.2.2 = true := rfl
theorem fb_J0_1 : 1 < 4 := by decide
theorem xr_J0_1 : xrf 11 1 = false := rfl
theorem ff_J0_1 : (TJ0 1).2.2.2 = true := rfl
theorem fb_J0_2 : 2 < 4 := by decide
theorem xr_J0_2 : xrf 11 2 = false := rfl
theorem ff_J0_2 : (TJ0 2).2.2.2 = false := rfl
theorem nf_J0_2 (v : Int32) : narrow (tyJ0 2) (.int v) = .int v := rfl
theorem ft_J0_2 (v : Int32) : fits (tyJ0 2) (.int v) = true := rfl
theorem fb_J0_3 : 3 < 4 := by decide
theorem xr_J0_3 : xrf 11 3 = false := rfl
theorem ff_J0_3 : (TJ0 3).2.2.2 = false := rfl
theorem vc_J4 : vwCl[12]? = some (RJ4, TJ4, 4) := rfl
theorem fb_J4_0 : 0 < 4 := by decide
theorem xr_J4_0 : xrf 12 0 = true := rfl
theorem ff_J4_0 : (TJ4 0).2.2.2 = false := rfl
theorem fb_J4_1 : 1 < 4 := by decide
theorem xr_J4_1 : xrf 12 1 = false := rfl
theorem ff_J4_1 : (TJ4 1).2.2.2 = false := rfl
theorem fb_J4_2 : 2 < 4 := by decide
theorem xr_J4_2 : xrf 12 2 = false := rfl
theorem ff_J4_2 : (TJ4 2).2.2.2 = false := rfl
theorem fb_J4_3 : 3 < 4 := by decide
theorem xr_J4_3 : xrf 12 3 = false := rfl
theorem ff_J4_3 : (TJ4 3).2.2.2 = false := rfl
theorem nf_J4_3 (v : Int32) : narrow (tyJ4 3) (.int v) = .int v := rfl
theorem ft_J4_3 (v : Int32) : fits (tyJ4 3) (.int v) = true := rfl
theorem xl_0 : (0 : Int32).toNatClampNeg = 0 := by decide +kernel
theorem xbl_0_16 : xb 0 16 = true := by decide +kernel
