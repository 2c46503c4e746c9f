section G
variable {p : Program} {l : Launch} {e : Env} {s : State} {m : MethodId} {args : Array Value} {below : List Frame} {meth : Method} {c : Code}
variable {D : va_G} {cI cQ cC cZ : ClassId} {ad aS : Nat → Nat} {r0 : Int32} {σ0 : x_S}
theorem hdX8_in : yX8_in.cls ≠ "java/lang/invoke/MethodHandle" ∧ yX8_in.cls ≠ "java/lang/invoke/VarHandle" ∧ (parseMethodDescriptor yX8_in.desc).map (fun d => d.parameters.length) = some 3 := by decide +kernel
theorem hdX8_has : yX8_has.cls ≠ "java/lang/invoke/MethodHandle" ∧ yX8_has.cls ≠ "java/lang/invoke/VarHandle" ∧ (parseMethodDescriptor yX8_has.desc).map (fun d => d.parameters.length) = some 2 := by decide +kernel
theorem hdX8_bits : yX8_bits.cls ≠ "java/lang/invoke/MethodHandle" ∧ yX8_bits.cls ≠ "java/lang/invoke/VarHandle" ∧ (parseMethodDescriptor yX8_bits.desc).map (fun d => d.parameters.length) = some 1 := by decide +kernel
theorem hdX8_find : yX8_find.cls = RX8 ∧ yX8_find.cls ≠ "java/lang/invoke/MethodHandle" ∧ yX8_find.cls ≠ "java/lang/invoke/VarHandle" ∧ (parseMethodDescriptor yX8_find.desc).map (fun d => d.parameters.length) = some 1 := by decide +kernel
theorem hdX8_well : yX8_well.cls = RX8 ∧ yX8_well.cls ≠ "java/lang/invoke/MethodHandle" ∧ yX8_well.cls ≠ "java/lang/invoke/VarHandle" ∧ (parseMethodDescriptor yX8_well.desc).map (fun d => d.parameters.length) = some 1 := by decide +kernel
theorem hdX8_isRow : yX8_isRow.cls ≠ "java/lang/invoke/MethodHandle" ∧ yX8_isRow.cls ≠ "java/lang/invoke/VarHandle" ∧ (parseMethodDescriptor yX8_isRow.desc).map (fun d => d.parameters.length) = some 1 := by decide +kernel
theorem hdX8_row : yX8_row.cls = RX8 ∧ yX8_row.cls ≠ "java/lang/invoke/MethodHandle" ∧ yX8_row.cls ≠ "java/lang/invoke/VarHandle" ∧ (parseMethodDescriptor yX8_row.desc).map (fun d => d.parameters.length) = some 3 := by decide +kernel
theorem hdX8_narrow : yX8_narrow.cls ≠ "java/lang/invoke/MethodHandle" ∧ yX8_narrow.cls ≠ "java/lang/invoke/VarHandle" ∧ (parseMethodDescriptor yX8_narrow.desc).map (fun d => d.parameters.length) = some 2 := by decide +kernel
theorem hdX8_set : yX8_set.cls = RX8 ∧ yX8_set.cls ≠ "java/lang/invoke/MethodHandle" ∧ yX8_set.cls ≠ "java/lang/invoke/VarHandle" ∧ (parseMethodDescriptor yX8_set.desc).map (fun d => d.parameters.length) = some 3 := by decide +kernel
theorem hdX8_isSpan : yX8_isSpan.cls = RX8 ∧ yX8_isSpan.cls ≠ "java/lang/invoke/MethodHandle" ∧ yX8_isSpan.cls ≠ "java/lang/invoke/VarHandle" ∧ (parseMethodDescriptor yX8_isSpan.desc).map (fun d => d.parameters.length) = some 3 := by decide +kernel
theorem hdX8_copy : yX8_copy.cls = RX8 ∧ yX8_copy.cls ≠ "java/lang/invoke/MethodHandle" ∧ yX8_copy.cls ≠ "java/lang/invoke/VarHandle" ∧ (parseMethodDescriptor yX8_copy.desc).map (fun d => d.parameters.length) = some 5 := by decide +kernel
theorem hdX8_drop : yX8_drop.cls = RX8 ∧ yX8_drop.cls ≠ "java/lang/invoke/MethodHandle" ∧ yX8_drop.cls ≠ "java/lang/invoke/VarHandle" ∧ (parseMethodDescriptor yX8_drop.desc).map (fun d => d.parameters.length) = some 1 := by decide +kernel
theorem hdX8_feed : yX8_feed.cls = RX8 ∧ yX8_feed.cls ≠ "java/lang/invoke/MethodHandle" ∧ yX8_feed.cls ≠ "java/lang/invoke/VarHandle" ∧ (parseMethodDescriptor yX8_feed.desc).map (fun d => d.parameters.length) = some 1 := by decide +kernel
theorem hdX8_isLetter : yX8_isLetter.cls = RX8 ∧ yX8_isLetter.cls ≠ "java/lang/invoke/MethodHandle" ∧ yX8_isLetter.cls ≠ "java/lang/invoke/VarHandle" ∧ (parseMethodDescriptor yX8_isLetter.desc).map (fun d => d.parameters.length) = some 1 := by decide +kernel
theorem hdX8_isFigure : yX8_isFigure.cls = RX8 ∧ yX8_isFigure.cls ≠ "java/lang/invoke/MethodHandle" ∧ yX8_isFigure.cls ≠ "java/lang/invoke/VarHandle" ∧ (parseMethodDescriptor yX8_isFigure.desc).map (fun d => d.parameters.length) = some 1 := by decide +kernel
theorem hdX8_refuse : yX8_refuse.cls = RX8 ∧ yX8_refuse.cls ≠ "java/lang/invoke/MethodHandle" ∧ yX8_refuse.cls ≠ "java/lang/invoke/VarHandle" ∧ (parseMethodDescriptor yX8_refuse.desc).map (fun d => d.parameters.length) = some 1 := by decide +kernel
theorem hdX8_sign : yX8_sign.cls = RX8 ∧ yX8_sign.cls ≠ "java/lang/invoke/MethodHandle" ∧ yX8_sign.cls ≠ "java/lang/invoke/VarHandle" ∧ (parseMethodDescriptor yX8_sign.desc).map (fun d => d.parameters.length) = some 1 := by decide +kernel
theorem hdX8_readsNumber : yX8_readsNumber.cls = RX8 ∧ yX8_readsNumber.cls ≠ "java/lang/invoke/MethodHandle" ∧ yX8_readsNumber.cls ≠ "java/lang/invoke/VarHandle" ∧ (parseMethodDescriptor yX8_readsNumber.desc).map (fun d => d.parameters.length) = some 2 := by decide +kernel
theorem hdX8_readsLaw : yX8_readsLaw.cls = RX8 ∧ yX8_readsLaw.cls ≠ "java/lang/invoke/MethodHandle" ∧ yX8_readsLaw.cls ≠ "java/lang/invoke/VarHandle" ∧ (parseMethodDescriptor yX8_readsLaw.desc).map (fun d => d.parameters.length) = some 0 := by decide +kernel
theorem hdX8_readsStreet : yX8_readsStreet.cls = RX8 ∧ yX8_readsStreet.cls ≠ "java/lang/invoke/MethodHandle" ∧ yX8_readsStreet.cls ≠ "java/lang/invoke/VarHandle" ∧ (parseMethodDescriptor yX8_readsStreet.desc).map (fun d => d.parameters.length) = some 0 := by decide +kernel
theorem hdX8_kindOfLetter : yX8_kindOfLetter.cls ≠ "java/lang/invoke/MethodHandle" ∧ yX8_kindOfLetter.cls ≠ "java/lang/invoke/VarHandle" ∧ (parseMethodDescriptor yX8_kindOfLetter.desc).map (fun d => d.parameters.length) = some 1 := by decide +kernel
theorem hdX8_readsGesture : yX8_readsGesture.cls = RX8 ∧ yX8_readsGesture.cls ≠ "java/lang/invoke/MethodHandle" ∧ yX8_readsGesture.cls ≠ "java/lang/invoke/VarHandle" ∧ (parseMethodDescriptor yX8_readsGesture.desc).map (fun d => d.parameters.length) = some 0 := by decide +kernel
theorem hdX8_reads : yX8_reads.cls = RX8 ∧ yX8_reads.cls ≠ "java/lang/invoke/MethodHandle" ∧ yX8_reads.cls ≠ "java/lang/invoke/VarHandle" ∧ (parseMethodDescriptor yX8_reads.desc).map (fun d => d.parameters.length) = some 0 := by decide +kernel
theorem hdX8_copyTown : yX8_copyTown.cls = RX8 ∧ yX8_copyTown.cls ≠ "java/lang/invoke/MethodHandle" ∧ yX8_copyTown.cls ≠ "java/lang/invoke/VarHandle" ∧ (parseMethodDescriptor yX8_copyTown.desc).map (fun d => d.parameters.length) = some 2 := by decide +kernel
theorem hdX8_city : yX8_city.cls = RX8 ∧ yX8_city.cls ≠ "java/lang/invoke/MethodHandle" ∧ yX8_city.cls ≠ "java/lang/invoke/VarHandle" ∧ (parseMethodDescriptor yX8_city.desc).map (fun d => d.parameters.length) = some 0 := by decide +kernel
theorem hdX8_fault : yX8_fault.cls = RX8 ∧ yX8_fault.cls ≠ "java/lang/invoke/MethodHandle" ∧ yX8_fault.cls ≠ "java/lang/invoke/VarHandle" ∧ (parseMethodDescriptor yX8_fault.desc).map (fun d => d.parameters.length) = some 0 := by decide +kernel
theorem hdX8_keepPast : yX8_keepPast.cls = RX8 ∧ yX8_keepPast.cls ≠ "java/lang/invoke/MethodHandle" ∧ yX8_keepPast.cls ≠ "java/lang/invoke/VarHandle" ∧ (parseMethodDescriptor yX8_keepPast.desc).map (fun d => d.parameters.length) = some 0 := by decide +kernel
theorem hdX8_undo : yX8_undo.cls = RX8 ∧ yX8_undo.cls ≠ "java/lang/invoke/MethodHandle" ∧ yX8_undo.cls ≠ "java/lang/invoke/VarHandle" ∧ (parseMethodDescriptor yX8_undo.desc).map (fun d => d.parameters.length) = some 0 := by decide +kernel
theorem hdX8_isGesture : yX8_isGesture.cls = RX8 ∧ yX8_isGesture.cls ≠ "java/lang/invoke/MethodHandle" ∧ yX8_isGesture.cls ≠ "java/lang/invoke/VarHandle" ∧ (parseMethodDescriptor yX8_isGesture.desc).map (fun d => d.parameters.length) = some 1 := by decide +kernel
theorem hdX8_isStreet : yX8_isStreet.cls = RX8 ∧ yX8_isStreet.cls ≠ "java/lang/invoke/MethodHandle" ∧ yX8_isStreet.cls ≠ "java/lang/invoke/VarHandle" ∧ (parseMethodDescriptor yX8_isStreet.desc).map (fun d => d.parameters.length) = some 1 := by decide +kernel
theorem hdX8_wave : yX8_wave.cls = RX8 ∧ yX8_wave.cls ≠ "java/lang/invoke/MethodHandle" ∧ yX8_wave.cls ≠ "java/lang/invoke/VarHandle" ∧ (parseMethodDescriptor yX8_wave.desc).map (fun d => d.parameters.length) = some 2 := by decide +kernel
theorem hdX8_plainDuty : yX8_plainDuty.cls = RX8 ∧ yX8_plainDuty.cls ≠ "java/lang/invoke/MethodHandle" ∧ yX8_plainDuty.cls ≠ "java/lang/invoke/VarHandle" ∧ (parseMethodDescriptor yX8_plainDuty.desc).map (fun d => d.parameters.length) = some 3 := by decide +kernel
theorem hdX8_owes : yX8_owes.cls = RX8 ∧ yX8_owes.cls ≠ "java/lang/invoke/MethodHandle" ∧ yX8_owes.cls ≠ "java/lang/invoke/VarHandle" ∧ (parseMethodDescriptor yX8_owes.desc).map (fun d => d.parameters.length) = some 3 := by decide +kernel
theorem hdX8_dutyOf : yX8_dutyOf.cls = RX8 ∧ yX8_dutyOf.cls ≠ "java/lang/invoke/MethodHandle" ∧ yX8_dutyOf.cls ≠ "java/lang/invoke/VarHandle" ∧ (parseMethodDescriptor yX8_dutyOf.desc).map (fun d => d.parameters.length) = some 2 := by decide +kernel
theorem hdX8_isSeen : yX8_isSeen.cls = RX8 ∧ yX8_isSeen.cls ≠ "java/lang/invoke/MethodHandle" ∧ yX8_isSeen.cls ≠ "java/lang/invoke/VarHandle" ∧ (parseMethodDescriptor yX8_isSeen.desc).map (fun d => d.parameters.length) = some 2 := by decide +kernel
theorem hdX8_make : yX8_make.cls = RX8 ∧ yX8_make.cls ≠ "java/lang/invoke/MethodHandle" ∧ yX8_make.cls ≠ "java/lang/invoke/VarHandle" ∧ (parseMethodDescriptor yX8_make.desc).map (fun d => d.parameters.length) = some 2 := by decide +kernel
theorem hdX8_dim : yX8_dim.cls = RX8 ∧ yX8_dim.cls ≠ "java/lang/invoke/MethodHandle" ∧ yX8_dim.cls ≠ "java/lang/invoke/VarHandle" ∧ (parseMethodDescriptor yX8_dim.desc).map (fun d => d.parameters.length) = some 2 := by decide +kernel
theorem hdX8_train : yX8_train.cls = RX8 ∧ yX8_train.cls ≠ "java/lang/invoke/MethodHandle" ∧ yX8_train.cls ≠ "java/lang/invoke/VarHandle" ∧ (parseMethodDescriptor yX8_train.desc).map (fun d => d.parameters.length) = some 2 := by decide +kernel
theorem hdX8_know : yX8_know.cls = RX8 ∧ yX8_know.cls ≠ "java/lang/invoke/MethodHandle" ∧ yX8_know.cls ≠ "java/lang/invoke/VarHandle" ∧ (parseMethodDescriptor yX8_know.desc).map (fun d => d.parameters.length) = some 2 := by decide +kernel
theorem hdX8_seenStreets : yX8_seenStreets.cls = RX8 ∧ yX8_seenStreets.cls ≠ "java/lang/invoke/MethodHandle" ∧ yX8_seenStreets.cls ≠ "java/lang/invoke/VarHandle" ∧ (parseMethodDescriptor yX8_seenStreets.desc).map (fun d => d.parameters.length) = some 1 := by decide +kernel
theorem hdX8_seenGestures : yX8_seenGestures.cls = RX8 ∧ yX8_seenGestures.cls ≠ "java/lang/invoke/MethodHandle" ∧ yX8_seenGestures.cls ≠ "java/lang/invoke/VarHandle" ∧ (parseMethodDescriptor yX8_seenGestures.desc).map (fun d => d.parameters.length) = some 1 := by decide +kernel
theorem hdX8_gesture : yX8_gesture.cls = RX8 ∧ yX8_gesture.cls ≠ "java/lang/invoke/MethodHandle" ∧ yX8_gesture.cls ≠ "java/lang/invoke/VarHandle" ∧ (parseMethodDescriptor yX8_gesture.desc).map (fun d => d.parameters.length) = some 2 := by decide +kernel
theorem hdX8_street : yX8_street.cls = RX8 ∧ yX8_street.cls ≠ "java/lang/invoke/MethodHandle" ∧ yX8_street.cls ≠ "java/lang/invoke/VarHandle" ∧ (parseMethodDescriptor yX8_street.desc).map (fun d => d.parameters.length) = some 2 := by decide +kernel
theorem hdX8_duty : yX8_duty.cls = RX8 ∧ yX8_duty.cls ≠ "java/lang/invoke/MethodHandle" ∧ yX8_duty.cls ≠ "java/lang/invoke/VarHandle" ∧ (parseMethodDescriptor yX8_duty.desc).map (fun d => d.parameters.length) = some 2 := by decide +kernel
theorem hdX8_tells : yX8_tells.cls = RX8 ∧ yX8_tells.cls ≠ "java/lang/invoke/MethodHandle" ∧ yX8_tells.cls ≠ "java/lang/invoke/VarHandle" ∧ (parseMethodDescriptor yX8_tells.desc).map (fun d => d.parameters.length) = some 3 := by decide +kernel
theorem hdX8_onBy : yX8_onBy.cls = RX8 ∧ yX8_onBy.cls ≠ "java/lang/invoke/MethodHandle" ∧ yX8_onBy.cls ≠ "java/lang/invoke/VarHandle" ∧ (parseMethodDescriptor yX8_onBy.desc).map (fun d => d.parameters.length) = some 4 := by decide +kernel
theorem hdX8_layCosts : yX8_layCosts.cls = RX8 ∧ yX8_layCosts.cls ≠ "java/lang/invoke/MethodHandle" ∧ yX8_layCosts.cls ≠ "java/lang/invoke/VarHandle" ∧ (parseMethodDescriptor yX8_layCosts.desc).map (fun d => d.parameters.length) = some 3 := by decide +kernel
theorem hdX8_isMeans : yX8_isMeans.cls ≠ "java/lang/invoke/MethodHandle" ∧ yX8_isMeans.cls ≠ "java/lang/invoke/VarHandle" ∧ (parseMethodDescriptor yX8_isMeans.desc).map (fun d => d.parameters.length) = some 1 := by decide +kernel
theorem hdX8_areStreets : yX8_areStreets.cls = RX8 ∧ yX8_areStreets.cls ≠ "java/lang/invoke/MethodHandle" ∧ yX8_areStreets.cls ≠ "java/lang/invoke/VarHandle" ∧ (parseMethodDescriptor yX8_areStreets.desc).map (fun d => d.parameters.length) = some 2 := by decide +kernel
theorem hdX8_tell : yX8_tell.cls = RX8 ∧ yX8_tell.cls ≠ "java/lang/invoke/MethodHandle" ∧ yX8_tell.cls ≠ "java/lang/invoke/VarHandle" ∧ (parseMethodDescriptor yX8_tell.desc).map (fun d => d.parameters.length) = some 5 := by decide +kernel
theorem hdX8_soonest : yX8_soonest.cls = RX8 ∧ yX8_soonest.cls ≠ "java/lang/invoke/MethodHandle" ∧ yX8_soonest.cls ≠ "java/lang/invoke/VarHandle" ∧ (parseMethodDescriptor yX8_soonest.desc).map (fun d => d.parameters.length) = some 2 := by decide +kernel
theorem hdX8_shut : yX8_shut.cls = RX8 ∧ yX8_shut.cls ≠ "java/lang/invoke/MethodHandle" ∧ yX8_shut.cls ≠ "java/lang/invoke/VarHandle" ∧ (parseMethodDescriptor yX8_shut.desc).map (fun d => d.parameters.length) = some 1 := by decide +kernel
theorem hdX8_quick : yX8_quick.cls = RX8 ∧ yX8_quick.cls ≠ "java/lang/invoke/MethodHandle" ∧ yX8_quick.cls ≠ "java/lang/invoke/VarHandle" ∧ (parseMethodDescriptor yX8_quick.desc).map (fun d => d.parameters.length) = some 3 := by decide +kernel
theorem hdX8_noPairs : yX8_noPairs.cls = RX8 ∧ yX8_noPairs.cls ≠ "java/lang/invoke/MethodHandle" ∧ yX8_noPairs.cls ≠ "java/lang/invoke/VarHandle" ∧ (parseMethodDescriptor yX8_noPairs.desc).map (fun d => d.parameters.length) = some 3 := by decide +kernel
theorem hdX8_owesSo : yX8_owesSo.cls = RX8 ∧ yX8_owesSo.cls ≠ "java/lang/invoke/MethodHandle" ∧ yX8_owesSo.cls ≠ "java/lang/invoke/VarHandle" ∧ (parseMethodDescriptor yX8_owesSo.desc).map (fun d => d.parameters.length) = some 5 := by decide +kernel
theorem hdX8_isSeenSo : yX8_isSeenSo.cls = RX8 ∧ yX8_isSeenSo.cls ≠ "java/lang/invoke/MethodHandle" ∧ yX8_isSeenSo.cls ≠ "java/lang/invoke/VarHandle" ∧ (parseMethodDescriptor yX8_isSeenSo.desc).map (fun d => d.parameters.length) = some 4 := by decide +kernel
theorem hdX8_thread : yX8_thread.cls = RX8 ∧ yX8_thread.cls ≠ "java/lang/invoke/MethodHandle" ∧ yX8_thread.cls ≠ "java/lang/invoke/VarHandle" ∧ (parseMethodDescriptor yX8_thread.desc).map (fun d => d.parameters.length) = some 3 := by decide +kernel
theorem hdX8_inches : yX8_inches.cls = RX8 ∧ yX8_inches.cls ≠ "java/lang/invoke/MethodHandle" ∧ yX8_inches.cls ≠ "java/lang/invoke/VarHandle" ∧ (parseMethodDescriptor yX8_inches.desc).map (fun d => d.parameters.length) = some 4 := by decide +kernel
theorem hdX8_sorts : yX8_sorts.cls = RX8 ∧ yX8_sorts.cls ≠ "java/lang/invoke/MethodHandle" ∧ yX8_sorts.cls ≠ "java/lang/invoke/VarHandle" ∧ (parseMethodDescriptor yX8_sorts.desc).map (fun d => d.parameters.length) = some 4 := by decide +kernel
theorem hdX8_saved : yX8_saved.cls = RX8 ∧ yX8_saved.cls ≠ "java/lang/invoke/MethodHandle" ∧ yX8_saved.cls ≠ "java/lang/invoke/VarHandle" ∧ (parseMethodDescriptor yX8_saved.desc).map (fun d => d.parameters.length) = some 1 := by decide +kernel
theorem hdX8_worst : yX8_worst.cls = RX8 ∧ yX8_worst.cls ≠ "java/lang/invoke/MethodHandle" ∧ yX8_worst.cls ≠ "java/lang/invoke/VarHandle" ∧ (parseMethodDescriptor yX8_worst.desc).map (fun d => d.parameters.length) = some 2 := by decide +kernel
theorem hdX8_tremble : yX8_tremble.cls = RX8 ∧ yX8_tremble.cls ≠ "java/lang/invoke/MethodHandle" ∧ yX8_tremble.cls ≠ "java/lang/invoke/VarHandle" ∧ (parseMethodDescriptor yX8_tremble.desc).map (fun d => d.parameters.length) = some 6 := by decide +kernel
theorem hdX8_image : yX8_image.cls = RX8 ∧ yX8_image.cls ≠ "java/lang/invoke/MethodHandle" ∧ yX8_image.cls ≠ "java/lang/invoke/VarHandle" ∧ (parseMethodDescriptor yX8_image.desc).map (fun d => d.parameters.length) = some 1 := by decide +kernel
theorem hdX8_restore : yX8_restore.cls = RX8 ∧ yX8_restore.cls ≠ "java/lang/invoke/MethodHandle" ∧ yX8_restore.cls ≠ "java/lang/invoke/VarHandle" ∧ (parseMethodDescriptor yX8_restore.desc).map (fun d => d.parameters.length) = some 1 := by decide +kernel
theorem hdX8_kind : yX8_kind.cls = RX8 ∧ yX8_kind.cls ≠ "java/lang/invoke/MethodHandle" ∧ yX8_kind.cls ≠ "java/lang/invoke/VarHandle" ∧ (parseMethodDescriptor yX8_kind.desc).map (fun d => d.parameters.length) = some 1 := by decide +kernel
theorem hdX8_isOf : yX8_isOf.cls = RX8 ∧ yX8_isOf.cls ≠ "java/lang/invoke/MethodHandle" ∧ yX8_isOf.cls ≠ "java/lang/invoke/VarHandle" ∧ (parseMethodDescriptor yX8_isOf.desc).map (fun d => d.parameters.length) = some 2 := by decide +kernel
theorem hdX8_as : yX8_as.cls = RX8 ∧ yX8_as.cls ≠ "java/lang/invoke/MethodHandle" ∧ yX8_as.cls ≠ "java/lang/invoke/VarHandle" ∧ (parseMethodDescriptor yX8_as.desc).map (fun d => d.parameters.length) = some 2 := by decide +kernel
theorem hdX8_begin : yX8_begin.cls = RX8 ∧ yX8_begin.cls ≠ "java/lang/invoke/MethodHandle" ∧ yX8_begin.cls ≠ "java/lang/invoke/VarHandle" ∧ (parseMethodDescriptor yX8_begin.desc).map (fun d => d.parameters.length) = some 1 := by decide +kernel
theorem hdX8_lentSize : yX8_lentSize.cls = RX8 ∧ yX8_lentSize.cls ≠ "java/lang/invoke/MethodHandle" ∧ yX8_lentSize.cls ≠ "java/lang/invoke/VarHandle" ∧ (parseMethodDescriptor yX8_lentSize.desc).map (fun d => d.parameters.length) = some 1 := by decide +kernel
theorem hdX8_lentMark : yX8_lentMark.cls = RX8 ∧ yX8_lentMark.cls ≠ "java/lang/invoke/MethodHandle" ∧ yX8_lentMark.cls ≠ "java/lang/invoke/VarHandle" ∧ (parseMethodDescriptor yX8_lentMark.desc).map (fun d => d.parameters.length) = some 1 := by decide +kernel
theorem hdX8_wavesMark : yX8_wavesMark.cls = RX8 ∧ yX8_wavesMark.cls ≠ "java/lang/invoke/MethodHandle" ∧ yX8_wavesMark.cls ≠ "java/lang/invoke/VarHandle" ∧ (parseMethodDescriptor yX8_wavesMark.desc).map (fun d => d.parameters.length) = some 1 := by decide +kernel
theorem hdX8_mark : yX8_mark.cls = RX8 ∧ yX8_mark.cls ≠ "java/lang/invoke/MethodHandle" ∧ yX8_mark.cls ≠ "java/lang/invoke/VarHandle" ∧ (parseMethodDescriptor yX8_mark.desc).map (fun d => d.parameters.length) = some 1 := by decide +kernel
theorem hdX8_wavesSize : yX8_wavesSize.cls = RX8 ∧ yX8_wavesSize.cls ≠ "java/lang/invoke/MethodHandle" ∧ yX8_wavesSize.cls ≠ "java/lang/invoke/VarHandle" ∧ (parseMethodDescriptor yX8_wavesSize.desc).map (fun d => d.parameters.length) = some 1 := by decide +kernel
theorem hdX8_winksSize : yX8_winksSize.cls = RX8 ∧ yX8_winksSize.cls ≠ "java/lang/invoke/MethodHandle" ∧ yX8_winksSize.cls ≠ "java/lang/invoke/VarHandle" ∧ (parseMethodDescriptor yX8_winksSize.desc).map (fun d => d.parameters.length) = some 1 := by decide +kernel
theorem hdX8_sizeOf : yX8_sizeOf.cls = RX8 ∧ yX8_sizeOf.cls ≠ "java/lang/invoke/MethodHandle" ∧ yX8_sizeOf.cls ≠ "java/lang/invoke/VarHandle" ∧ (parseMethodDescriptor yX8_sizeOf.desc).map (fun d => d.parameters.length) = some 1 := by decide +kernel
theorem hdX8_winksMark : yX8_winksMark.cls = RX8 ∧ yX8_winksMark.cls ≠ "java/lang/invoke/MethodHandle" ∧ yX8_winksMark.cls ≠ "java/lang/invoke/VarHandle" ∧ (parseMethodDescriptor yX8_winksMark.desc).map (fun d => d.parameters.length) = some 1 := by decide +kernel
theorem hdX8_ask : yX8_ask.cls = RX8 ∧ yX8_ask.cls ≠ "java/lang/invoke/MethodHandle" ∧ yX8_ask.cls ≠ "java/lang/invoke/VarHandle" ∧ (parseMethodDescriptor yX8_ask.desc).map (fun d => d.parameters.length) = some 2 := by decide +kernel
theorem hdX8_trace : yX8_trace.cls = RX8 ∧ yX8_trace.cls ≠ "java/lang/invoke/MethodHandle" ∧ yX8_trace.cls ≠ "java/lang/invoke/VarHandle" ∧ (parseMethodDescriptor yX8_trace.desc).map (fun d => d.parameters.length) = some 1 := by decide +kernel
theorem hdX8_count : yX8_count.cls = RX8 ∧ yX8_count.cls ≠ "java/lang/invoke/MethodHandle" ∧ yX8_count.cls ≠ "java/lang/invoke/VarHandle" ∧ (parseMethodDescriptor yX8_count.desc).map (fun d => d.parameters.length) = some 1 := by decide +kernel
theorem hdX8_status : yX8_status.cls = RX8 ∧ yX8_status.cls ≠ "java/lang/invoke/MethodHandle" ∧ yX8_status.cls ≠ "java/lang/invoke/VarHandle" ∧ (parseMethodDescriptor yX8_status.desc).map (fun d => d.parameters.length) = some 0 := by decide +kernel
set_option maxRecDepth 100000 in
set_option maxHeartbeats 4000000 in
theorem mX8_in {σ : x_S} {a0 : Int64} {a2 : Int64} {a4 : Int64} (hdis : x_dis m_N ad) (hf : fX8_in a0 a2 a4 σ = some r0) : x_NI l yX8_in wsX8_in 0 D vwCl (s_tys cI cQ cC cZ) m_N (m_C cI cZ ad) ad m_St m_NW [.long a0, .long a2, .long a4] σ r0 σ := by
  refine x_met (cc := cX8_in) (own := RX8) (maxL := 6) (ret := (some .boolean)) (by decide +kernel) rfl rfl (Nat.le_of_ble_eq_true rfl) hdis m_StOk m_NwOk (fun p e s m args below meth c B G hr => ?_)
  unfold fX8_in at hf
  refine x_sub (lv' := [(0, .long a0), (2, .long a2), (4, .long a4)]) [0, 1, 2] rfl ?_
  refine x_lload_n B dX8_in_0 rfl 0 rfl ?_
  refine x_lload_n B dX8_in_1 rfl 1 rfl ?_
  refine x_lcmp B dX8_in_2 ?_
  refine x_if_lt (tgt := 17) B dX8_in_3 (by decide) (fun h1 => ?_) (fun h1 => ?_)
  · replace hf := x_it h1 hf
    refine x_iconst (v := 0) B dX8_in_17 (by decide) ?_
    obtain rfl := x_retP hf
    exact x_zret B hr (by decide) dX8_in_18
  · replace hf := x_if h1 hf
    refine x_lload_n B dX8_in_6 rfl 0 rfl ?_
    refine x_lload B dX8_in_7 2 rfl ?_
    refine x_lcmp B dX8_in_9 ?_
    refine x_if_gt (tgt := 17) B dX8_in_10 (by decide) (fun h2 => ?_) (fun h2 => ?_)
    · replace hf := x_it h2 hf
      refine x_iconst (v := 0) B dX8_in_17 (by decide) ?_
      obtain rfl := x_retP hf
      exact x_zret B hr (by decide) dX8_in_18
    · replace hf := x_if h2 hf
      refine x_iconst (v := 1) B dX8_in_13 (by decide) ?_
      refine x_goto (tgt := 18) B dX8_in_14 (by decide) ?_
      obtain rfl := x_retP hf
      exact x_zret B hr (by decide) dX8_in_18
set_option maxRecDepth 100000 in
set_option maxHeartbeats 4000000 in
theorem mX8_has {σ : x_S} {a0 : Int32} {a1 : Int32} (hdis : x_dis m_N ad) (hf : fX8_has a0 a1 σ = some r0) : x_NI l yX8_has wsX8_has 0 D vwCl (s_tys cI cQ cC cZ) m_N (m_C cI cZ ad) ad m_St m_NW [.int a0, .int a1] σ r0 σ := by
  refine x_met (cc := cX8_has) (own := RX8) (maxL := 2) (ret := (some .boolean)) (by decide +kernel) rfl rfl (Nat.le_of_ble_eq_true rfl) hdis m_StOk m_NwOk (fun p e s m args below meth c B G hr => ?_)
  unfold fX8_has at hf
  refine x_sub (lv' := [(0, .int a0), (1, .int a1)]) [0, 1] rfl ?_
  refine x_iload_n B dX8_has_0 rfl 0 rfl ?_
  refine x_iload_n B dX8_has_1 rfl 1 rfl ?_
  refine x_ishr B dX8_has_2 ?_
  refine x_iconst (v := 1) B dX8_has_3 (by decide) ?_
  refine x_iand B dX8_has_4 ?_
  refine x_iconst (v := 1) B dX8_has_5 (by decide) ?_
  refine x_icmp_ne (tgt := 13) B dX8_has_6 (by decide) (fun h1 => ?_) (fun h1 => ?_)
  · replace hf := x_if h1 hf
    refine x_iconst (v := 0) B dX8_has_13 (by decide) ?_
    obtain rfl := x_retP hf
    exact x_zret B hr (by decide) dX8_has_14
  · replace hf := x_it h1 hf
    refine x_iconst (v := 1) B dX8_has_9 (by decide) ?_
    refine x_goto (tgt := 14) B dX8_has_10 (by decide) ?_
    obtain rfl := x_retP hf
    exact x_zret B hr (by decide) dX8_has_14
set_option maxRecDepth 100000 in
set_option maxHeartbeats 4000000 in
theorem qX8_bits_4 {σ : x_S} {x0 : Int32} {x1 : Int32} {x2 : Int32} {K4 : Int32 → Int32 → Option Int32} (B : x_B p s m args meth c cX8_bits 3 wsX8_bits RX8) (G : x_H s D vwCl (s_tys cI cQ cC cZ) m_N ad (x_A m_N ad) m_St m_NW) (hr : meth.sig.returnType = (some .int)) (hK4 : ∀ (x1 : Int32) (x2 : Int32), K4 x1 x2 = some r0 → x_J p l e (x_rm 0) s m args below meth c 0 0 (MQ below (x_Qi D vwCl m_N (m_C cI cZ ad) ad r0 σ) args s 0 0 (x_A m_N ad)) (x_A m_N ad) 3 (x_I D vwCl m_N (m_C cI cZ ad) ad σ) [(0, .int x0), (1, .int x1), (2, .int x2)] [] 4) (hf : gX8_bits_4  x0 K4 x1 x2 σ = some r0) : x_J p l e (x_rm 0) s m args below meth c 0 0 (MQ below (x_Qi D vwCl m_N (m_C cI cZ ad) ad r0 σ) args s 0 0 (x_A m_N ad)) (x_A m_N ad) 3 (x_I D vwCl m_N (m_C cI cZ ad) ad σ) [(0, .int x0), (1, .int x1), (2, .int x2)] [] 4 := by
  unfold gX8_bits_4 at hf
  refine x_iload_n B dX8_bits_4 rfl 2 rfl ?_
  refine x_bipush (v := 7) B dX8_bits_5 (by decide) ?_
  refine x_icmp_ge (tgt := 24) B dX8_bits_7 (by decide) (fun h1 => ?_) (fun h1 => ?_)
  · replace hf := x_it h1 hf
    refine x_iload_n B dX8_bits_24 rfl 1 rfl ?_
    obtain rfl := x_retP hf
    exact x_iret B hr dX8_bits_25
  · replace hf := x_if h1 hf
    refine x_iload_n B dX8_bits_10 rfl 1 rfl ?_
    refine x_iload_n B dX8_bits_11 rfl 0 rfl ?_
    refine x_iload_n B dX8_bits_12 rfl 2 rfl ?_
    refine x_ishr B dX8_bits_13 ?_
    refine x_iconst (v := 1) B dX8_bits_14 (by decide) ?_
    refine x_iand B dX8_bits_15 ?_
    refine x_iadd B dX8_bits_16 ?_
    refine x_istore_n (lv' := [(1, .int (x1 + ((x0 >>> (x2 &&& 31)) &&& 1))), (0, .int x0), (2, .int x2)]) B dX8_bits_17 rfl (by decide) rfl ?_
    refine x_iinc (v := (x2 + 1)) (lv' := [(2, .int (x2 + 1)), (1, .int (x1 + ((x0 >>> (x2 &&& 31)) &&& 1))), (0, .int x0)]) B dX8_bits_18 2 rfl rfl (by decide) rfl ?_
    refine x_goto (tgt := 4) B dX8_bits_21 (by decide) ?_
    refine x_sub [2, 1, 0] rfl ?_
    exact hK4 _ _ hf
set_option maxRecDepth 100000 in
set_option maxHeartbeats 4000000 in
theorem kX8_bits_4 {σ : x_S} {x0 : Int32} {x1 : Int32} {x2 : Int32} (B : x_B p s m args meth c cX8_bits 3 wsX8_bits RX8) (G : x_H s D vwCl (s_tys cI cQ cC cZ) m_N ad (x_A m_N ad) m_St m_NW) (hr : meth.sig.returnType = (some .int)) (hf : bX8_bits_4  x0 x1 x2 σ = some r0) : x_J p l e (x_rm 0) s m args below meth c 0 0 (MQ below (x_Qi D vwCl m_N (m_C cI cZ ad) ad r0 σ) args s 0 0 (x_A m_N ad)) (x_A m_N ad) 3 (x_I D vwCl m_N (m_C cI cZ ad) ad σ) [(0, .int x0), (1, .int x1), (2, .int x2)] [] 4 := by
  have key : ∀ (n : Nat) (x1 : Int32) (x2 : Int32), x_fx (α := Int32 → Int32 → Option Int32) (fun _ _ => none) (fun K => fun x1 x2 => gX8_bits_4  x0 K x1 x2 σ) n x1 x2 = some r0 → x_J p l e (x_rm 0) s m args below meth c 0 0 (MQ below (x_Qi D vwCl m_N (m_C cI cZ ad) ad r0 σ) args s 0 0 (x_A m_N ad)) (x_A m_N ad) 3 (x_I D vwCl m_N (m_C cI cZ ad) ad σ) [(0, .int x0), (1, .int x1), (2, .int x2)] [] 4 := by
    intro n
    induction n with
    | zero => intro x1 x2 h; cases h
    | succ n ih => intro x1 x2 h; exact qX8_bits_4 B G hr  ih  h
  exact key x_F x1 x2 hf
set_option maxRecDepth 100000 in
set_option maxHeartbeats 4000000 in
theorem mX8_bits {σ : x_S} {a0 : Int32} (hdis : x_dis m_N ad) (hf : fX8_bits a0 σ = some r0) : x_NI l yX8_bits wsX8_bits 0 D vwCl (s_tys cI cQ cC cZ) m_N (m_C cI cZ ad) ad m_St m_NW [.int a0] σ r0 σ := by
  refine x_met (cc := cX8_bits) (own := RX8) (maxL := 3) (ret := (some .int)) (by decide +kernel) rfl rfl (Nat.le_of_ble_eq_true rfl) hdis m_StOk m_NwOk (fun p e s m args below meth c B G hr => ?_)
  unfold fX8_bits at hf
  refine x_sub (lv' := [(0, .int a0)]) [0] rfl ?_
  refine x_iconst (v := 0) B dX8_bits_0 (by decide) ?_
  refine x_istore_n (lv' := [(1, .int 0), (0, .int a0)]) B dX8_bits_1 rfl (by decide) rfl ?_
  refine x_iconst (v := 0) B dX8_bits_2 (by decide) ?_
  refine x_istore_n (lv' := [(2, .int 0), (1, .int 0), (0, .int a0)]) B dX8_bits_3 rfl (by decide) rfl ?_
  refine x_sub [2, 1, 0] rfl ?_
  exact kX8_bits_4 B G hr hf
theorem iX8_find_0 : Cond.fieldLink RX8 35 "SignDutyModel" "status" "I" ∈ wsX8_find := by decide +kernel
theorem iX8_find_cX8 : ∀ w ∈ u_ws RX8 TX8 17, w ∈ wsX8_find := by decide +kernel
theorem iX8_find_2 : Cond.constant RX8 39 (-1000010) ∈ wsX8_find := by decide +kernel
set_option maxRecDepth 100000 in
set_option maxHeartbeats 4000000 in
theorem mX8_find {σ : x_S} {a1 : Int32} (hdis : x_dis m_N ad) (hf : fX8_find a1 σ = some (r0, σ0)) : x_NI l yX8_find wsX8_find 0 D vwCl (s_tys cI cQ cC cZ) m_N (m_C cI cZ ad) ad m_St m_NW [.ref (ad 0), .int a1] σ r0 σ0 := by
  refine x_met (cc := cX8_find) (own := RX8) (maxL := 2) (ret := (some .int)) (by decide +kernel) rfl rfl (Nat.le_of_ble_eq_true rfl) hdis m_StOk m_NwOk (fun p e s m args below meth c B G hr => ?_)
  unfold fX8_find at hf
  refine x_sub (lv' := [(0, .ref (ad 0)), (1, .int a1)]) [0, 1] rfl ?_
  refine x_aload_n B dX8_find_0 rfl 0 rfl ?_
  refine x_iload_n B dX8_find_1 rfl 1 rfl ?_
  obtain ⟨σ1, u2, hf⟩ := x_ws hf
  refine x_put (v := a1) (ty := .int) (kc := 0) (index := 35) B G.1 iX8_find_cX8 tyX8 tyX8_ok nmX8 rfl (by decide) m_c0 10 (by decide) iX8_find_0 rfl rfl rfl rfl (Nat.le_of_ble_eq_true rfl) (m_w_10 _ _) dX8_find_2 ?_
  refine x_nm u2 ?_
  refine x_ldc (v := (-1000010)) B iX8_find_2 dX8_find_5 ?_
  refine x_iload_n B dX8_find_7 rfl 1 rfl ?_
  refine x_isub B dX8_find_8 ?_
  obtain ⟨rfl, rfl⟩ := x_retI hf
  exact x_iret B hr dX8_find_9
theorem iX8_well_0 : Cond.fieldLink RX8 35 "SignDutyModel" "status" "I" ∈ wsX8_well := by decide +kernel
theorem iX8_well_cX8 : ∀ w ∈ u_ws RX8 TX8 17, w ∈ wsX8_well := by decide +kernel
set_option maxRecDepth 100000 in
set_option maxHeartbeats 4000000 in
theorem mX8_well {σ : x_S} {a1 : Int32} (hdis : x_dis m_N ad) (hf : fX8_well a1 σ = some (r0, σ0)) : x_NI l yX8_well wsX8_well 0 D vwCl (s_tys cI cQ cC cZ) m_N (m_C cI cZ ad) ad m_St m_NW [.ref (ad 0), .int a1] σ r0 σ0 := by
  refine x_met (cc := cX8_well) (own := RX8) (maxL := 2) (ret := (some .int)) (by decide +kernel) rfl rfl (Nat.le_of_ble_eq_true rfl) hdis m_StOk m_NwOk (fun p e s m args below meth c B G hr => ?_)
  unfold fX8_well at hf
  refine x_sub (lv' := [(0, .ref (ad 0)), (1, .int a1)]) [0, 1] rfl ?_
  refine x_aload_n B dX8_well_0 rfl 0 rfl ?_
  refine x_iconst (v := 0) B dX8_well_1 (by decide) ?_
  obtain ⟨σ1, u2, hf⟩ := x_ws hf
  refine x_put (v := 0) (ty := .int) (kc := 0) (index := 35) B G.1 iX8_well_cX8 tyX8 tyX8_ok nmX8 rfl (by decide) m_c0 10 (by decide) iX8_well_0 rfl rfl rfl rfl (Nat.le_of_ble_eq_true rfl) (m_w_10 _ _) dX8_well_2 ?_
  refine x_nm u2 ?_
  refine x_iload_n B dX8_well_5 rfl 1 rfl ?_
  obtain ⟨rfl, rfl⟩ := x_retI hf
  exact x_iret B hr dX8_well_6
theorem iX8_isRow_0 : Cond.constantLong RX8 40 7 ∈ wsX8_isRow := by decide +kernel
set_option maxRecDepth 100000 in
set_option maxHeartbeats 4000000 in
theorem mX8_isRow {σ : x_S} {a0 : Int32} (hdis : x_dis m_N ad) (hf : fX8_isRow a0 σ = some r0) : x_NI l yX8_isRow wsX8_isRow 1 D vwCl (s_tys cI cQ cC cZ) m_N (m_C cI cZ ad) ad m_St m_NW [.int a0] σ r0 σ := by
  refine x_met (cc := cX8_isRow) (own := RX8) (maxL := 1) (ret := (some .boolean)) (by decide +kernel) rfl rfl (Nat.le_of_ble_eq_true rfl) hdis m_StOk m_NwOk (fun p e s m args below meth c B G hr => ?_)
  unfold fX8_isRow at hf
  refine x_sub (lv' := [(0, .int a0)]) [0] rfl ?_
  refine x_iload_n B dX8_isRow_0 rfl 0 rfl ?_
  refine x_i2l B dX8_isRow_1 ?_
  refine x_lconst (v := 0) B dX8_isRow_2 (by decide) ?_
  refine x_ldc2 (v := 7) B iX8_isRow_0 dX8_isRow_3 ?_
  obtain ⟨r2, e1, hf⟩ := x_ps hf
  refine x_callS (As := [.long a0.toInt64, .long 0, .long 7]) (st := []) B G (mX8_in (l := l) G.1.2.1  e1) (va_cwS 3 B.2.2.2.2.1 gX8_isRow_X8_in rfl rfl rfl hdX8_in (x_rm_ok (by omega) (by decide))) rfl rfl (Nat.le_of_ble_eq_true rfl) ⟨Nat.zero_le _, Nat.zero_le _⟩ dX8_isRow_6 ?_
  obtain ⟨h3, hf⟩ := x_gs hf
  obtain rfl := x_retP hf
  exact x_zret B hr h3 dX8_isRow_9
theorem iX8_row_0 : Cond.constant RX8 52 (-1000001) ∈ wsX8_row := by decide +kernel
theorem iX8_row_1 : Cond.constantLong RX8 50 2 ∈ wsX8_row := by decide +kernel
theorem iX8_row_2 : Cond.fieldLink RX8 17 "SignDutyModel" "lanes" "[I" ∈ wsX8_row := by decide +kernel
theorem iX8_row_cX8 : ∀ w ∈ u_ws RX8 TX8 17, w ∈ wsX8_row := by decide +kernel
theorem iX8_row_4 : Cond.fieldLink RX8 20 "SignDutyModel" "sizes" "[I" ∈ wsX8_row := by decide +kernel
theorem iX8_row_5 : Cond.fieldLink RX8 23 "SignDutyModel" "items" "[I" ∈ wsX8_row := by decide +kernel
set_option maxRecDepth 100000 in
set_option maxHeartbeats 4000000 in
theorem qX8_row_55 {σ : x_S} {x1 : Int32} {x3 : Int32} {x4 : Int32} {K55 : Int32 → x_S → Option (Int32 × x_S)} (B : x_B p s m args meth c cX8_row 5 wsX8_row RX8) (G : x_H s D vwCl (s_tys cI cQ cC cZ) m_N ad (x_A m_N ad) m_St m_NW) (hr : meth.sig.returnType = (some .int)) (hK55 : ∀ (x4 : Int32) (σ : x_S), K55 x4 σ = some (r0, σ0) → x_J p l e (x_rm 2) s m args below meth c 0 0 (MQ below (x_Qi D vwCl m_N (m_C cI cZ ad) ad r0 σ0) args s 0 0 (x_A m_N ad)) (x_A m_N ad) 5 (x_I D vwCl m_N (m_C cI cZ ad) ad σ) [(0, .ref (ad 0)), (1, .int x1), (3, .int x3), (4, .int x4)] [] 55) (hf : gX8_row_55  x1 x3 K55 x4 σ = some (r0, σ0)) : x_J p l e (x_rm 2) s m args below meth c 0 0 (MQ below (x_Qi D vwCl m_N (m_C cI cZ ad) ad r0 σ0) args s 0 0 (x_A m_N ad)) (x_A m_N ad) 5 (x_I D vwCl m_N (m_C cI cZ ad) ad σ) [(0, .ref (ad 0)), (1, .int x1), (3, .int x3), (4, .int x4)] [] 55 := by
  unfold gX8_row_55 at hf
  refine x_iload B dX8_row_55 3 rfl ?_
  refine x_bipush (v := 40) B dX8_row_57 (by decide) ?_
  refine x_icmp_ge (tgt := 81) B dX8_row_59 (by decide) (fun h1 => ?_) (fun h1 => ?_)
  · replace hf := x_it h1 hf
    refine x_aload_n B dX8_row_81 rfl 0 rfl ?_
    refine x_iload_n B dX8_row_82 rfl 2 rfl ?_
    obtain ⟨r3, σ4, e2, hf⟩ := x_bs hf
    refine x_callV (As := [.int x3]) (st := []) B G (mX8_well (l := l) G.1.2.1  e2) (cwV 1 B.2.2.2.2.1 gX8_row_X8_well rfl rfl rfl hdX8_well (x_rm_ok (by omega) (by decide))) (by decide) m_c0 rfl rfl rfl (Nat.le_of_ble_eq_true rfl) ⟨Nat.zero_le _, Nat.zero_le _⟩ dX8_row_83 ?_
    obtain ⟨rfl, rfl⟩ := x_retI hf
    exact x_iret B hr dX8_row_86
  · replace hf := x_if h1 hf
    refine x_aload_n B dX8_row_62 rfl 0 rfl ?_
    refine x_get (v := .ref (ad 5)) (kc := 0) (index := 23) B G.1 iX8_row_cX8 rfl (by decide) m_c0 6 (by decide) iX8_row_5 rfl dX8_row_63 ?_
    refine x_bipush (v := 40) B dX8_row_66 (by decide) ?_
    refine x_iload_n B dX8_row_68 rfl 1 rfl ?_
    refine x_imul B dX8_row_69 ?_
    refine x_iload B dX8_row_70 3 rfl ?_
    refine x_iadd B dX8_row_72 ?_
    refine x_iconst (v := 0) B dX8_row_73 (by decide) ?_
    obtain ⟨h5, hf⟩ := x_gs hf
    obtain ⟨σ6, u7, hf⟩ := x_ws hf
    refine x_iast (kc := 5) (t0 := 0) B G.1 (by decide) m_c5 rfl h5 dX8_row_74 ?_
    refine x_nm u7 ?_
    refine x_iinc (v := (x4 + 1)) (lv' := [(4, .int (x4 + 1)), (0, .ref (ad 0)), (1, .int x1), (3, .int x3)]) B dX8_row_75 3 rfl rfl (by decide) rfl ?_
    refine x_goto (tgt := 55) B dX8_row_78 (by decide) ?_
    refine x_sub [1, 2, 3, 0] rfl ?_
    exact hK55 _ _ hf
set_option maxRecDepth 100000 in
set_option maxHeartbeats 4000000 in
theorem kX8_row_55 {σ : x_S} {x1 : Int32} {x3 : Int32} {x4 : Int32} (B : x_B p s m args meth c cX8_row 5 wsX8_row RX8) (G : x_H s D vwCl (s_tys cI cQ cC cZ) m_N ad (x_A m_N ad) m_St m_NW) (hr : meth.sig.returnType = (some .int)) (hf : bX8_row_55  x1 x3 x4 σ = some (r0, σ0)) : x_J p l e (x_rm 2) s m args below meth c 0 0 (MQ below (x_Qi D vwCl m_N (m_C cI cZ ad) ad r0 σ0) args s 0 0 (x_A m_N ad)) (x_A m_N ad) 5 (x_I D vwCl m_N (m_C cI cZ ad) ad σ) [(0, .ref (ad 0)), (1, .int x1), (3, .int x3), (4, .int x4)] [] 55 := by
  have key : ∀ (n : Nat) (x4 : Int32) (σ : x_S), x_fx (α := Int32 → x_S → Option (Int32 × x_S)) (fun _ _ => none) (fun K => fun x4 σ => gX8_row_55  x1 x3 K x4 σ) n x4 σ = some (r0, σ0) → x_J p l e (x_rm 2) s m args below meth c 0 0 (MQ below (x_Qi D vwCl m_N (m_C cI cZ ad) ad r0 σ0) args s 0 0 (x_A m_N ad)) (x_A m_N ad) 5 (x_I D vwCl m_N (m_C cI cZ ad) ad σ) [(0, .ref (ad 0)), (1, .int x1), (3, .int x3), (4, .int x4)] [] 55 := by
    intro n
    induction n with
    | zero => intro x4 σ h; cases h
    | succ n ih => intro x4 σ h; exact qX8_row_55 B G hr  ih  h
  exact key x_F x4 σ hf
set_option maxRecDepth 100000 in
set_option maxHeartbeats 4000000 in
theorem mX8_row {σ : x_S} {a1 : Int32} {a2 : Int32} {a3 : Int32} (hdis : x_dis m_N ad) (hf : fX8_row a1 a2 a3 σ = some (r0, σ0)) : x_NI l yX8_row wsX8_row 2 D vwCl (s_tys cI cQ cC cZ) m_N (m_C cI cZ ad) ad m_St m_NW [.ref (ad 0), .int a1, .int a2, .int a3] σ r0 σ0 := by
  refine x_met (cc := cX8_row) (own := RX8) (maxL := 5) (ret := (some .int)) (by decide +kernel) rfl rfl (Nat.le_of_ble_eq_true rfl) hdis m_StOk m_NwOk (fun p e s m args below meth c B G hr => ?_)
  unfold fX8_row at hf
  refine x_sub (lv' := [(0, .ref (ad 0)), (1, .int a1), (2, .int a2), (3, .int a3)]) [0, 1, 2, 3] rfl ?_
  refine x_iload_n B dX8_row_0 rfl 1 rfl ?_
  obtain ⟨r2, e1, hf⟩ := x_ps hf
  refine x_callS (As := [.int a1]) (st := []) B G (mX8_isRow (l := l) G.1.2.1  e1) (va_cwS 1 B.2.2.2.2.1 gX8_row_X8_isRow rfl rfl rfl hdX8_isRow (x_rm_ok (by omega) (by decide))) rfl rfl (Nat.le_of_ble_eq_true rfl) ⟨Nat.zero_le _, Nat.zero_le _⟩ dX8_row_1 ?_
  refine x_if_eq (tgt := 25) B dX8_row_4 (by decide) (fun h3 => ?_) (fun h3 => ?_)
  · replace hf := x_it h3 hf
    refine x_ldc (v := (-1000001)) B iX8_row_0 dX8_row_25 ?_
    obtain ⟨rfl, rfl⟩ := x_retI hf
    exact x_iret B hr dX8_row_27
  · replace hf := x_if h3 hf
    refine x_iload_n B dX8_row_7 rfl 2 rfl ?_
    refine x_i2l B dX8_row_8 ?_
    refine x_lconst (v := 0) B dX8_row_9 (by decide) ?_
    refine x_ldc2 (v := 2) B iX8_row_1 dX8_row_10 ?_
    obtain ⟨r5, e4, hf⟩ := x_ps hf
    refine x_callS (As := [.long a2.toInt64, .long 0, .long 2]) (st := []) B G (mX8_in (l := l) G.1.2.1  e4) (va_cwS 3 B.2.2.2.2.1 gX8_row_X8_in rfl rfl rfl hdX8_in (x_rm_ok (by omega) (by decide))) rfl rfl (Nat.le_of_ble_eq_true rfl) ⟨Nat.zero_le _, Nat.zero_le _⟩ dX8_row_13 ?_
    refine x_if_eq (tgt := 25) B dX8_row_16 (by decide) (fun h6 => ?_) (fun h6 => ?_)
    · replace hf := x_it h6 hf
      refine x_ldc (v := (-1000001)) B iX8_row_0 dX8_row_25 ?_
      obtain ⟨rfl, rfl⟩ := x_retI hf
      exact x_iret B hr dX8_row_27
    · replace hf := x_if h6 hf
      refine x_iload_n B dX8_row_19 rfl 3 rfl ?_
      refine x_bipush (v := 40) B dX8_row_20 (by decide) ?_
      refine x_icmp_le (tgt := 28) B dX8_row_22 (by decide) (fun h7 => ?_) (fun h7 => ?_)
      · replace hf := x_it h7 hf
        refine x_iload_n B dX8_row_28 rfl 3 rfl ?_
        refine x_if_ge (tgt := 38) B dX8_row_29 (by decide) (fun h8 => ?_) (fun h8 => ?_)
        · replace hf := x_it h8 hf
          refine x_aload_n B dX8_row_38 rfl 0 rfl ?_
          refine x_get (v := .ref (ad 3)) (kc := 0) (index := 17) B G.1 iX8_row_cX8 rfl (by decide) m_c0 4 (by decide) iX8_row_2 rfl dX8_row_39 ?_
          refine x_iload_n B dX8_row_42 rfl 1 rfl ?_
          refine x_iload_n B dX8_row_43 rfl 2 rfl ?_
          obtain ⟨h9, hf⟩ := x_gs hf
          obtain ⟨σ10, u11, hf⟩ := x_ws hf
          refine x_iast (kc := 3) (t0 := 0) B G.1 (by decide) m_c3 rfl h9 dX8_row_44 ?_
          refine x_nm u11 ?_
          refine x_aload_n B dX8_row_45 rfl 0 rfl ?_
          refine x_get (v := .ref (ad 4)) (kc := 0) (index := 20) B G.1 iX8_row_cX8 rfl (by decide) m_c0 5 (by decide) iX8_row_4 rfl dX8_row_46 ?_
          refine x_iload_n B dX8_row_49 rfl 1 rfl ?_
          refine x_iload_n B dX8_row_50 rfl 3 rfl ?_
          obtain ⟨h12, hf⟩ := x_gs hf
          obtain ⟨σ13, u14, hf⟩ := x_ws hf
          refine x_iast (kc := 4) (t0 := 0) B G.1 (by decide) m_c4 rfl h12 dX8_row_51 ?_
          refine x_nm u14 ?_
          refine x_iconst (v := 0) B dX8_row_52 (by decide) ?_
          refine x_istore (lv' := [(4, .int 0), (0, .ref (ad 0)), (1, .int a1), (2, .int a2), (3, .int a3)]) B dX8_row_53 (by decide) rfl ?_
          refine x_sub [1, 2, 4, 0] rfl ?_
          exact kX8_row_55 B G hr hf
        · replace hf := x_if h8 hf
          refine x_aload_n B dX8_row_32 rfl 0 rfl ?_
          refine x_iconst (v := 4) B dX8_row_33 (by decide) ?_
          obtain ⟨r16, σ17, e15, hf⟩ := x_bs hf
          refine x_callV (As := [.int 4]) (st := []) B G (mX8_find (l := l) G.1.2.1  e15) (cwV 1 B.2.2.2.2.1 gX8_row_X8_find rfl rfl rfl hdX8_find (x_rm_ok (by omega) (by decide))) (by decide) m_c0 rfl rfl rfl (Nat.le_of_ble_eq_true rfl) ⟨Nat.zero_le _, Nat.zero_le _⟩ dX8_row_34 ?_
          obtain ⟨rfl, rfl⟩ := x_retI hf
          exact x_iret B hr dX8_row_37
      · replace hf := x_if h7 hf
        refine x_ldc (v := (-1000001)) B iX8_row_0 dX8_row_25 ?_
        obtain ⟨rfl, rfl⟩ := x_retI hf
        exact x_iret B hr dX8_row_27
set_option maxRecDepth 100000 in
set_option maxHeartbeats 4000000 in
theorem mX8_narrow {σ : x_S} {a0 : Int32} {a1 : Int32} (hdis : x_dis m_N ad) (hf : fX8_narrow a0 a1 σ = some r0) : x_NI l yX8_narrow wsX8_narrow 0 D vwCl (s_tys cI cQ cC cZ) m_N (m_C cI cZ ad) ad m_St m_NW [.int a0, .int a1] σ r0 σ := by
  refine x_met (cc := cX8_narrow) (own := RX8) (maxL := 2) (ret := (some .int)) (by decide +kernel) rfl rfl (Nat.le_of_ble_eq_true rfl) hdis m_StOk m_NwOk (fun p e s m args below meth c B G hr => ?_)
  unfold fX8_narrow at hf
  refine x_sub (lv' := [(0, .int a0), (1, .int a1)]) [0, 1] rfl ?_
  refine x_iload_n B dX8_narrow_0 rfl 1 rfl ?_
  refine x_if_ne (tgt := 9) B dX8_narrow_1 (by decide) (fun h1 => ?_) (fun h1 => ?_)
  · replace hf := x_if h1 hf
    refine x_iload_n B dX8_narrow_9 rfl 1 rfl ?_
    refine x_iconst (v := 1) B dX8_narrow_10 (by decide) ?_
    refine x_icmp_ne (tgt := 19) B dX8_narrow_11 (by decide) (fun h2 => ?_) (fun h2 => ?_)
    · replace hf := x_if h2 hf
      refine x_iload_n B dX8_narrow_19 rfl 0 rfl ?_
      obtain rfl := x_retP hf
      exact x_iret B hr dX8_narrow_20
    · replace hf := x_it h2 hf
      refine x_iload_n B dX8_narrow_14 rfl 0 rfl ?_
      refine x_i2s B dX8_narrow_15 ?_
      refine x_goto (tgt := 20) B dX8_narrow_16 (by decide) ?_
      obtain rfl := x_retP hf
      exact x_iret B hr dX8_narrow_20
  · replace hf := x_it h1 hf
    refine x_iload_n B dX8_narrow_4 rfl 0 rfl ?_
    refine x_i2b B dX8_narrow_5 ?_
    refine x_goto (tgt := 20) B dX8_narrow_6 (by decide) ?_
    obtain rfl := x_retP hf
    exact x_iret B hr dX8_narrow_20
theorem iX8_set_0 : Cond.fieldLink RX8 20 "SignDutyModel" "sizes" "[I" ∈ wsX8_set := by decide +kernel
theorem iX8_set_cX8 : ∀ w ∈ u_ws RX8 TX8 17, w ∈ wsX8_set := by decide +kernel
theorem iX8_set_2 : Cond.fieldLink RX8 23 "SignDutyModel" "items" "[I" ∈ wsX8_set := by decide +kernel
theorem iX8_set_3 : Cond.fieldLink RX8 17 "SignDutyModel" "lanes" "[I" ∈ wsX8_set := by decide +kernel
theorem iX8_set_4 : Cond.constant RX8 52 (-1000001) ∈ wsX8_set := by decide +kernel
set_option maxRecDepth 100000 in
set_option maxHeartbeats 4000000 in
theorem mX8_set {σ : x_S} {a1 : Int32} {a2 : Int32} {a3 : Int32} (hdis : x_dis m_N ad) (hf : fX8_set a1 a2 a3 σ = some (r0, σ0)) : x_NI l yX8_set wsX8_set 2 D vwCl (s_tys cI cQ cC cZ) m_N (m_C cI cZ ad) ad m_St m_NW [.ref (ad 0), .int a1, .int a2, .int a3] σ r0 σ0 := by
  refine x_met (cc := cX8_set) (own := RX8) (maxL := 4) (ret := (some .int)) (by decide +kernel) rfl rfl (Nat.le_of_ble_eq_true rfl) hdis m_StOk m_NwOk (fun p e s m args below meth c B G hr => ?_)
  unfold fX8_set at hf
  refine x_sub (lv' := [(0, .ref (ad 0)), (1, .int a1), (2, .int a2), (3, .int a3)]) [0, 1, 2, 3] rfl ?_
  refine x_iload_n B dX8_set_0 rfl 1 rfl ?_
  obtain ⟨r2, e1, hf⟩ := x_ps hf
  refine x_callS (As := [.int a1]) (st := []) B G (mX8_isRow (l := l) G.1.2.1  e1) (va_cwS 1 B.2.2.2.2.1 gX8_set_X8_isRow rfl rfl rfl hdX8_isRow (x_rm_ok (by omega) (by decide))) rfl rfl (Nat.le_of_ble_eq_true rfl) ⟨Nat.zero_le _, Nat.zero_le _⟩ dX8_set_1 ?_
  refine x_if_ne (tgt := 10) B dX8_set_4 (by decide) (fun h3 => ?_) (fun h3 => ?_)
  · replace hf := x_if h3 hf
    refine x_aload_n B dX8_set_10 rfl 0 rfl ?_
    refine x_get (v := .ref (ad 4)) (kc := 0) (index := 20) B G.1 iX8_set_cX8 rfl (by decide) m_c0 5 (by decide) iX8_set_0 rfl dX8_set_11 ?_
    refine x_iload_n B dX8_set_14 rfl 1 rfl ?_
    obtain ⟨h4, hf⟩ := x_gs hf
    refine x_iald (kc := 4) (t0 := 0) B G.1 (by decide) m_c4 rfl h4 dX8_set_15 ?_
    refine x_if_ge (tgt := 25) B dX8_set_16 (by decide) (fun h5 => ?_) (fun h5 => ?_)
    · replace hf := x_it h5 hf
      refine x_iload_n B dX8_set_25 rfl 2 rfl ?_
      refine x_i2l B dX8_set_26 ?_
      refine x_lconst (v := 0) B dX8_set_27 (by decide) ?_
      refine x_aload_n B dX8_set_28 rfl 0 rfl ?_
      refine x_get (v := .ref (ad 4)) (kc := 0) (index := 20) B G.1 iX8_set_cX8 rfl (by decide) m_c0 5 (by decide) iX8_set_0 rfl dX8_set_29 ?_
      refine x_iload_n B dX8_set_32 rfl 1 rfl ?_
      obtain ⟨h6, hf⟩ := x_gs hf
      refine x_iald (kc := 4) (t0 := 0) B G.1 (by decide) m_c4 rfl h6 dX8_set_33 ?_
      refine x_iconst (v := 1) B dX8_set_34 (by decide) ?_
      refine x_isub B dX8_set_35 ?_
      refine x_i2l B dX8_set_36 ?_
      obtain ⟨r8, e7, hf⟩ := x_ps hf
      refine x_callS (As := [.long a2.toInt64, .long 0, .long (((σ 4 a1.toNatClampNeg) - 1).toInt64)]) (st := []) B G (mX8_in (l := l) G.1.2.1  e7) (va_cwS 3 B.2.2.2.2.1 gX8_set_X8_in rfl rfl rfl hdX8_in (x_rm_ok (by omega) (by decide))) rfl rfl (Nat.le_of_ble_eq_true rfl) ⟨Nat.zero_le _, Nat.zero_le _⟩ dX8_set_37 ?_
      refine x_if_ne (tgt := 49) B dX8_set_40 (by decide) (fun h9 => ?_) (fun h9 => ?_)
      · replace hf := x_if h9 hf
        refine x_aload_n B dX8_set_49 rfl 0 rfl ?_
        refine x_get (v := .ref (ad 5)) (kc := 0) (index := 23) B G.1 iX8_set_cX8 rfl (by decide) m_c0 6 (by decide) iX8_set_2 rfl dX8_set_50 ?_
        refine x_bipush (v := 40) B dX8_set_53 (by decide) ?_
        refine x_iload_n B dX8_set_55 rfl 1 rfl ?_
        refine x_imul B dX8_set_56 ?_
        refine x_iload_n B dX8_set_57 rfl 2 rfl ?_
        refine x_iadd B dX8_set_58 ?_
        refine x_iload_n B dX8_set_59 rfl 3 rfl ?_
        refine x_aload_n B dX8_set_60 rfl 0 rfl ?_
        refine x_get (v := .ref (ad 3)) (kc := 0) (index := 17) B G.1 iX8_set_cX8 rfl (by decide) m_c0 4 (by decide) iX8_set_3 rfl dX8_set_61 ?_
        refine x_iload_n B dX8_set_64 rfl 1 rfl ?_
        obtain ⟨h10, hf⟩ := x_gs hf
        refine x_iald (kc := 3) (t0 := 0) B G.1 (by decide) m_c3 rfl h10 dX8_set_65 ?_
        obtain ⟨r12, e11, hf⟩ := x_ps hf
        refine x_callS (As := [.int a3, .int (σ 3 a1.toNatClampNeg)]) (st := [.int ((40 * a1) + a2), .ref (ad 5)]) B G (mX8_narrow (l := l) G.1.2.1  e11) (va_cwS 2 B.2.2.2.2.1 gX8_set_X8_narrow rfl rfl rfl hdX8_narrow (x_rm_ok (by omega) (by decide))) rfl rfl (Nat.le_of_ble_eq_true rfl) ⟨Nat.zero_le _, Nat.zero_le _⟩ dX8_set_66 ?_
        obtain ⟨h13, hf⟩ := x_gs hf
        obtain ⟨σ14, u15, hf⟩ := x_ws hf
        refine x_iast (kc := 5) (t0 := 0) B G.1 (by decide) m_c5 rfl h13 dX8_set_69 ?_
        refine x_nm u15 ?_
        refine x_aload_n B dX8_set_70 rfl 0 rfl ?_
        refine x_aload_n B dX8_set_71 rfl 0 rfl ?_
        refine x_get (v := .ref (ad 5)) (kc := 0) (index := 23) B G.1 iX8_set_cX8 rfl (by decide) m_c0 6 (by decide) iX8_set_2 rfl dX8_set_72 ?_
        refine x_bipush (v := 40) B dX8_set_75 (by decide) ?_
        refine x_iload_n B dX8_set_77 rfl 1 rfl ?_
        refine x_imul B dX8_set_78 ?_
        refine x_iload_n B dX8_set_79 rfl 2 rfl ?_
        refine x_iadd B dX8_set_80 ?_
        obtain ⟨h16, hf⟩ := x_gs hf
        refine x_iald (kc := 5) (t0 := 0) B G.1 (by decide) m_c5 rfl h16 dX8_set_81 ?_
        obtain ⟨r18, σ19, e17, hf⟩ := x_bs hf
        refine x_callV (As := [.int (σ14 5 ((40 * a1) + a2).toNatClampNeg)]) (st := []) B G (mX8_well (l := l) G.1.2.1  e17) (cwV 1 B.2.2.2.2.1 gX8_set_X8_well rfl rfl rfl hdX8_well (x_rm_ok (by omega) (by decide))) (by decide) m_c0 rfl rfl rfl (Nat.le_of_ble_eq_true rfl) ⟨Nat.zero_le _, Nat.zero_le _⟩ dX8_set_82 ?_
        obtain ⟨rfl, rfl⟩ := x_retI hf
        exact x_iret B hr dX8_set_85
      · replace hf := x_it h9 hf
        refine x_aload_n B dX8_set_43 rfl 0 rfl ?_
        refine x_iconst (v := 2) B dX8_set_44 (by decide) ?_
        obtain ⟨r21, σ22, e20, hf⟩ := x_bs hf
        refine x_callV (As := [.int 2]) (st := []) B G (mX8_find (l := l) G.1.2.1  e20) (cwV 1 B.2.2.2.2.1 gX8_set_X8_find rfl rfl rfl hdX8_find (x_rm_ok (by omega) (by decide))) (by decide) m_c0 rfl rfl rfl (Nat.le_of_ble_eq_true rfl) ⟨Nat.zero_le _, Nat.zero_le _⟩ dX8_set_45 ?_
        obtain ⟨rfl, rfl⟩ := x_retI hf
        exact x_iret B hr dX8_set_48
    · replace hf := x_if h5 hf
      refine x_aload_n B dX8_set_19 rfl 0 rfl ?_
      refine x_iconst (v := 1) B dX8_set_20 (by decide) ?_
      obtain ⟨r24, σ25, e23, hf⟩ := x_bs hf
      refine x_callV (As := [.int 1]) (st := []) B G (mX8_find (l := l) G.1.2.1  e23) (cwV 1 B.2.2.2.2.1 gX8_set_X8_find rfl rfl rfl hdX8_find (x_rm_ok (by omega) (by decide))) (by decide) m_c0 rfl rfl rfl (Nat.le_of_ble_eq_true rfl) ⟨Nat.zero_le _, Nat.zero_le _⟩ dX8_set_21 ?_
      obtain ⟨rfl, rfl⟩ := x_retI hf
      exact x_iret B hr dX8_set_24
  · replace hf := x_it h3 hf
    refine x_ldc (v := (-1000001)) B iX8_set_4 dX8_set_7 ?_
    obtain ⟨rfl, rfl⟩ := x_retI hf
    exact x_iret B hr dX8_set_9
theorem iX8_isSpan_0 : Cond.fieldLink RX8 20 "SignDutyModel" "sizes" "[I" ∈ wsX8_isSpan := by decide +kernel
theorem iX8_isSpan_cX8 : ∀ w ∈ u_ws RX8 TX8 17, w ∈ wsX8_isSpan := by decide +kernel
set_option maxRecDepth 100000 in
set_option maxHeartbeats 4000000 in
theorem mX8_isSpan {σ : x_S} {a1 : Int32} {a2 : Int32} {a3 : Int32} (hdis : x_dis m_N ad) (hf : fX8_isSpan a1 a2 a3 σ = some r0) : x_NI l yX8_isSpan wsX8_isSpan 0 D vwCl (s_tys cI cQ cC cZ) m_N (m_C cI cZ ad) ad m_St m_NW [.ref (ad 0), .int a1, .int a2, .int a3] σ r0 σ := by
  refine x_met (cc := cX8_isSpan) (own := RX8) (maxL := 4) (ret := (some .boolean)) (by decide +kernel) rfl rfl (Nat.le_of_ble_eq_true rfl) hdis m_StOk m_NwOk (fun p e s m args below meth c B G hr => ?_)
  unfold fX8_isSpan at hf
  refine x_sub (lv' := [(0, .ref (ad 0)), (1, .int a1), (2, .int a2), (3, .int a3)]) [0, 1, 2, 3] rfl ?_
  refine x_iload_n B dX8_isSpan_0 rfl 2 rfl ?_
  refine x_if_lt (tgt := 28) B dX8_isSpan_1 (by decide) (fun h1 => ?_) (fun h1 => ?_)
  · replace hf := x_it h1 hf
    refine x_iconst (v := 0) B dX8_isSpan_28 (by decide) ?_
    obtain rfl := x_retP hf
    exact x_zret B hr (by decide) dX8_isSpan_29
  · replace hf := x_if h1 hf
    refine x_iload_n B dX8_isSpan_4 rfl 3 rfl ?_
    refine x_if_lt (tgt := 28) B dX8_isSpan_5 (by decide) (fun h2 => ?_) (fun h2 => ?_)
    · replace hf := x_it h2 hf
      refine x_iconst (v := 0) B dX8_isSpan_28 (by decide) ?_
      obtain rfl := x_retP hf
      exact x_zret B hr (by decide) dX8_isSpan_29
    · replace hf := x_if h2 hf
      refine x_iload_n B dX8_isSpan_8 rfl 2 rfl ?_
      refine x_i2l B dX8_isSpan_9 ?_
      refine x_iload_n B dX8_isSpan_10 rfl 3 rfl ?_
      refine x_i2l B dX8_isSpan_11 ?_
      refine x_ladd B dX8_isSpan_12 ?_
      refine x_aload_n B dX8_isSpan_13 rfl 0 rfl ?_
      refine x_get (v := .ref (ad 4)) (kc := 0) (index := 20) B G.1 iX8_isSpan_cX8 rfl (by decide) m_c0 5 (by decide) iX8_isSpan_0 rfl dX8_isSpan_14 ?_
      refine x_iload_n B dX8_isSpan_17 rfl 1 rfl ?_
      obtain ⟨h3, hf⟩ := x_gs hf
      refine x_iald (kc := 4) (t0 := 0) B G.1 (by decide) m_c4 rfl h3 dX8_isSpan_18 ?_
      refine x_i2l B dX8_isSpan_19 ?_
      refine x_lcmp B dX8_isSpan_20 ?_
      refine x_if_gt (tgt := 28) B dX8_isSpan_21 (by decide) (fun h4 => ?_) (fun h4 => ?_)
      · replace hf := x_it h4 hf
        refine x_iconst (v := 0) B dX8_isSpan_28 (by decide) ?_
        obtain rfl := x_retP hf
        exact x_zret B hr (by decide) dX8_isSpan_29
      · replace hf := x_if h4 hf
        refine x_iconst (v := 1) B dX8_isSpan_24 (by decide) ?_
        refine x_goto (tgt := 29) B dX8_isSpan_25 (by decide) ?_
        obtain rfl := x_retP hf
        exact x_zret B hr (by decide) dX8_isSpan_29
theorem iX8_copy_0 : Cond.constant RX8 52 (-1000001) ∈ wsX8_copy := by decide +kernel
theorem iX8_copy_1 : Cond.fieldLink RX8 20 "SignDutyModel" "sizes" "[I" ∈ wsX8_copy := by decide +kernel
theorem iX8_copy_cX8 : ∀ w ∈ u_ws RX8 TX8 17, w ∈ wsX8_copy := by decide +kernel
theorem iX8_copy_3 : Cond.fieldLink RX8 17 "SignDutyModel" "lanes" "[I" ∈ wsX8_copy := by decide +kernel
theorem iX8_copy_4 : Cond.fieldLink RX8 23 "SignDutyModel" "items" "[I" ∈ wsX8_copy := by decide +kernel
set_option maxRecDepth 100000 in
set_option maxHeartbeats 4000000 in
theorem kX8_copy_35 {σ : x_S} (B : x_B p s m args meth c cX8_copy 9 wsX8_copy RX8) (G : x_H s D vwCl (s_tys cI cQ cC cZ) m_N ad (x_A m_N ad) m_St m_NW) (hr : meth.sig.returnType = (some .int)) (hf : bX8_copy_35   σ = some (r0, σ0)) : x_J p l e (x_rm 2) s m args below meth c 0 0 (MQ below (x_Qi D vwCl m_N (m_C cI cZ ad) ad r0 σ0) args s 0 0 (x_A m_N ad)) (x_A m_N ad) 9 (x_I D vwCl m_N (m_C cI cZ ad) ad σ) [(0, .ref (ad 0))] [] 35 := by
  unfold bX8_copy_35 at hf
  refine x_aload_n B dX8_copy_35 rfl 0 rfl ?_
  refine x_iconst (v := 1) B dX8_copy_36 (by decide) ?_
  obtain ⟨r2, σ3, e1, hf⟩ := x_bs hf
  refine x_callV (As := [.int 1]) (st := []) B G (mX8_find (l := l) G.1.2.1  e1) (cwV 1 B.2.2.2.2.1 gX8_copy_X8_find rfl rfl rfl hdX8_find (x_rm_ok (by omega) (by decide))) (by decide) m_c0 rfl rfl rfl (Nat.le_of_ble_eq_true rfl) ⟨Nat.zero_le _, Nat.zero_le _⟩ dX8_copy_37 ?_
  obtain ⟨rfl, rfl⟩ := x_retI hf
  exact x_iret B hr dX8_copy_40
set_option maxRecDepth 100000 in
set_option maxHeartbeats 4000000 in
theorem kX8_copy_85 {σ : x_S} (B : x_B p s m args meth c cX8_copy 9 wsX8_copy RX8) (G : x_H s D vwCl (s_tys cI cQ cC cZ) m_N ad (x_A m_N ad) m_St m_NW) (hr : meth.sig.returnType = (some .int)) (hf : bX8_copy_85   σ = some (r0, σ0)) : x_J p l e (x_rm 2) s m args below meth c 0 0 (MQ below (x_Qi D vwCl m_N (m_C cI cZ ad) ad r0 σ0) args s 0 0 (x_A m_N ad)) (x_A m_N ad) 9 (x_I D vwCl m_N (m_C cI cZ ad) ad σ) [(0, .ref (ad 0))] [] 85 := by
  unfold bX8_copy_85 at hf
  refine x_aload_n B dX8_copy_85 rfl 0 rfl ?_
  refine x_iconst (v := 2) B dX8_copy_86 (by decide) ?_
  obtain ⟨r2, σ3, e1, hf⟩ := x_bs hf
  refine x_callV (As := [.int 2]) (st := []) B G (mX8_find (l := l) G.1.2.1  e1) (cwV 1 B.2.2.2.2.1 gX8_copy_X8_find rfl rfl rfl hdX8_find (x_rm_ok (by omega) (by decide))) (by decide) m_c0 rfl rfl rfl (Nat.le_of_ble_eq_true rfl) ⟨Nat.zero_le _, Nat.zero_le _⟩ dX8_copy_87 ?_
  obtain ⟨rfl, rfl⟩ := x_retI hf
  exact x_iret B hr dX8_copy_90
set_option maxRecDepth 100000 in
set_option maxHeartbeats 4000000 in
theorem kX8_copy_131 {σ : x_S} {K107 : Int32 → x_S → Option (Int32 × x_S)} {x1 : Int32} {x2 : Int32} {x3 : Int32} {x4 : Int32} {x5 : Int32} {x6 : Int32} {x7 : Int32} {y0 : Int32} (B : x_B p s m args meth c cX8_copy 9 wsX8_copy RX8) (G : x_H s D vwCl (s_tys cI cQ cC cZ) m_N ad (x_A m_N ad) m_St m_NW) (hr : meth.sig.returnType = (some .int)) (hK107 : ∀ (x7 : Int32) (σ : x_S), K107 x7 σ = some (r0, σ0) → x_J p l e (x_rm 2) s m args below meth c 0 0 (MQ below (x_Qi D vwCl m_N (m_C cI cZ ad) ad r0 σ0) args s 0 0 (x_A m_N ad)) (x_A m_N ad) 9 (x_I D vwCl m_N (m_C cI cZ ad) ad σ) [(0, .ref (ad 0)), (1, .int x1), (2, .int x2), (3, .int x3), (4, .int x4), (5, .int x5), (6, .int x6), (7, .int x7)] [] 107) (hf : bX8_copy_131 K107 x1 x2 x3 x4 x5 x6 x7 y0 σ = some (r0, σ0)) : x_J p l e (x_rm 2) s m args below meth c 0 0 (MQ below (x_Qi D vwCl m_N (m_C cI cZ ad) ad r0 σ0) args s 0 0 (x_A m_N ad)) (x_A m_N ad) 9 (x_I D vwCl m_N (m_C cI cZ ad) ad σ) [(0, .ref (ad 0)), (1, .int x1), (2, .int x2), (3, .int x3), (4, .int x4), (5, .int x5), (6, .int x6), (7, .int x7)] [.int y0] 131 := by
  unfold bX8_copy_131 at hf
  refine x_istore (lv' := [(8, .int y0), (0, .ref (ad 0)), (1, .int x1), (2, .int x2), (3, .int x3), (4, .int x4), (5, .int x5), (6, .int x6), (7, .int x7)]) B dX8_copy_131 (by decide) rfl ?_
  refine x_aload_n B dX8_copy_133 rfl 1 rfl ?_
  refine x_get (v := .ref (ad 5)) (kc := 0) (index := 23) B G.1 iX8_copy_cX8 rfl (by decide) m_c0 6 (by decide) iX8_copy_4 rfl dX8_copy_134 ?_
  refine x_bipush (v := 40) B dX8_copy_137 (by decide) ?_
  refine x_iload_n B dX8_copy_139 rfl 4 rfl ?_
  refine x_imul B dX8_copy_140 ?_
  refine x_iload B dX8_copy_141 5 rfl ?_
  refine x_iadd B dX8_copy_143 ?_
  refine x_iload B dX8_copy_144 0 rfl ?_
  refine x_iadd B dX8_copy_146 ?_
  refine x_aload_n B dX8_copy_147 rfl 1 rfl ?_
  refine x_get (v := .ref (ad 5)) (kc := 0) (index := 23) B G.1 iX8_copy_cX8 rfl (by decide) m_c0 6 (by decide) iX8_copy_4 rfl dX8_copy_148 ?_
  refine x_bipush (v := 40) B dX8_copy_151 (by decide) ?_
  refine x_iload_n B dX8_copy_153 rfl 2 rfl ?_
  refine x_imul B dX8_copy_154 ?_
  refine x_iload_n B dX8_copy_155 rfl 3 rfl ?_
  refine x_iadd B dX8_copy_156 ?_
  refine x_iload B dX8_copy_157 0 rfl ?_
  refine x_iadd B dX8_copy_159 ?_
  obtain ⟨h1, hf⟩ := x_gs hf
  refine x_iald (kc := 5) (t0 := 0) B G.1 (by decide) m_c5 rfl h1 dX8_copy_160 ?_
  obtain ⟨h2, hf⟩ := x_gs hf
  obtain ⟨σ3, u4, hf⟩ := x_ws hf
  refine x_iast (kc := 5) (t0 := 0) B G.1 (by decide) m_c5 rfl h2 dX8_copy_161 ?_
  refine x_nm u4 ?_
  refine x_iinc (v := (x7 + 1)) (lv' := [(7, .int (x7 + 1)), (8, .int y0), (0, .ref (ad 0)), (1, .int x1), (2, .int x2), (3, .int x3), (4, .int x4), (5, .int x5), (6, .int x6)]) B dX8_copy_162 8 rfl rfl (by decide) rfl ?_
  refine x_goto (tgt := 107) B dX8_copy_165 (by decide) ?_
  refine x_sub [2, 3, 4, 5, 6, 7, 8, 0] rfl ?_
  exact hK107 _ _ hf
set_option maxRecDepth 100000 in
set_option maxHeartbeats 4000000 in
theorem qX8_copy_107 {σ : x_S} {x1 : Int32} {x2 : Int32} {x3 : Int32} {x4 : Int32} {x5 : Int32} {x6 : Int32} {x7 : Int32} {K107 : Int32 → x_S → Option (Int32 × x_S)} (B : x_B p s m args meth c cX8_copy 9 wsX8_copy RX8) (G : x_H s D vwCl (s_tys cI cQ cC cZ) m_N ad (x_A m_N ad) m_St m_NW) (hr : meth.sig.returnType = (some .int)) (hK107 : ∀ (x7 : Int32) (σ : x_S), K107 x7 σ = some (r0, σ0) → x_J p l e (x_rm 2) s m args below meth c 0 0 (MQ below (x_Qi D vwCl m_N (m_C cI cZ ad) ad r0 σ0) args s 0 0 (x_A m_N ad)) (x_A m_N ad) 9 (x_I D vwCl m_N (m_C cI cZ ad) ad σ) [(0, .ref (ad 0)), (1, .int x1), (2, .int x2), (3, .int x3), (4, .int x4), (5, .int x5), (6, .int x6), (7, .int x7)] [] 107) (hf : gX8_copy_107  x1 x2 x3 x4 x5 x6 K107 x7 σ = some (r0, σ0)) : x_J p l e (x_rm 2) s m args below meth c 0 0 (MQ below (x_Qi D vwCl m_N (m_C cI cZ ad) ad r0 σ0) args s 0 0 (x_A m_N ad)) (x_A m_N ad) 9 (x_I D vwCl m_N (m_C cI cZ ad) ad σ) [(0, .ref (ad 0)), (1, .int x1), (2, .int x2), (3, .int x3), (4, .int x4), (5, .int x5), (6, .int x6), (7, .int x7)] [] 107 := by
  unfold gX8_copy_107 at hf
  refine x_iload B dX8_copy_107 7 rfl ?_
  refine x_iload B dX8_copy_109 5 rfl ?_
  refine x_icmp_ge (tgt := 168) B dX8_copy_111 (by decide) (fun h1 => ?_) (fun h1 => ?_)
  · replace hf := x_it h1 hf
    refine x_aload_n B dX8_copy_168 rfl 0 rfl ?_
    refine x_iload B dX8_copy_169 5 rfl ?_
    obtain ⟨r3, σ4, e2, hf⟩ := x_bs hf
    refine x_callV (As := [.int x5]) (st := []) B G (mX8_well (l := l) G.1.2.1  e2) (cwV 1 B.2.2.2.2.1 gX8_copy_X8_well rfl rfl rfl hdX8_well (x_rm_ok (by omega) (by decide))) (by decide) m_c0 rfl rfl rfl (Nat.le_of_ble_eq_true rfl) ⟨Nat.zero_le _, Nat.zero_le _⟩ dX8_copy_171 ?_
    obtain ⟨rfl, rfl⟩ := x_retI hf
    exact x_iret B hr dX8_copy_174
  · replace hf := x_if h1 hf
    refine x_iload B dX8_copy_114 6 rfl ?_
    refine x_if_eq (tgt := 129) B dX8_copy_116 (by decide) (fun h5 => ?_) (fun h5 => ?_)
    · replace hf := x_it h5 hf
      refine x_iload B dX8_copy_129 7 rfl ?_
      refine x_sub [0, 1, 2, 3, 4, 5, 6, 7] rfl ?_
      exact kX8_copy_131 B G hr hK107 hf
    · replace hf := x_if h5 hf
      refine x_iload B dX8_copy_119 5 rfl ?_
      refine x_iconst (v := 1) B dX8_copy_121 (by decide) ?_
      refine x_isub B dX8_copy_122 ?_
      refine x_iload B dX8_copy_123 7 rfl ?_
      refine x_isub B dX8_copy_125 ?_
      refine x_goto (tgt := 131) B dX8_copy_126 (by decide) ?_
      refine x_sub [0, 1, 2, 3, 4, 5, 6, 7] rfl ?_
      exact kX8_copy_131 B G hr hK107 hf
set_option maxRecDepth 100000 in
set_option maxHeartbeats 4000000 in
theorem kX8_copy_107 {σ : x_S} {x1 : Int32} {x2 : Int32} {x3 : Int32} {x4 : Int32} {x5 : Int32} {x6 : Int32} {x7 : Int32} (B : x_B p s m args meth c cX8_copy 9 wsX8_copy RX8) (G : x_H s D vwCl (s_tys cI cQ cC cZ) m_N ad (x_A m_N ad) m_St m_NW) (hr : meth.sig.returnType = (some .int)) (hf : bX8_copy_107  x1 x2 x3 x4 x5 x6 x7 σ = some (r0, σ0)) : x_J p l e (x_rm 2) s m args below meth c 0 0 (MQ below (x_Qi D vwCl m_N (m_C cI cZ ad) ad r0 σ0) args s 0 0 (x_A m_N ad)) (x_A m_N ad) 9 (x_I D vwCl m_N (m_C cI cZ ad) ad σ) [(0, .ref (ad 0)), (1, .int x1), (2, .int x2), (3, .int x3), (4, .int x4), (5, .int x5), (6, .int x6), (7, .int x7)] [] 107 := by
  have key : ∀ (n : Nat) (x7 : Int32) (σ : x_S), x_fx (α := Int32 → x_S → Option (Int32 × x_S)) (fun _ _ => none) (fun K => fun x7 σ => gX8_copy_107  x1 x2 x3 x4 x5 x6 K x7 σ) n x7 σ = some (r0, σ0) → x_J p l e (x_rm 2) s m args below meth c 0 0 (MQ below (x_Qi D vwCl m_N (m_C cI cZ ad) ad r0 σ0) args s 0 0 (x_A m_N ad)) (x_A m_N ad) 9 (x_I D vwCl m_N (m_C cI cZ ad) ad σ) [(0, .ref (ad 0)), (1, .int x1), (2, .int x2), (3, .int x3), (4, .int x4), (5, .int x5), (6, .int x6), (7, .int x7)] [] 107 := by
    intro n
    induction n with
    | zero => intro x7 σ h; cases h
    | succ n ih => intro x7 σ h; exact qX8_copy_107 B G hr  ih  h
  exact key x_F x7 σ hf
set_option maxRecDepth 100000 in
set_option maxHeartbeats 4000000 in
theorem mX8_copy {σ : x_S} {a1 : Int32} {a2 : Int32} {a3 : Int32} {a4 : Int32} {a5 : Int32} (hdis : x_dis m_N ad) (hf : fX8_copy a1 a2 a3 a4 a5 σ = some (r0, σ0)) : x_NI l yX8_copy wsX8_copy 2 D vwCl (s_tys cI cQ cC cZ) m_N (m_C cI cZ ad) ad m_St m_NW [.ref (ad 0), .int a1, .int a2, .int a3, .int a4, .int a5] σ r0 σ0 := by
  refine x_met (cc := cX8_copy) (own := RX8) (maxL := 9) (ret := (some .int)) (by decide +kernel) rfl rfl (Nat.le_of_ble_eq_true rfl) hdis m_StOk m_NwOk (fun p e s m args below meth c B G hr => ?_)
  unfold fX8_copy at hf
  refine x_sub (lv' := [(0, .ref (ad 0)), (1, .int a1), (2, .int a2), (3, .int a3), (4, .int a4), (5, .int a5)]) [0, 1, 2, 3, 4, 5] rfl ?_
  refine x_iload_n B dX8_copy_0 rfl 1 rfl ?_
  obtain ⟨r2, e1, hf⟩ := x_ps hf
  refine x_callS (As := [.int a1]) (st := []) B G (mX8_isRow (l := l) G.1.2.1  e1) (va_cwS 1 B.2.2.2.2.1 gX8_copy_X8_isRow rfl rfl rfl hdX8_isRow (x_rm_ok (by omega) (by decide))) rfl rfl (Nat.le_of_ble_eq_true rfl) ⟨Nat.zero_le _, Nat.zero_le _⟩ dX8_copy_1 ?_
  refine x_if_eq (tgt := 14) B dX8_copy_4 (by decide) (fun h3 => ?_) (fun h3 => ?_)
  · replace hf := x_it h3 hf
    refine x_ldc (v := (-1000001)) B iX8_copy_0 dX8_copy_14 ?_
    obtain ⟨rfl, rfl⟩ := x_retI hf
    exact x_iret B hr dX8_copy_16
  · replace hf := x_if h3 hf
    refine x_iload_n B dX8_copy_7 rfl 3 rfl ?_
    obtain ⟨r5, e4, hf⟩ := x_ps hf
    refine x_callS (As := [.int a3]) (st := []) B G (mX8_isRow (l := l) G.1.2.1  e4) (va_cwS 1 B.2.2.2.2.1 gX8_copy_X8_isRow rfl rfl rfl hdX8_isRow (x_rm_ok (by omega) (by decide))) rfl rfl (Nat.le_of_ble_eq_true rfl) ⟨Nat.zero_le _, Nat.zero_le _⟩ dX8_copy_8 ?_
    refine x_if_ne (tgt := 17) B dX8_copy_11 (by decide) (fun h6 => ?_) (fun h6 => ?_)
    · replace hf := x_if h6 hf
      refine x_aload_n B dX8_copy_17 rfl 0 rfl ?_
      refine x_get (v := .ref (ad 4)) (kc := 0) (index := 20) B G.1 iX8_copy_cX8 rfl (by decide) m_c0 5 (by decide) iX8_copy_1 rfl dX8_copy_18 ?_
      refine x_iload_n B dX8_copy_21 rfl 1 rfl ?_
      obtain ⟨h7, hf⟩ := x_gs hf
      refine x_iald (kc := 4) (t0 := 0) B G.1 (by decide) m_c4 rfl h7 dX8_copy_22 ?_
      refine x_if_lt (tgt := 35) B dX8_copy_23 (by decide) (fun h8 => ?_) (fun h8 => ?_)
      · replace hf := x_it h8 hf
        refine x_sub [0] rfl ?_
        exact kX8_copy_35 B G hr hf
      · replace hf := x_if h8 hf
        refine x_aload_n B dX8_copy_26 rfl 0 rfl ?_
        refine x_get (v := .ref (ad 4)) (kc := 0) (index := 20) B G.1 iX8_copy_cX8 rfl (by decide) m_c0 5 (by decide) iX8_copy_1 rfl dX8_copy_27 ?_
        refine x_iload_n B dX8_copy_30 rfl 3 rfl ?_
        obtain ⟨h9, hf⟩ := x_gs hf
        refine x_iald (kc := 4) (t0 := 0) B G.1 (by decide) m_c4 rfl h9 dX8_copy_31 ?_
        refine x_if_ge (tgt := 41) B dX8_copy_32 (by decide) (fun h10 => ?_) (fun h10 => ?_)
        · replace hf := x_it h10 hf
          refine x_aload_n B dX8_copy_41 rfl 0 rfl ?_
          refine x_get (v := .ref (ad 3)) (kc := 0) (index := 17) B G.1 iX8_copy_cX8 rfl (by decide) m_c0 4 (by decide) iX8_copy_3 rfl dX8_copy_42 ?_
          refine x_iload_n B dX8_copy_45 rfl 1 rfl ?_
          obtain ⟨h11, hf⟩ := x_gs hf
          refine x_iald (kc := 3) (t0 := 0) B G.1 (by decide) m_c3 rfl h11 dX8_copy_46 ?_
          refine x_aload_n B dX8_copy_47 rfl 0 rfl ?_
          refine x_get (v := .ref (ad 3)) (kc := 0) (index := 17) B G.1 iX8_copy_cX8 rfl (by decide) m_c0 4 (by decide) iX8_copy_3 rfl dX8_copy_48 ?_
          refine x_iload_n B dX8_copy_51 rfl 3 rfl ?_
          obtain ⟨h12, hf⟩ := x_gs hf
          refine x_iald (kc := 3) (t0 := 0) B G.1 (by decide) m_c3 rfl h12 dX8_copy_52 ?_
          refine x_icmp_eq (tgt := 62) B dX8_copy_53 (by decide) (fun h13 => ?_) (fun h13 => ?_)
          · replace hf := x_it h13 hf
            refine x_aload_n B dX8_copy_62 rfl 0 rfl ?_
            refine x_iload_n B dX8_copy_63 rfl 1 rfl ?_
            refine x_iload_n B dX8_copy_64 rfl 2 rfl ?_
            refine x_iload B dX8_copy_65 5 rfl ?_
            obtain ⟨r15, e14, hf⟩ := x_ps hf
            refine x_callV (As := [.int a1, .int a2, .int a5]) (st := []) B G (mX8_isSpan (l := l) G.1.2.1  e14) (cwV 3 B.2.2.2.2.1 gX8_copy_X8_isSpan rfl rfl rfl hdX8_isSpan (x_rm_ok (by omega) (by decide))) (by decide) m_c0 rfl rfl rfl (Nat.le_of_ble_eq_true rfl) ⟨Nat.zero_le _, Nat.zero_le _⟩ dX8_copy_67 ?_
            refine x_if_eq (tgt := 85) B dX8_copy_70 (by decide) (fun h16 => ?_) (fun h16 => ?_)
            · replace hf := x_it h16 hf
              refine x_sub [0] rfl ?_
              exact kX8_copy_85 B G hr hf
            · replace hf := x_if h16 hf
              refine x_aload_n B dX8_copy_73 rfl 0 rfl ?_
              refine x_iload_n B dX8_copy_74 rfl 3 rfl ?_
              refine x_iload B dX8_copy_75 4 rfl ?_
              refine x_iload B dX8_copy_77 5 rfl ?_
              obtain ⟨r18, e17, hf⟩ := x_ps hf
              refine x_callV (As := [.int a3, .int a4, .int a5]) (st := []) B G (mX8_isSpan (l := l) G.1.2.1  e17) (cwV 3 B.2.2.2.2.1 gX8_copy_X8_isSpan rfl rfl rfl hdX8_isSpan (x_rm_ok (by omega) (by decide))) (by decide) m_c0 rfl rfl rfl (Nat.le_of_ble_eq_true rfl) ⟨Nat.zero_le _, Nat.zero_le _⟩ dX8_copy_79 ?_
              refine x_if_ne (tgt := 91) B dX8_copy_82 (by decide) (fun h19 => ?_) (fun h19 => ?_)
              · replace hf := x_if h19 hf
                refine x_iload_n B dX8_copy_91 rfl 2 rfl ?_
                refine x_iload B dX8_copy_92 4 rfl ?_
                refine x_icmp_ge (tgt := 101) B dX8_copy_94 (by decide) (fun h20 => ?_) (fun h20 => ?_)
                · replace hf := x_it h20 hf
                  refine x_iconst (v := 0) B dX8_copy_101 (by decide) ?_
                  refine x_istore (lv' := [(6, .int 0), (0, .ref (ad 0)), (1, .int a1), (2, .int a2), (3, .int a3), (4, .int a4), (5, .int a5)]) B dX8_copy_102 (by decide) rfl ?_
                  refine x_iconst (v := 0) B dX8_copy_104 (by decide) ?_
                  refine x_istore (lv' := [(7, .int 0), (6, .int 0), (0, .ref (ad 0)), (1, .int a1), (2, .int a2), (3, .int a3), (4, .int a4), (5, .int a5)]) B dX8_copy_105 (by decide) rfl ?_
                  refine x_sub [2, 3, 4, 5, 6, 7, 1, 0] rfl ?_
                  exact kX8_copy_107 B G hr hf
                · replace hf := x_if h20 hf
                  refine x_iconst (v := 1) B dX8_copy_97 (by decide) ?_
                  refine x_goto (tgt := 102) B dX8_copy_98 (by decide) ?_
                  refine x_istore (lv' := [(6, .int 1), (0, .ref (ad 0)), (1, .int a1), (2, .int a2), (3, .int a3), (4, .int a4), (5, .int a5)]) B dX8_copy_102 (by decide) rfl ?_
                  refine x_iconst (v := 0) B dX8_copy_104 (by decide) ?_
                  refine x_istore (lv' := [(7, .int 0), (6, .int 1), (0, .ref (ad 0)), (1, .int a1), (2, .int a2), (3, .int a3), (4, .int a4), (5, .int a5)]) B dX8_copy_105 (by decide) rfl ?_
                  refine x_sub [2, 3, 4, 5, 6, 7, 1, 0] rfl ?_
                  exact kX8_copy_107 B G hr hf
              · replace hf := x_it h19 hf
                refine x_sub [0] rfl ?_
                exact kX8_copy_85 B G hr hf
          · replace hf := x_if h13 hf
            refine x_aload_n B dX8_copy_56 rfl 0 rfl ?_
            refine x_iconst (v := 5) B dX8_copy_57 (by decide) ?_
            obtain ⟨r22, σ23, e21, hf⟩ := x_bs hf
            refine x_callV (As := [.int 5]) (st := []) B G (mX8_find (l := l) G.1.2.1  e21) (cwV 1 B.2.2.2.2.1 gX8_copy_X8_find rfl rfl rfl hdX8_find (x_rm_ok (by omega) (by decide))) (by decide) m_c0 rfl rfl rfl (Nat.le_of_ble_eq_true rfl) ⟨Nat.zero_le _, Nat.zero_le _⟩ dX8_copy_58 ?_
            obtain ⟨rfl, rfl⟩ := x_retI hf
            exact x_iret B hr dX8_copy_61
        · replace hf := x_if h10 hf
          refine x_sub [0] rfl ?_
          exact kX8_copy_35 B G hr hf
    · replace hf := x_it h6 hf
      refine x_ldc (v := (-1000001)) B iX8_copy_0 dX8_copy_14 ?_
      obtain ⟨rfl, rfl⟩ := x_retI hf
      exact x_iret B hr dX8_copy_16
theorem iX8_drop_0 : Cond.fieldLink RX8 20 "SignDutyModel" "sizes" "[I" ∈ wsX8_drop := by decide +kernel
theorem iX8_drop_cX8 : ∀ w ∈ u_ws RX8 TX8 17, w ∈ wsX8_drop := by decide +kernel
theorem iX8_drop_2 : Cond.constant RX8 52 (-1000001) ∈ wsX8_drop := by decide +kernel
set_option maxRecDepth 100000 in
set_option maxHeartbeats 4000000 in
theorem mX8_drop {σ : x_S} {a1 : Int32} (hdis : x_dis m_N ad) (hf : fX8_drop a1 σ = some (r0, σ0)) : x_NI l yX8_drop wsX8_drop 2 D vwCl (s_tys cI cQ cC cZ) m_N (m_C cI cZ ad) ad m_St m_NW [.ref (ad 0), .int a1] σ r0 σ0 := by
  refine x_met (cc := cX8_drop) (own := RX8) (maxL := 3) (ret := (some .int)) (by decide +kernel) rfl rfl (Nat.le_of_ble_eq_true rfl) hdis m_StOk m_NwOk (fun p e s m args below meth c B G hr => ?_)
  unfold fX8_drop at hf
  refine x_sub (lv' := [(0, .ref (ad 0)), (1, .int a1)]) [0, 1] rfl ?_
  refine x_iload_n B dX8_drop_0 rfl 1 rfl ?_
  obtain ⟨r2, e1, hf⟩ := x_ps hf
  refine x_callS (As := [.int a1]) (st := []) B G (mX8_isRow (l := l) G.1.2.1  e1) (va_cwS 1 B.2.2.2.2.1 gX8_drop_X8_isRow rfl rfl rfl hdX8_isRow (x_rm_ok (by omega) (by decide))) rfl rfl (Nat.le_of_ble_eq_true rfl) ⟨Nat.zero_le _, Nat.zero_le _⟩ dX8_drop_1 ?_
  refine x_if_ne (tgt := 10) B dX8_drop_4 (by decide) (fun h3 => ?_) (fun h3 => ?_)
  · replace hf := x_if h3 hf
    refine x_aload_n B dX8_drop_10 rfl 0 rfl ?_
    refine x_get (v := .ref (ad 4)) (kc := 0) (index := 20) B G.1 iX8_drop_cX8 rfl (by decide) m_c0 5 (by decide) iX8_drop_0 rfl dX8_drop_11 ?_
    refine x_iload_n B dX8_drop_14 rfl 1 rfl ?_
    obtain ⟨h4, hf⟩ := x_gs hf
    refine x_iald (kc := 4) (t0 := 0) B G.1 (by decide) m_c4 rfl h4 dX8_drop_15 ?_
    refine x_if_ge (tgt := 25) B dX8_drop_16 (by decide) (fun h5 => ?_) (fun h5 => ?_)
    · replace hf := x_it h5 hf
      refine x_aload_n B dX8_drop_25 rfl 0 rfl ?_
      refine x_get (v := .ref (ad 4)) (kc := 0) (index := 20) B G.1 iX8_drop_cX8 rfl (by decide) m_c0 5 (by decide) iX8_drop_0 rfl dX8_drop_26 ?_
      refine x_iload_n B dX8_drop_29 rfl 1 rfl ?_
      obtain ⟨h6, hf⟩ := x_gs hf
      refine x_iald (kc := 4) (t0 := 0) B G.1 (by decide) m_c4 rfl h6 dX8_drop_30 ?_
      refine x_istore_n (lv' := [(2, .int (σ 4 a1.toNatClampNeg)), (0, .ref (ad 0)), (1, .int a1)]) B dX8_drop_31 rfl (by decide) rfl ?_
      refine x_aload_n B dX8_drop_32 rfl 1 rfl ?_
      refine x_get (v := .ref (ad 4)) (kc := 0) (index := 20) B G.1 iX8_drop_cX8 rfl (by decide) m_c0 5 (by decide) iX8_drop_0 rfl dX8_drop_33 ?_
      refine x_iload_n B dX8_drop_36 rfl 2 rfl ?_
      refine x_iconst (v := (-1)) B dX8_drop_37 (by decide) ?_
      obtain ⟨h7, hf⟩ := x_gs hf
      obtain ⟨σ8, u9, hf⟩ := x_ws hf
      refine x_iast (kc := 4) (t0 := 0) B G.1 (by decide) m_c4 rfl h7 dX8_drop_38 ?_
      refine x_nm u9 ?_
      refine x_aload_n B dX8_drop_39 rfl 1 rfl ?_
      refine x_iload_n B dX8_drop_40 rfl 0 rfl ?_
      obtain ⟨r11, σ12, e10, hf⟩ := x_bs hf
      refine x_callV (As := [.int (σ 4 a1.toNatClampNeg)]) (st := []) B G (mX8_well (l := l) G.1.2.1  e10) (cwV 1 B.2.2.2.2.1 gX8_drop_X8_well rfl rfl rfl hdX8_well (x_rm_ok (by omega) (by decide))) (by decide) m_c0 rfl rfl rfl (Nat.le_of_ble_eq_true rfl) ⟨Nat.zero_le _, Nat.zero_le _⟩ dX8_drop_41 ?_
      obtain ⟨rfl, rfl⟩ := x_retI hf
      exact x_iret B hr dX8_drop_44
    · replace hf := x_if h5 hf
      refine x_aload_n B dX8_drop_19 rfl 0 rfl ?_
      refine x_iconst (v := 1) B dX8_drop_20 (by decide) ?_
      obtain ⟨r14, σ15, e13, hf⟩ := x_bs hf
      refine x_callV (As := [.int 1]) (st := []) B G (mX8_find (l := l) G.1.2.1  e13) (cwV 1 B.2.2.2.2.1 gX8_drop_X8_find rfl rfl rfl hdX8_find (x_rm_ok (by omega) (by decide))) (by decide) m_c0 rfl rfl rfl (Nat.le_of_ble_eq_true rfl) ⟨Nat.zero_le _, Nat.zero_le _⟩ dX8_drop_21 ?_
      obtain ⟨rfl, rfl⟩ := x_retI hf
      exact x_iret B hr dX8_drop_24
  · replace hf := x_it h3 hf
    refine x_ldc (v := (-1000001)) B iX8_drop_2 dX8_drop_7 ?_
    obtain ⟨rfl, rfl⟩ := x_retI hf
    exact x_iret B hr dX8_drop_9
theorem iX8_feed_0 : Cond.constantLong RX8 68 255 ∈ wsX8_feed := by decide +kernel
theorem iX8_feed_1 : Cond.fieldLink RX8 70 "SignDutyModel" "length" "I" ∈ wsX8_feed := by decide +kernel
theorem iX8_feed_cX8 : ∀ w ∈ u_ws RX8 TX8 17, w ∈ wsX8_feed := by decide +kernel
theorem iX8_feed_3 : Cond.fieldLink RX8 26 "SignDutyModel" "tape" "[I" ∈ wsX8_feed := by decide +kernel
theorem iX8_feed_4 : Cond.constant RX8 73 (-1000003) ∈ wsX8_feed := by decide +kernel
theorem iX8_feed_5 : Cond.constant RX8 52 (-1000001) ∈ wsX8_feed := by decide +kernel
set_option maxRecDepth 100000 in
set_option maxHeartbeats 4000000 in
theorem mX8_feed {σ : x_S} {a1 : Int32} (hdis : x_dis m_N ad) (hf : fX8_feed a1 σ = some (r0, σ0)) : x_NI l yX8_feed wsX8_feed 1 D vwCl (s_tys cI cQ cC cZ) m_N (m_C cI cZ ad) ad m_St m_NW [.ref (ad 0), .int a1] σ r0 σ0 := by
  refine x_met (cc := cX8_feed) (own := RX8) (maxL := 2) (ret := (some .int)) (by decide +kernel) rfl rfl (Nat.le_of_ble_eq_true rfl) hdis m_StOk m_NwOk (fun p e s m args below meth c B G hr => ?_)
  unfold fX8_feed at hf
  refine x_sub (lv' := [(0, .ref (ad 0)), (1, .int a1)]) [0, 1] rfl ?_
  refine x_iload_n B dX8_feed_0 rfl 1 rfl ?_
  refine x_i2l B dX8_feed_1 ?_
  refine x_lconst (v := 0) B dX8_feed_2 (by decide) ?_
  refine x_ldc2 (v := 255) B iX8_feed_0 dX8_feed_3 ?_
  obtain ⟨r2, e1, hf⟩ := x_ps hf
  refine x_callS (As := [.long a1.toInt64, .long 0, .long 255]) (st := []) B G (mX8_in (l := l) G.1.2.1  e1) (va_cwS 3 B.2.2.2.2.1 gX8_feed_X8_in rfl rfl rfl hdX8_in (x_rm_ok (by omega) (by decide))) rfl rfl (Nat.le_of_ble_eq_true rfl) ⟨Nat.zero_le _, Nat.zero_le _⟩ dX8_feed_6 ?_
  refine x_if_ne (tgt := 15) B dX8_feed_9 (by decide) (fun h3 => ?_) (fun h3 => ?_)
  · replace hf := x_if h3 hf
    refine x_aload_n B dX8_feed_15 rfl 0 rfl ?_
    refine x_get (v := .int (σ 0 8)) (kc := 0) (index := 70) B G.1 iX8_feed_cX8 rfl (by decide) m_c0 8 (by decide) iX8_feed_1 rfl dX8_feed_16 ?_
    refine x_bipush (v := 120) B dX8_feed_19 (by decide) ?_
    refine x_icmp_ne (tgt := 27) B dX8_feed_21 (by decide) (fun h4 => ?_) (fun h4 => ?_)
    · replace hf := x_if h4 hf
      refine x_aload_n B dX8_feed_27 rfl 0 rfl ?_
      refine x_get (v := .ref (ad 6)) (kc := 0) (index := 26) B G.1 iX8_feed_cX8 rfl (by decide) m_c0 7 (by decide) iX8_feed_3 rfl dX8_feed_28 ?_
      refine x_aload_n B dX8_feed_31 rfl 0 rfl ?_
      refine x_get (v := .int (σ 0 8)) (kc := 0) (index := 70) B G.1 iX8_feed_cX8 rfl (by decide) m_c0 8 (by decide) iX8_feed_1 rfl dX8_feed_32 ?_
      refine x_iload_n B dX8_feed_35 rfl 1 rfl ?_
      obtain ⟨h5, hf⟩ := x_gs hf
      obtain ⟨σ6, u7, hf⟩ := x_ws hf
      refine x_iast (kc := 6) (t0 := 0) B G.1 (by decide) m_c6 rfl h5 dX8_feed_36 ?_
      refine x_nm u7 ?_
      refine x_aload_n B dX8_feed_37 rfl 0 rfl ?_
      refine x_dup B dX8_feed_38 rfl ?_
      refine x_get (v := .int (σ6 0 8)) (kc := 0) (index := 70) B G.1 iX8_feed_cX8 rfl (by decide) m_c0 8 (by decide) iX8_feed_1 rfl dX8_feed_39 ?_
      refine x_iconst (v := 1) B dX8_feed_42 (by decide) ?_
      refine x_iadd B dX8_feed_43 ?_
      obtain ⟨σ8, u9, hf⟩ := x_ws hf
      refine x_put (v := ((σ6 0 8) + 1)) (ty := .int) (kc := 0) (index := 70) B G.1 iX8_feed_cX8 tyX8 tyX8_ok nmX8 rfl (by decide) m_c0 8 (by decide) iX8_feed_1 rfl rfl rfl rfl (Nat.le_of_ble_eq_true rfl) (m_w_8 _ _) dX8_feed_44 ?_
      refine x_nm u9 ?_
      refine x_aload_n B dX8_feed_47 rfl 0 rfl ?_
      refine x_get (v := .int (σ8 0 8)) (kc := 0) (index := 70) B G.1 iX8_feed_cX8 rfl (by decide) m_c0 8 (by decide) iX8_feed_1 rfl dX8_feed_48 ?_
      obtain ⟨rfl, rfl⟩ := x_retI hf
      exact x_iret B hr dX8_feed_51
    · replace hf := x_it h4 hf
      refine x_ldc (v := (-1000003)) B iX8_feed_4 dX8_feed_24 ?_
      obtain ⟨rfl, rfl⟩ := x_retI hf
      exact x_iret B hr dX8_feed_26
  · replace hf := x_it h3 hf
    refine x_ldc (v := (-1000001)) B iX8_feed_5 dX8_feed_12 ?_
    obtain ⟨rfl, rfl⟩ := x_retI hf
    exact x_iret B hr dX8_feed_14
theorem iX8_isLetter_0 : Cond.fieldLink RX8 74 "SignDutyModel" "at" "I" ∈ wsX8_isLetter := by decide +kernel
theorem iX8_isLetter_cX8 : ∀ w ∈ u_ws RX8 TX8 17, w ∈ wsX8_isLetter := by decide +kernel
theorem iX8_isLetter_2 : Cond.fieldLink RX8 70 "SignDutyModel" "length" "I" ∈ wsX8_isLetter := by decide +kernel
theorem iX8_isLetter_3 : Cond.fieldLink RX8 26 "SignDutyModel" "tape" "[I" ∈ wsX8_isLetter := by decide +kernel
set_option maxRecDepth 100000 in
set_option maxHeartbeats 4000000 in
theorem mX8_isLetter {σ : x_S} {a1 : Int32} (hdis : x_dis m_N ad) (hf : fX8_isLetter a1 σ = some r0) : x_NI l yX8_isLetter wsX8_isLetter 0 D vwCl (s_tys cI cQ cC cZ) m_N (m_C cI cZ ad) ad m_St m_NW [.ref (ad 0), .int a1] σ r0 σ := by
  refine x_met (cc := cX8_isLetter) (own := RX8) (maxL := 2) (ret := (some .boolean)) (by decide +kernel) rfl rfl (Nat.le_of_ble_eq_true rfl) hdis m_StOk m_NwOk (fun p e s m args below meth c B G hr => ?_)
  unfold fX8_isLetter at hf
  refine x_sub (lv' := [(0, .ref (ad 0)), (1, .int a1)]) [0, 1] rfl ?_
  refine x_aload_n B dX8_isLetter_0 rfl 0 rfl ?_
  refine x_get (v := .int (σ 0 13)) (kc := 0) (index := 74) B G.1 iX8_isLetter_cX8 rfl (by decide) m_c0 13 (by decide) iX8_isLetter_0 rfl dX8_isLetter_1 ?_
  refine x_aload_n B dX8_isLetter_4 rfl 0 rfl ?_
  refine x_get (v := .int (σ 0 8)) (kc := 0) (index := 70) B G.1 iX8_isLetter_cX8 rfl (by decide) m_c0 8 (by decide) iX8_isLetter_2 rfl dX8_isLetter_5 ?_
  refine x_icmp_ge (tgt := 28) B dX8_isLetter_8 (by decide) (fun h1 => ?_) (fun h1 => ?_)
  · replace hf := x_it h1 hf
    refine x_iconst (v := 0) B dX8_isLetter_28 (by decide) ?_
    obtain rfl := x_retP hf
    exact x_zret B hr (by decide) dX8_isLetter_29
  · replace hf := x_if h1 hf
    refine x_aload_n B dX8_isLetter_11 rfl 0 rfl ?_
    refine x_get (v := .ref (ad 6)) (kc := 0) (index := 26) B G.1 iX8_isLetter_cX8 rfl (by decide) m_c0 7 (by decide) iX8_isLetter_3 rfl dX8_isLetter_12 ?_
    refine x_aload_n B dX8_isLetter_15 rfl 0 rfl ?_
    refine x_get (v := .int (σ 0 13)) (kc := 0) (index := 74) B G.1 iX8_isLetter_cX8 rfl (by decide) m_c0 13 (by decide) iX8_isLetter_0 rfl dX8_isLetter_16 ?_
    obtain ⟨h2, hf⟩ := x_gs hf
    refine x_iald (kc := 6) (t0 := 0) B G.1 (by decide) m_c6 rfl h2 dX8_isLetter_19 ?_
    refine x_iload_n B dX8_isLetter_20 rfl 1 rfl ?_
    refine x_icmp_ne (tgt := 28) B dX8_isLetter_21 (by decide) (fun h3 => ?_) (fun h3 => ?_)
    · replace hf := x_if h3 hf
      refine x_iconst (v := 0) B dX8_isLetter_28 (by decide) ?_
      obtain rfl := x_retP hf
      exact x_zret B hr (by decide) dX8_isLetter_29
    · replace hf := x_it h3 hf
      refine x_iconst (v := 1) B dX8_isLetter_24 (by decide) ?_
      refine x_goto (tgt := 29) B dX8_isLetter_25 (by decide) ?_
      obtain rfl := x_retP hf
      exact x_zret B hr (by decide) dX8_isLetter_29
theorem iX8_isFigure_0 : Cond.fieldLink RX8 70 "SignDutyModel" "length" "I" ∈ wsX8_isFigure := by decide +kernel
theorem iX8_isFigure_cX8 : ∀ w ∈ u_ws RX8 TX8 17, w ∈ wsX8_isFigure := by decide +kernel
theorem iX8_isFigure_2 : Cond.fieldLink RX8 26 "SignDutyModel" "tape" "[I" ∈ wsX8_isFigure := by decide +kernel
theorem iX8_isFigure_3 : Cond.constantLong RX8 77 48 ∈ wsX8_isFigure := by decide +kernel
theorem iX8_isFigure_4 : Cond.constantLong RX8 79 57 ∈ wsX8_isFigure := by decide +kernel
set_option maxRecDepth 100000 in
set_option maxHeartbeats 4000000 in
theorem mX8_isFigure {σ : x_S} {a1 : Int32} (hdis : x_dis m_N ad) (hf : fX8_isFigure a1 σ = some r0) : x_NI l yX8_isFigure wsX8_isFigure 1 D vwCl (s_tys cI cQ cC cZ) m_N (m_C cI cZ ad) ad m_St m_NW [.ref (ad 0), .int a1] σ r0 σ := by
  refine x_met (cc := cX8_isFigure) (own := RX8) (maxL := 2) (ret := (some .boolean)) (by decide +kernel) rfl rfl (Nat.le_of_ble_eq_true rfl) hdis m_StOk m_NwOk (fun p e s m args below meth c B G hr => ?_)
  unfold fX8_isFigure at hf
  refine x_sub (lv' := [(0, .ref (ad 0)), (1, .int a1)]) [0, 1] rfl ?_
  refine x_iload_n B dX8_isFigure_0 rfl 1 rfl ?_
  refine x_aload_n B dX8_isFigure_1 rfl 0 rfl ?_
  refine x_get (v := .int (σ 0 8)) (kc := 0) (index := 70) B G.1 iX8_isFigure_cX8 rfl (by decide) m_c0 8 (by decide) iX8_isFigure_0 rfl dX8_isFigure_2 ?_
  refine x_icmp_ge (tgt := 31) B dX8_isFigure_5 (by decide) (fun h1 => ?_) (fun h1 => ?_)
  · replace hf := x_it h1 hf
    refine x_iconst (v := 0) B dX8_isFigure_31 (by decide) ?_
    obtain rfl := x_retP hf
    exact x_zret B hr (by decide) dX8_isFigure_32
  · replace hf := x_if h1 hf
    refine x_aload_n B dX8_isFigure_8 rfl 0 rfl ?_
    refine x_get (v := .ref (ad 6)) (kc := 0) (index := 26) B G.1 iX8_isFigure_cX8 rfl (by decide) m_c0 7 (by decide) iX8_isFigure_2 rfl dX8_isFigure_9 ?_
    refine x_iload_n B dX8_isFigure_12 rfl 1 rfl ?_
    obtain ⟨h2, hf⟩ := x_gs hf
    refine x_iald (kc := 6) (t0 := 0) B G.1 (by decide) m_c6 rfl h2 dX8_isFigure_13 ?_
    refine x_i2l B dX8_isFigure_14 ?_
    refine x_ldc2 (v := 48) B iX8_isFigure_3 dX8_isFigure_15 ?_
    refine x_ldc2 (v := 57) B iX8_isFigure_4 dX8_isFigure_18 ?_
    obtain ⟨r4, e3, hf⟩ := x_ps hf
    refine x_callS (As := [.long ((σ 6 a1.toNatClampNeg).toInt64), .long 48, .long 57]) (st := []) B G (mX8_in (l := l) G.1.2.1  e3) (va_cwS 3 B.2.2.2.2.1 gX8_isFigure_X8_in rfl rfl rfl hdX8_in (x_rm_ok (by omega) (by decide))) rfl rfl (Nat.le_of_ble_eq_true rfl) ⟨Nat.zero_le _, Nat.zero_le _⟩ dX8_isFigure_21 ?_
    refine x_if_eq (tgt := 31) B dX8_isFigure_24 (by decide) (fun h5 => ?_) (fun h5 => ?_)
    · replace hf := x_it h5 hf
      refine x_iconst (v := 0) B dX8_isFigure_31 (by decide) ?_
      obtain rfl := x_retP hf
      exact x_zret B hr (by decide) dX8_isFigure_32
    · replace hf := x_if h5 hf
      refine x_iconst (v := 1) B dX8_isFigure_27 (by decide) ?_
      refine x_goto (tgt := 32) B dX8_isFigure_28 (by decide) ?_
      obtain rfl := x_retP hf
      exact x_zret B hr (by decide) dX8_isFigure_32
theorem iX8_refuse_0 : Cond.fieldLink RX8 81 "SignDutyModel" "wrong" "I" ∈ wsX8_refuse := by decide +kernel
theorem iX8_refuse_cX8 : ∀ w ∈ u_ws RX8 TX8 17, w ∈ wsX8_refuse := by decide +kernel
set_option maxRecDepth 100000 in
set_option maxHeartbeats 4000000 in
theorem mX8_refuse {σ : x_S} {a1 : Int32} (hdis : x_dis m_N ad) (hf : fX8_refuse a1 σ = some (r0, σ0)) : x_NI l yX8_refuse wsX8_refuse 0 D vwCl (s_tys cI cQ cC cZ) m_N (m_C cI cZ ad) ad m_St m_NW [.ref (ad 0), .int a1] σ r0 σ0 := by
  refine x_met (cc := cX8_refuse) (own := RX8) (maxL := 2) (ret := (some .boolean)) (by decide +kernel) rfl rfl (Nat.le_of_ble_eq_true rfl) hdis m_StOk m_NwOk (fun p e s m args below meth c B G hr => ?_)
  unfold fX8_refuse at hf
  refine x_sub (lv' := [(0, .ref (ad 0)), (1, .int a1)]) [0, 1] rfl ?_
  refine x_aload_n B dX8_refuse_0 rfl 0 rfl ?_
  refine x_iload_n B dX8_refuse_1 rfl 1 rfl ?_
  obtain ⟨σ1, u2, hf⟩ := x_ws hf
  refine x_put (v := a1) (ty := .int) (kc := 0) (index := 81) B G.1 iX8_refuse_cX8 tyX8 tyX8_ok nmX8 rfl (by decide) m_c0 14 (by decide) iX8_refuse_0 rfl rfl rfl rfl (Nat.le_of_ble_eq_true rfl) (m_w_14 _ _) dX8_refuse_2 ?_
  refine x_nm u2 ?_
  refine x_iconst (v := 0) B dX8_refuse_5 (by decide) ?_
  obtain ⟨rfl, rfl⟩ := x_retI hf
  exact x_zret B hr (by decide) dX8_refuse_6
theorem iX8_sign_0 : Cond.fieldLink RX8 74 "SignDutyModel" "at" "I" ∈ wsX8_sign := by decide +kernel
theorem iX8_sign_cX8 : ∀ w ∈ u_ws RX8 TX8 17, w ∈ wsX8_sign := by decide +kernel
set_option maxRecDepth 100000 in
set_option maxHeartbeats 4000000 in
theorem mX8_sign {σ : x_S} {a1 : Int32} (hdis : x_dis m_N ad) (hf : fX8_sign a1 σ = some (r0, σ0)) : x_NI l yX8_sign wsX8_sign 1 D vwCl (s_tys cI cQ cC cZ) m_N (m_C cI cZ ad) ad m_St m_NW [.ref (ad 0), .int a1] σ r0 σ0 := by
  refine x_met (cc := cX8_sign) (own := RX8) (maxL := 2) (ret := (some .boolean)) (by decide +kernel) rfl rfl (Nat.le_of_ble_eq_true rfl) hdis m_StOk m_NwOk (fun p e s m args below meth c B G hr => ?_)
  unfold fX8_sign at hf
  refine x_sub (lv' := [(0, .ref (ad 0)), (1, .int a1)]) [0, 1] rfl ?_
  refine x_aload_n B dX8_sign_0 rfl 0 rfl ?_
  refine x_iload_n B dX8_sign_1 rfl 1 rfl ?_
  obtain ⟨r2, e1, hf⟩ := x_ps hf
  refine x_callV (As := [.int a1]) (st := []) B G (mX8_isLetter (l := l) G.1.2.1  e1) (cwV 1 B.2.2.2.2.1 gX8_sign_X8_isLetter rfl rfl rfl hdX8_isLetter (x_rm_ok (by omega) (by decide))) (by decide) m_c0 rfl rfl rfl (Nat.le_of_ble_eq_true rfl) ⟨Nat.zero_le _, Nat.zero_le _⟩ dX8_sign_2 ?_
  refine x_if_ne (tgt := 14) B dX8_sign_5 (by decide) (fun h3 => ?_) (fun h3 => ?_)
  · replace hf := x_if h3 hf
    refine x_aload_n B dX8_sign_14 rfl 0 rfl ?_
    refine x_dup B dX8_sign_15 rfl ?_
    refine x_get (v := .int (σ 0 13)) (kc := 0) (index := 74) B G.1 iX8_sign_cX8 rfl (by decide) m_c0 13 (by decide) iX8_sign_0 rfl dX8_sign_16 ?_
    refine x_iconst (v := 1) B dX8_sign_19 (by decide) ?_
    refine x_iadd B dX8_sign_20 ?_
    obtain ⟨σ4, u5, hf⟩ := x_ws hf
    refine x_put (v := ((σ 0 13) + 1)) (ty := .int) (kc := 0) (index := 74) B G.1 iX8_sign_cX8 tyX8 tyX8_ok nmX8 rfl (by decide) m_c0 13 (by decide) iX8_sign_0 rfl rfl rfl rfl (Nat.le_of_ble_eq_true rfl) (m_w_13 _ _) dX8_sign_21 ?_
    refine x_nm u5 ?_
    refine x_iconst (v := 1) B dX8_sign_24 (by decide) ?_
    obtain ⟨rfl, rfl⟩ := x_retI hf
    exact x_zret B hr (by decide) dX8_sign_25
  · replace hf := x_it h3 hf
    refine x_aload_n B dX8_sign_8 rfl 0 rfl ?_
    refine x_iconst (v := 1) B dX8_sign_9 (by decide) ?_
    obtain ⟨r7, σ8, e6, hf⟩ := x_bs hf
    refine x_callV (As := [.int 1]) (st := []) B G (mX8_refuse (l := l) G.1.2.1  e6) (cwV 1 B.2.2.2.2.1 gX8_sign_X8_refuse rfl rfl rfl hdX8_refuse (x_rm_ok (by omega) (by decide))) (by decide) m_c0 rfl rfl rfl (Nat.le_of_ble_eq_true rfl) ⟨Nat.zero_le _, Nat.zero_le _⟩ dX8_sign_10 ?_
    obtain ⟨h9, hf⟩ := x_gs hf
    obtain ⟨rfl, rfl⟩ := x_retI hf
    exact x_zret B hr h9 dX8_sign_13
theorem iX8_readsNumber_0 : Cond.fieldLink RX8 74 "SignDutyModel" "at" "I" ∈ wsX8_readsNumber := by decide +kernel
theorem iX8_readsNumber_cX8 : ∀ w ∈ u_ws RX8 TX8 17, w ∈ wsX8_readsNumber := by decide +kernel
theorem iX8_readsNumber_2 : Cond.fieldLink RX8 26 "SignDutyModel" "tape" "[I" ∈ wsX8_readsNumber := by decide +kernel
theorem iX8_readsNumber_3 : Cond.fieldLink RX8 93 "SignDutyModel" "number" "I" ∈ wsX8_readsNumber := by decide +kernel
set_option maxRecDepth 100000 in
set_option maxHeartbeats 4000000 in
theorem kX8_readsNumber_37 {σ : x_S} (B : x_B p s m args meth c cX8_readsNumber 4 wsX8_readsNumber RX8) (G : x_H s D vwCl (s_tys cI cQ cC cZ) m_N ad (x_A m_N ad) m_St m_NW) (hr : meth.sig.returnType = (some .boolean)) (hf : bX8_readsNumber_37   σ = some (r0, σ0)) : x_J p l e (x_rm 2) s m args below meth c 0 0 (MQ below (x_Qi D vwCl m_N (m_C cI cZ ad) ad r0 σ0) args s 0 0 (x_A m_N ad)) (x_A m_N ad) 4 (x_I D vwCl m_N (m_C cI cZ ad) ad σ) [(0, .ref (ad 0))] [] 37 := by
  unfold bX8_readsNumber_37 at hf
  refine x_aload_n B dX8_readsNumber_37 rfl 0 rfl ?_
  refine x_iconst (v := 1) B dX8_readsNumber_38 (by decide) ?_
  obtain ⟨r2, σ3, e1, hf⟩ := x_bs hf
  refine x_callV (As := [.int 1]) (st := []) B G (mX8_refuse (l := l) G.1.2.1  e1) (cwV 1 B.2.2.2.2.1 gX8_readsNumber_X8_refuse rfl rfl rfl hdX8_refuse (x_rm_ok (by omega) (by decide))) (by decide) m_c0 rfl rfl rfl (Nat.le_of_ble_eq_true rfl) ⟨Nat.zero_le _, Nat.zero_le _⟩ dX8_readsNumber_39 ?_
  obtain ⟨h4, hf⟩ := x_gs hf
  obtain ⟨rfl, rfl⟩ := x_retI hf
  exact x_zret B hr h4 dX8_readsNumber_42
set_option maxRecDepth 100000 in
set_option maxHeartbeats 4000000 in
theorem kX8_readsNumber_113 {σ : x_S} {x1 : Int32} {x2 : Int32} {x3 : Int32} {y0 : Int32} (B : x_B p s m args meth c cX8_readsNumber 4 wsX8_readsNumber RX8) (G : x_H s D vwCl (s_tys cI cQ cC cZ) m_N ad (x_A m_N ad) m_St m_NW) (hr : meth.sig.returnType = (some .boolean)) (hf : bX8_readsNumber_113  x1 x2 x3 y0 σ = some (r0, σ0)) : x_J p l e (x_rm 2) s m args below meth c 0 0 (MQ below (x_Qi D vwCl m_N (m_C cI cZ ad) ad r0 σ0) args s 0 0 (x_A m_N ad)) (x_A m_N ad) 4 (x_I D vwCl m_N (m_C cI cZ ad) ad σ) [(0, .ref (ad 0)), (1, .int x1), (2, .int x2), (3, .int x3)] [.int y0, .ref (ad 0)] 113 := by
  unfold bX8_readsNumber_113 at hf
  obtain ⟨σ1, u2, hf⟩ := x_ws hf
  refine x_put (v := y0) (ty := .int) (kc := 0) (index := 93) B G.1 iX8_readsNumber_cX8 tyX8 tyX8_ok nmX8 rfl (by decide) m_c0 15 (by decide) iX8_readsNumber_3 rfl rfl rfl rfl (Nat.le_of_ble_eq_true rfl) (m_w_15 _ _) dX8_readsNumber_113 ?_
  refine x_nm u2 ?_
  refine x_aload_n B dX8_readsNumber_116 rfl 0 rfl ?_
  refine x_get (v := .int (σ1 0 15)) (kc := 0) (index := 93) B G.1 iX8_readsNumber_cX8 rfl (by decide) m_c0 15 (by decide) iX8_readsNumber_3 rfl dX8_readsNumber_117 ?_
  refine x_i2l B dX8_readsNumber_120 ?_
  refine x_iload_n B dX8_readsNumber_121 rfl 1 rfl ?_
  refine x_i2l B dX8_readsNumber_122 ?_
  refine x_iload_n B dX8_readsNumber_123 rfl 2 rfl ?_
  refine x_i2l B dX8_readsNumber_124 ?_
  obtain ⟨r4, e3, hf⟩ := x_ps hf
  refine x_callS (As := [.long ((σ1 0 15).toInt64), .long x1.toInt64, .long x2.toInt64]) (st := []) B G (mX8_in (l := l) G.1.2.1  e3) (va_cwS 3 B.2.2.2.2.1 gX8_readsNumber_X8_in rfl rfl rfl hdX8_in (x_rm_ok (by omega) (by decide))) rfl rfl (Nat.le_of_ble_eq_true rfl) ⟨Nat.zero_le _, Nat.zero_le _⟩ dX8_readsNumber_125 ?_
  refine x_if_ne (tgt := 137) B dX8_readsNumber_128 (by decide) (fun h5 => ?_) (fun h5 => ?_)
  · replace hf := x_if h5 hf
    refine x_aload_n B dX8_readsNumber_137 rfl 0 rfl ?_
    refine x_dup B dX8_readsNumber_138 rfl ?_
    refine x_get (v := .int (σ1 0 13)) (kc := 0) (index := 74) B G.1 iX8_readsNumber_cX8 rfl (by decide) m_c0 13 (by decide) iX8_readsNumber_0 rfl dX8_readsNumber_139 ?_
    refine x_iload_n B dX8_readsNumber_142 rfl 3 rfl ?_
    refine x_iadd B dX8_readsNumber_143 ?_
    obtain ⟨σ6, u7, hf⟩ := x_ws hf
    refine x_put (v := ((σ1 0 13) + x3)) (ty := .int) (kc := 0) (index := 74) B G.1 iX8_readsNumber_cX8 tyX8 tyX8_ok nmX8 rfl (by decide) m_c0 13 (by decide) iX8_readsNumber_0 rfl rfl rfl rfl (Nat.le_of_ble_eq_true rfl) (m_w_13 _ _) dX8_readsNumber_144 ?_
    refine x_nm u7 ?_
    refine x_iconst (v := 1) B dX8_readsNumber_147 (by decide) ?_
    obtain ⟨rfl, rfl⟩ := x_retI hf
    exact x_zret B hr (by decide) dX8_readsNumber_148
  · replace hf := x_it h5 hf
    refine x_aload_n B dX8_readsNumber_131 rfl 0 rfl ?_
    refine x_iconst (v := 2) B dX8_readsNumber_132 (by decide) ?_
    obtain ⟨r9, σ10, e8, hf⟩ := x_bs hf
    refine x_callV (As := [.int 2]) (st := []) B G (mX8_refuse (l := l) G.1.2.1  e8) (cwV 1 B.2.2.2.2.1 gX8_readsNumber_X8_refuse rfl rfl rfl hdX8_refuse (x_rm_ok (by omega) (by decide))) (by decide) m_c0 rfl rfl rfl (Nat.le_of_ble_eq_true rfl) ⟨Nat.zero_le _, Nat.zero_le _⟩ dX8_readsNumber_133 ?_
    obtain ⟨h11, hf⟩ := x_gs hf
    obtain ⟨rfl, rfl⟩ := x_retI hf
    exact x_zret B hr h11 dX8_readsNumber_136
set_option maxRecDepth 100000 in
set_option maxHeartbeats 4000000 in
theorem kX8_readsNumber_77 {σ : x_S} {x1 : Int32} {x2 : Int32} {y0 : Int32} (B : x_B p s m args meth c cX8_readsNumber 4 wsX8_readsNumber RX8) (G : x_H s D vwCl (s_tys cI cQ cC cZ) m_N ad (x_A m_N ad) m_St m_NW) (hr : meth.sig.returnType = (some .boolean)) (hf : bX8_readsNumber_77  x1 x2 y0 σ = some (r0, σ0)) : x_J p l e (x_rm 2) s m args below meth c 0 0 (MQ below (x_Qi D vwCl m_N (m_C cI cZ ad) ad r0 σ0) args s 0 0 (x_A m_N ad)) (x_A m_N ad) 4 (x_I D vwCl m_N (m_C cI cZ ad) ad σ) [(0, .ref (ad 0)), (1, .int x1), (2, .int x2)] [.int y0] 77 := by
  unfold bX8_readsNumber_77 at hf
  refine x_istore_n (lv' := [(3, .int y0), (0, .ref (ad 0)), (1, .int x1), (2, .int x2)]) B dX8_readsNumber_77 rfl (by decide) rfl ?_
  refine x_aload_n B dX8_readsNumber_78 rfl 1 rfl ?_
  refine x_iload_n B dX8_readsNumber_79 rfl 0 rfl ?_
  refine x_iconst (v := 2) B dX8_readsNumber_80 (by decide) ?_
  refine x_icmp_ne (tgt := 109) B dX8_readsNumber_81 (by decide) (fun h1 => ?_) (fun h1 => ?_)
  · replace hf := x_if h1 hf
    refine x_aload_n B dX8_readsNumber_109 rfl 1 rfl ?_
    refine x_get (v := .int (σ 0 15)) (kc := 0) (index := 93) B G.1 iX8_readsNumber_cX8 rfl (by decide) m_c0 15 (by decide) iX8_readsNumber_3 rfl dX8_readsNumber_110 ?_
    refine x_sub [1, 2, 3, 0] rfl ?_
    exact kX8_readsNumber_113 B G hr hf
  · replace hf := x_it h1 hf
    refine x_bipush (v := 10) B dX8_readsNumber_84 (by decide) ?_
    refine x_aload_n B dX8_readsNumber_86 rfl 1 rfl ?_
    refine x_get (v := .int (σ 0 15)) (kc := 0) (index := 93) B G.1 iX8_readsNumber_cX8 rfl (by decide) m_c0 15 (by decide) iX8_readsNumber_3 rfl dX8_readsNumber_87 ?_
    refine x_imul B dX8_readsNumber_90 ?_
    refine x_aload_n B dX8_readsNumber_91 rfl 1 rfl ?_
    refine x_get (v := .ref (ad 6)) (kc := 0) (index := 26) B G.1 iX8_readsNumber_cX8 rfl (by decide) m_c0 7 (by decide) iX8_readsNumber_2 rfl dX8_readsNumber_92 ?_
    refine x_aload_n B dX8_readsNumber_95 rfl 1 rfl ?_
    refine x_get (v := .int (σ 0 13)) (kc := 0) (index := 74) B G.1 iX8_readsNumber_cX8 rfl (by decide) m_c0 13 (by decide) iX8_readsNumber_0 rfl dX8_readsNumber_96 ?_
    refine x_iconst (v := 1) B dX8_readsNumber_99 (by decide) ?_
    refine x_iadd B dX8_readsNumber_100 ?_
    obtain ⟨h2, hf⟩ := x_gs hf
    refine x_iald (kc := 6) (t0 := 0) B G.1 (by decide) m_c6 rfl h2 dX8_readsNumber_101 ?_
    refine x_iadd B dX8_readsNumber_102 ?_
    refine x_bipush (v := 48) B dX8_readsNumber_103 (by decide) ?_
    refine x_isub B dX8_readsNumber_105 ?_
    refine x_goto (tgt := 113) B dX8_readsNumber_106 (by decide) ?_
    refine x_sub [1, 2, 3, 0] rfl ?_
    exact kX8_readsNumber_113 B G hr hf
set_option maxRecDepth 100000 in
set_option maxHeartbeats 4000000 in
theorem kX8_readsNumber_43 {σ : x_S} {x1 : Int32} {x2 : Int32} (B : x_B p s m args meth c cX8_readsNumber 4 wsX8_readsNumber RX8) (G : x_H s D vwCl (s_tys cI cQ cC cZ) m_N ad (x_A m_N ad) m_St m_NW) (hr : meth.sig.returnType = (some .boolean)) (hf : bX8_readsNumber_43  x1 x2 σ = some (r0, σ0)) : x_J p l e (x_rm 2) s m args below meth c 0 0 (MQ below (x_Qi D vwCl m_N (m_C cI cZ ad) ad r0 σ0) args s 0 0 (x_A m_N ad)) (x_A m_N ad) 4 (x_I D vwCl m_N (m_C cI cZ ad) ad σ) [(0, .ref (ad 0)), (1, .int x1), (2, .int x2)] [] 43 := by
  unfold bX8_readsNumber_43 at hf
  refine x_aload_n B dX8_readsNumber_43 rfl 0 rfl ?_
  refine x_aload_n B dX8_readsNumber_44 rfl 0 rfl ?_
  refine x_get (v := .ref (ad 6)) (kc := 0) (index := 26) B G.1 iX8_readsNumber_cX8 rfl (by decide) m_c0 7 (by decide) iX8_readsNumber_2 rfl dX8_readsNumber_45 ?_
  refine x_aload_n B dX8_readsNumber_48 rfl 0 rfl ?_
  refine x_get (v := .int (σ 0 13)) (kc := 0) (index := 74) B G.1 iX8_readsNumber_cX8 rfl (by decide) m_c0 13 (by decide) iX8_readsNumber_0 rfl dX8_readsNumber_49 ?_
  obtain ⟨h1, hf⟩ := x_gs hf
  refine x_iald (kc := 6) (t0 := 0) B G.1 (by decide) m_c6 rfl h1 dX8_readsNumber_52 ?_
  refine x_bipush (v := 48) B dX8_readsNumber_53 (by decide) ?_
  refine x_isub B dX8_readsNumber_55 ?_
  obtain ⟨σ2, u3, hf⟩ := x_ws hf
  refine x_put (v := ((σ 6 (σ 0 13).toNatClampNeg) - 48)) (ty := .int) (kc := 0) (index := 93) B G.1 iX8_readsNumber_cX8 tyX8 tyX8_ok nmX8 rfl (by decide) m_c0 15 (by decide) iX8_readsNumber_3 rfl rfl rfl rfl (Nat.le_of_ble_eq_true rfl) (m_w_15 _ _) dX8_readsNumber_56 ?_
  refine x_nm u3 ?_
  refine x_aload_n B dX8_readsNumber_59 rfl 0 rfl ?_
  refine x_aload_n B dX8_readsNumber_60 rfl 0 rfl ?_
  refine x_get (v := .int (σ2 0 13)) (kc := 0) (index := 74) B G.1 iX8_readsNumber_cX8 rfl (by decide) m_c0 13 (by decide) iX8_readsNumber_0 rfl dX8_readsNumber_61 ?_
  refine x_iconst (v := 1) B dX8_readsNumber_64 (by decide) ?_
  refine x_iadd B dX8_readsNumber_65 ?_
  obtain ⟨r5, e4, hf⟩ := x_ps hf
  refine x_callV (As := [.int ((σ2 0 13) + 1)]) (st := []) B G (mX8_isFigure (l := l) G.1.2.1  e4) (cwV 1 B.2.2.2.2.1 gX8_readsNumber_X8_isFigure rfl rfl rfl hdX8_isFigure (x_rm_ok (by omega) (by decide))) (by decide) m_c0 rfl rfl rfl (Nat.le_of_ble_eq_true rfl) ⟨Nat.zero_le _, Nat.zero_le _⟩ dX8_readsNumber_66 ?_
  refine x_if_eq (tgt := 76) B dX8_readsNumber_69 (by decide) (fun h6 => ?_) (fun h6 => ?_)
  · replace hf := x_it h6 hf
    refine x_iconst (v := 1) B dX8_readsNumber_76 (by decide) ?_
    refine x_sub [0, 1, 2] rfl ?_
    exact kX8_readsNumber_77 B G hr hf
  · replace hf := x_if h6 hf
    refine x_iconst (v := 2) B dX8_readsNumber_72 (by decide) ?_
    refine x_goto (tgt := 77) B dX8_readsNumber_73 (by decide) ?_
    refine x_sub [0, 1, 2] rfl ?_
    exact kX8_readsNumber_77 B G hr hf
set_option maxRecDepth 100000 in
set_option maxHeartbeats 4000000 in
theorem mX8_readsNumber {σ : x_S} {a1 : Int32} {a2 : Int32} (hdis : x_dis m_N ad) (hf : fX8_readsNumber a1 a2 σ = some (r0, σ0)) : x_NI l yX8_readsNumber wsX8_readsNumber 2 D vwCl (s_tys cI cQ cC cZ) m_N (m_C cI cZ ad) ad m_St m_NW [.ref (ad 0), .int a1, .int a2] σ r0 σ0 := by
  refine x_met (cc := cX8_readsNumber) (own := RX8) (maxL := 4) (ret := (some .boolean)) (by decide +kernel) rfl rfl (Nat.le_of_ble_eq_true rfl) hdis m_StOk m_NwOk (fun p e s m args below meth c B G hr => ?_)
  unfold fX8_readsNumber at hf
  refine x_sub (lv' := [(0, .ref (ad 0)), (1, .int a1), (2, .int a2)]) [0, 1, 2] rfl ?_
  refine x_aload_n B dX8_readsNumber_0 rfl 0 rfl ?_
  refine x_aload_n B dX8_readsNumber_1 rfl 0 rfl ?_
  refine x_get (v := .int (σ 0 13)) (kc := 0) (index := 74) B G.1 iX8_readsNumber_cX8 rfl (by decide) m_c0 13 (by decide) iX8_readsNumber_0 rfl dX8_readsNumber_2 ?_
  obtain ⟨r2, e1, hf⟩ := x_ps hf
  refine x_callV (As := [.int (σ 0 13)]) (st := []) B G (mX8_isFigure (l := l) G.1.2.1  e1) (cwV 1 B.2.2.2.2.1 gX8_readsNumber_X8_isFigure rfl rfl rfl hdX8_isFigure (x_rm_ok (by omega) (by decide))) (by decide) m_c0 rfl rfl rfl (Nat.le_of_ble_eq_true rfl) ⟨Nat.zero_le _, Nat.zero_le _⟩ dX8_readsNumber_5 ?_
  refine x_if_eq (tgt := 37) B dX8_readsNumber_8 (by decide) (fun h3 => ?_) (fun h3 => ?_)
  · replace hf := x_it h3 hf
    refine x_sub [0] rfl ?_
    exact kX8_readsNumber_37 B G hr hf
  · replace hf := x_if h3 hf
    refine x_aload_n B dX8_readsNumber_11 rfl 0 rfl ?_
    refine x_aload_n B dX8_readsNumber_12 rfl 0 rfl ?_
    refine x_get (v := .int (σ 0 13)) (kc := 0) (index := 74) B G.1 iX8_readsNumber_cX8 rfl (by decide) m_c0 13 (by decide) iX8_readsNumber_0 rfl dX8_readsNumber_13 ?_
    refine x_iconst (v := 1) B dX8_readsNumber_16 (by decide) ?_
    refine x_iadd B dX8_readsNumber_17 ?_
    obtain ⟨r5, e4, hf⟩ := x_ps hf
    refine x_callV (As := [.int ((σ 0 13) + 1)]) (st := []) B G (mX8_isFigure (l := l) G.1.2.1  e4) (cwV 1 B.2.2.2.2.1 gX8_readsNumber_X8_isFigure rfl rfl rfl hdX8_isFigure (x_rm_ok (by omega) (by decide))) (by decide) m_c0 rfl rfl rfl (Nat.le_of_ble_eq_true rfl) ⟨Nat.zero_le _, Nat.zero_le _⟩ dX8_readsNumber_18 ?_
    refine x_if_eq (tgt := 43) B dX8_readsNumber_21 (by decide) (fun h6 => ?_) (fun h6 => ?_)
    · replace hf := x_it h6 hf
      refine x_sub [0, 1, 2] rfl ?_
      exact kX8_readsNumber_43 B G hr hf
    · replace hf := x_if h6 hf
      refine x_aload_n B dX8_readsNumber_24 rfl 0 rfl ?_
      refine x_aload_n B dX8_readsNumber_25 rfl 0 rfl ?_
      refine x_get (v := .int (σ 0 13)) (kc := 0) (index := 74) B G.1 iX8_readsNumber_cX8 rfl (by decide) m_c0 13 (by decide) iX8_readsNumber_0 rfl dX8_readsNumber_26 ?_
      refine x_iconst (v := 2) B dX8_readsNumber_29 (by decide) ?_
      refine x_iadd B dX8_readsNumber_30 ?_
      obtain ⟨r8, e7, hf⟩ := x_ps hf
      refine x_callV (As := [.int ((σ 0 13) + 2)]) (st := []) B G (mX8_isFigure (l := l) G.1.2.1  e7) (cwV 1 B.2.2.2.2.1 gX8_readsNumber_X8_isFigure rfl rfl rfl hdX8_isFigure (x_rm_ok (by omega) (by decide))) (by decide) m_c0 rfl rfl rfl (Nat.le_of_ble_eq_true rfl) ⟨Nat.zero_le _, Nat.zero_le _⟩ dX8_readsNumber_31 ?_
      refine x_if_eq (tgt := 43) B dX8_readsNumber_34 (by decide) (fun h9 => ?_) (fun h9 => ?_)
      · replace hf := x_it h9 hf
        refine x_sub [0, 1, 2] rfl ?_
        exact kX8_readsNumber_43 B G hr hf
      · replace hf := x_if h9 hf
        refine x_sub [0] rfl ?_
        exact kX8_readsNumber_37 B G hr hf
theorem iX8_readsLaw_0 : Cond.fieldLink RX8 7 "SignDutyModel" "row" "[I" ∈ wsX8_readsLaw := by decide +kernel
theorem iX8_readsLaw_cX8 : ∀ w ∈ u_ws RX8 TX8 17, w ∈ wsX8_readsLaw := by decide +kernel
theorem iX8_readsLaw_2 : Cond.fieldLink RX8 93 "SignDutyModel" "number" "I" ∈ wsX8_readsLaw := by decide +kernel
set_option maxRecDepth 100000 in
set_option maxHeartbeats 4000000 in
theorem mX8_readsLaw {σ : x_S} (hdis : x_dis m_N ad) (hf : fX8_readsLaw  σ = some (r0, σ0)) : x_NI l yX8_readsLaw wsX8_readsLaw 3 D vwCl (s_tys cI cQ cC cZ) m_N (m_C cI cZ ad) ad m_St m_NW [.ref (ad 0)] σ r0 σ0 := by
  refine x_met (cc := cX8_readsLaw) (own := RX8) (maxL := 1) (ret := (some .boolean)) (by decide +kernel) rfl rfl (Nat.le_of_ble_eq_true rfl) hdis m_StOk m_NwOk (fun p e s m args below meth c B G hr => ?_)
  unfold fX8_readsLaw at hf
  refine x_sub (lv' := [(0, .ref (ad 0))]) [0] rfl ?_
  refine x_aload_n B dX8_readsLaw_0 rfl 0 rfl ?_
  refine x_bipush (v := 100) B dX8_readsLaw_1 (by decide) ?_
  obtain ⟨r2, σ3, e1, hf⟩ := x_bs hf
  refine x_callV (As := [.int 100]) (st := []) B G (mX8_sign (l := l) G.1.2.1  e1) (cwV 1 B.2.2.2.2.1 gX8_readsLaw_X8_sign rfl rfl rfl hdX8_sign (x_rm_ok (by omega) (by decide))) (by decide) m_c0 rfl rfl rfl (Nat.le_of_ble_eq_true rfl) ⟨Nat.zero_le _, Nat.zero_le _⟩ dX8_readsLaw_3 ?_
  refine x_if_eq (tgt := 19) B dX8_readsLaw_6 (by decide) (fun h4 => ?_) (fun h4 => ?_)
  · replace hf := x_it h4 hf
    refine x_iconst (v := 0) B dX8_readsLaw_19 (by decide) ?_
    obtain ⟨rfl, rfl⟩ := x_retI hf
    exact x_zret B hr (by decide) dX8_readsLaw_20
  · replace hf := x_if h4 hf
    refine x_aload_n B dX8_readsLaw_9 rfl 0 rfl ?_
    refine x_iconst (v := 1) B dX8_readsLaw_10 (by decide) ?_
    refine x_bipush (v := 9) B dX8_readsLaw_11 (by decide) ?_
    obtain ⟨r6, σ7, e5, hf⟩ := x_bs hf
    refine x_callV (As := [.int 1, .int 9]) (st := []) B G (mX8_readsNumber (l := l) G.1.2.1  e5) (cwV 2 B.2.2.2.2.1 gX8_readsLaw_X8_readsNumber rfl rfl rfl hdX8_readsNumber (x_rm_ok (by omega) (by decide))) (by decide) m_c0 rfl rfl rfl (Nat.le_of_ble_eq_true rfl) ⟨Nat.zero_le _, Nat.zero_le _⟩ dX8_readsLaw_13 ?_
    refine x_if_ne (tgt := 21) B dX8_readsLaw_16 (by decide) (fun h8 => ?_) (fun h8 => ?_)
    · replace hf := x_if h8 hf
      refine x_aload_n B dX8_readsLaw_21 rfl 0 rfl ?_
      refine x_get (v := .ref (ad 1)) (kc := 0) (index := 7) B G.1 iX8_readsLaw_cX8 rfl (by decide) m_c0 0 (by decide) iX8_readsLaw_0 rfl dX8_readsLaw_22 ?_
      refine x_sipush (v := 1323) B dX8_readsLaw_25 (by decide) ?_
      refine x_aload_n B dX8_readsLaw_28 rfl 0 rfl ?_
      refine x_get (v := .int (σ7 0 15)) (kc := 0) (index := 93) B G.1 iX8_readsLaw_cX8 rfl (by decide) m_c0 15 (by decide) iX8_readsLaw_2 rfl dX8_readsLaw_29 ?_
      obtain ⟨h9, hf⟩ := x_gs hf
      obtain ⟨σ10, u11, hf⟩ := x_ws hf
      refine x_iast (kc := 1) (t0 := 0) B G.1 (by decide) m_c1 rfl h9 dX8_readsLaw_32 ?_
      refine x_nm u11 ?_
      refine x_aload_n B dX8_readsLaw_33 rfl 0 rfl ?_
      refine x_bipush (v := 59) B dX8_readsLaw_34 (by decide) ?_
      obtain ⟨r13, σ14, e12, hf⟩ := x_bs hf
      refine x_callV (As := [.int 59]) (st := []) B G (mX8_sign (l := l) G.1.2.1  e12) (cwV 1 B.2.2.2.2.1 gX8_readsLaw_X8_sign rfl rfl rfl hdX8_sign (x_rm_ok (by omega) (by decide))) (by decide) m_c0 rfl rfl rfl (Nat.le_of_ble_eq_true rfl) ⟨Nat.zero_le _, Nat.zero_le _⟩ dX8_readsLaw_36 ?_
      obtain ⟨h15, hf⟩ := x_gs hf
      obtain ⟨rfl, rfl⟩ := x_retI hf
      exact x_zret B hr h15 dX8_readsLaw_39
    · replace hf := x_it h8 hf
      refine x_iconst (v := 0) B dX8_readsLaw_19 (by decide) ?_
      obtain ⟨rfl, rfl⟩ := x_retI hf
      exact x_zret B hr (by decide) dX8_readsLaw_20
theorem iX8_readsStreet_0 : Cond.fieldLink RX8 7 "SignDutyModel" "row" "[I" ∈ wsX8_readsStreet := by decide +kernel
theorem iX8_readsStreet_cX8 : ∀ w ∈ u_ws RX8 TX8 17, w ∈ wsX8_readsStreet := by decide +kernel
theorem iX8_readsStreet_2 : Cond.fieldLink RX8 74 "SignDutyModel" "at" "I" ∈ wsX8_readsStreet := by decide +kernel
theorem iX8_readsStreet_3 : Cond.fieldLink RX8 93 "SignDutyModel" "number" "I" ∈ wsX8_readsStreet := by decide +kernel
set_option maxRecDepth 100000 in
set_option maxHeartbeats 4000000 in
theorem mX8_readsStreet {σ : x_S} (hdis : x_dis m_N ad) (hf : fX8_readsStreet  σ = some (r0, σ0)) : x_NI l yX8_readsStreet wsX8_readsStreet 3 D vwCl (s_tys cI cQ cC cZ) m_N (m_C cI cZ ad) ad m_St m_NW [.ref (ad 0)] σ r0 σ0 := by
  refine x_met (cc := cX8_readsStreet) (own := RX8) (maxL := 2) (ret := (some .boolean)) (by decide +kernel) rfl rfl (Nat.le_of_ble_eq_true rfl) hdis m_StOk m_NwOk (fun p e s m args below meth c B G hr => ?_)
  unfold fX8_readsStreet at hf
  refine x_sub (lv' := [(0, .ref (ad 0))]) [0] rfl ?_
  refine x_aload_n B dX8_readsStreet_0 rfl 0 rfl ?_
  refine x_get (v := .ref (ad 1)) (kc := 0) (index := 7) B G.1 iX8_readsStreet_cX8 rfl (by decide) m_c0 0 (by decide) iX8_readsStreet_0 rfl dX8_readsStreet_1 ?_
  refine x_sipush (v := 1324) B dX8_readsStreet_4 (by decide) ?_
  refine x_iald (kc := 1) (t0 := 0) B G.1 (by decide) m_c1 rfl (by decide) dX8_readsStreet_7 ?_
  refine x_istore_n (lv' := [(1, .int (σ 1 (1324 : Int32).toNatClampNeg)), (0, .ref (ad 0))]) B dX8_readsStreet_8 rfl (by decide) rfl ?_
  refine x_iload_n B dX8_readsStreet_9 rfl 0 rfl ?_
  refine x_bipush (v := 7) B dX8_readsStreet_10 (by decide) ?_
  refine x_icmp_ne (tgt := 21) B dX8_readsStreet_12 (by decide) (fun h2 => ?_) (fun h2 => ?_)
  · replace hf := x_if h2 hf
    refine x_aload_n B dX8_readsStreet_21 rfl 1 rfl ?_
    refine x_dup B dX8_readsStreet_22 rfl ?_
    refine x_get (v := .int (σ 0 13)) (kc := 0) (index := 74) B G.1 iX8_readsStreet_cX8 rfl (by decide) m_c0 13 (by decide) iX8_readsStreet_2 rfl dX8_readsStreet_23 ?_
    refine x_iconst (v := 1) B dX8_readsStreet_26 (by decide) ?_
    refine x_iadd B dX8_readsStreet_27 ?_
    obtain ⟨σ3, u4, hf⟩ := x_ws hf
    refine x_put (v := ((σ 0 13) + 1)) (ty := .int) (kc := 0) (index := 74) B G.1 iX8_readsStreet_cX8 tyX8 tyX8_ok nmX8 rfl (by decide) m_c0 13 (by decide) iX8_readsStreet_2 rfl rfl rfl rfl (Nat.le_of_ble_eq_true rfl) (m_w_13 _ _) dX8_readsStreet_28 ?_
    refine x_nm u4 ?_
    refine x_aload_n B dX8_readsStreet_31 rfl 1 rfl ?_
    refine x_iconst (v := 0) B dX8_readsStreet_32 (by decide) ?_
    refine x_bipush (v := 30) B dX8_readsStreet_33 (by decide) ?_
    obtain ⟨r6, σ7, e5, hf⟩ := x_bs hf
    refine x_callV (As := [.int 0, .int 30]) (st := []) B G (mX8_readsNumber (l := l) G.1.2.1  e5) (cwV 2 B.2.2.2.2.1 gX8_readsStreet_X8_readsNumber rfl rfl rfl hdX8_readsNumber (x_rm_ok (by omega) (by decide))) (by decide) m_c0 rfl rfl rfl (Nat.le_of_ble_eq_true rfl) ⟨Nat.zero_le _, Nat.zero_le _⟩ dX8_readsStreet_35 ?_
    refine x_if_ne (tgt := 43) B dX8_readsStreet_38 (by decide) (fun h8 => ?_) (fun h8 => ?_)
    · replace hf := x_if h8 hf
      refine x_aload_n B dX8_readsStreet_43 rfl 1 rfl ?_
      refine x_get (v := .ref (ad 1)) (kc := 0) (index := 7) B G.1 iX8_readsStreet_cX8 rfl (by decide) m_c0 0 (by decide) iX8_readsStreet_0 rfl dX8_readsStreet_44 ?_
      refine x_sipush (v := 1328) B dX8_readsStreet_47 (by decide) ?_
      refine x_iload_n B dX8_readsStreet_50 rfl 0 rfl ?_
      refine x_iadd B dX8_readsStreet_51 ?_
      refine x_aload_n B dX8_readsStreet_52 rfl 1 rfl ?_
      refine x_get (v := .int (σ7 0 15)) (kc := 0) (index := 93) B G.1 iX8_readsStreet_cX8 rfl (by decide) m_c0 15 (by decide) iX8_readsStreet_3 rfl dX8_readsStreet_53 ?_
      obtain ⟨h9, hf⟩ := x_gs hf
      obtain ⟨σ10, u11, hf⟩ := x_ws hf
      refine x_iast (kc := 1) (t0 := 0) B G.1 (by decide) m_c1 rfl h9 dX8_readsStreet_56 ?_
      refine x_nm u11 ?_
      refine x_aload_n B dX8_readsStreet_57 rfl 1 rfl ?_
      refine x_bipush (v := 44) B dX8_readsStreet_58 (by decide) ?_
      obtain ⟨r13, σ14, e12, hf⟩ := x_bs hf
      refine x_callV (As := [.int 44]) (st := []) B G (mX8_sign (l := l) G.1.2.1  e12) (cwV 1 B.2.2.2.2.1 gX8_readsStreet_X8_sign rfl rfl rfl hdX8_sign (x_rm_ok (by omega) (by decide))) (by decide) m_c0 rfl rfl rfl (Nat.le_of_ble_eq_true rfl) ⟨Nat.zero_le _, Nat.zero_le _⟩ dX8_readsStreet_60 ?_
      refine x_if_eq (tgt := 76) B dX8_readsStreet_63 (by decide) (fun h15 => ?_) (fun h15 => ?_)
      · replace hf := x_it h15 hf
        refine x_iconst (v := 0) B dX8_readsStreet_76 (by decide) ?_
        obtain ⟨rfl, rfl⟩ := x_retI hf
        exact x_zret B hr (by decide) dX8_readsStreet_77
      · replace hf := x_if h15 hf
        refine x_aload_n B dX8_readsStreet_66 rfl 1 rfl ?_
        refine x_iconst (v := 0) B dX8_readsStreet_67 (by decide) ?_
        refine x_bipush (v := 9) B dX8_readsStreet_68 (by decide) ?_
        obtain ⟨r17, σ18, e16, hf⟩ := x_bs hf
        refine x_callV (As := [.int 0, .int 9]) (st := []) B G (mX8_readsNumber (l := l) G.1.2.1  e16) (cwV 2 B.2.2.2.2.1 gX8_readsStreet_X8_readsNumber rfl rfl rfl hdX8_readsNumber (x_rm_ok (by omega) (by decide))) (by decide) m_c0 rfl rfl rfl (Nat.le_of_ble_eq_true rfl) ⟨Nat.zero_le _, Nat.zero_le _⟩ dX8_readsStreet_70 ?_
        refine x_if_ne (tgt := 78) B dX8_readsStreet_73 (by decide) (fun h19 => ?_) (fun h19 => ?_)
        · replace hf := x_if h19 hf
          refine x_aload_n B dX8_readsStreet_78 rfl 1 rfl ?_
          refine x_get (v := .ref (ad 1)) (kc := 0) (index := 7) B G.1 iX8_readsStreet_cX8 rfl (by decide) m_c0 0 (by decide) iX8_readsStreet_0 rfl dX8_readsStreet_79 ?_
          refine x_sipush (v := 1335) B dX8_readsStreet_82 (by decide) ?_
          refine x_iload_n B dX8_readsStreet_85 rfl 0 rfl ?_
          refine x_iadd B dX8_readsStreet_86 ?_
          refine x_aload_n B dX8_readsStreet_87 rfl 1 rfl ?_
          refine x_get (v := .int (σ18 0 15)) (kc := 0) (index := 93) B G.1 iX8_readsStreet_cX8 rfl (by decide) m_c0 15 (by decide) iX8_readsStreet_3 rfl dX8_readsStreet_88 ?_
          obtain ⟨h20, hf⟩ := x_gs hf
          obtain ⟨σ21, u22, hf⟩ := x_ws hf
          refine x_iast (kc := 1) (t0 := 0) B G.1 (by decide) m_c1 rfl h20 dX8_readsStreet_91 ?_
          refine x_nm u22 ?_
          refine x_aload_n B dX8_readsStreet_92 rfl 1 rfl ?_
          refine x_get (v := .ref (ad 1)) (kc := 0) (index := 7) B G.1 iX8_readsStreet_cX8 rfl (by decide) m_c0 0 (by decide) iX8_readsStreet_0 rfl dX8_readsStreet_93 ?_
          refine x_sipush (v := 1324) B dX8_readsStreet_96 (by decide) ?_
          refine x_dup2 B dX8_readsStreet_99 rfl rfl ?_
          refine x_iald (kc := 1) (t0 := 0) B G.1 (by decide) m_c1 rfl (by decide) dX8_readsStreet_100 ?_
          refine x_iconst (v := 1) B dX8_readsStreet_101 (by decide) ?_
          refine x_iadd B dX8_readsStreet_102 ?_
          obtain ⟨h24, hf⟩ := x_gs hf
          obtain ⟨σ25, u26, hf⟩ := x_ws hf
          refine x_iast (kc := 1) (t0 := 0) B G.1 (by decide) m_c1 rfl h24 dX8_readsStreet_103 ?_
          refine x_nm u26 ?_
          refine x_aload_n B dX8_readsStreet_104 rfl 1 rfl ?_
          refine x_bipush (v := 59) B dX8_readsStreet_105 (by decide) ?_
          obtain ⟨r28, σ29, e27, hf⟩ := x_bs hf
          refine x_callV (As := [.int 59]) (st := []) B G (mX8_sign (l := l) G.1.2.1  e27) (cwV 1 B.2.2.2.2.1 gX8_readsStreet_X8_sign rfl rfl rfl hdX8_sign (x_rm_ok (by omega) (by decide))) (by decide) m_c0 rfl rfl rfl (Nat.le_of_ble_eq_true rfl) ⟨Nat.zero_le _, Nat.zero_le _⟩ dX8_readsStreet_107 ?_
          obtain ⟨h30, hf⟩ := x_gs hf
          obtain ⟨rfl, rfl⟩ := x_retI hf
          exact x_zret B hr h30 dX8_readsStreet_110
        · replace hf := x_it h19 hf
          refine x_iconst (v := 0) B dX8_readsStreet_76 (by decide) ?_
          obtain ⟨rfl, rfl⟩ := x_retI hf
          exact x_zret B hr (by decide) dX8_readsStreet_77
    · replace hf := x_it h8 hf
      refine x_iconst (v := 0) B dX8_readsStreet_41 (by decide) ?_
      obtain ⟨rfl, rfl⟩ := x_retI hf
      exact x_zret B hr (by decide) dX8_readsStreet_42
  · replace hf := x_it h2 hf
    refine x_aload_n B dX8_readsStreet_15 rfl 1 rfl ?_
    refine x_iconst (v := 3) B dX8_readsStreet_16 (by decide) ?_
    obtain ⟨r32, σ33, e31, hf⟩ := x_bs hf
    refine x_callV (As := [.int 3]) (st := []) B G (mX8_refuse (l := l) G.1.2.1  e31) (cwV 1 B.2.2.2.2.1 gX8_readsStreet_X8_refuse rfl rfl rfl hdX8_refuse (x_rm_ok (by omega) (by decide))) (by decide) m_c0 rfl rfl rfl (Nat.le_of_ble_eq_true rfl) ⟨Nat.zero_le _, Nat.zero_le _⟩ dX8_readsStreet_17 ?_
    obtain ⟨h34, hf⟩ := x_gs hf
    obtain ⟨rfl, rfl⟩ := x_retI hf
    exact x_zret B hr h34 dX8_readsStreet_20
set_option maxRecDepth 100000 in
set_option maxHeartbeats 4000000 in
theorem mX8_kindOfLetter {σ : x_S} {a0 : Int32} (hdis : x_dis m_N ad) (hf : fX8_kindOfLetter a0 σ = some r0) : x_NI l yX8_kindOfLetter wsX8_kindOfLetter 0 D vwCl (s_tys cI cQ cC cZ) m_N (m_C cI cZ ad) ad m_St m_NW [.int a0] σ r0 σ := by
  refine x_met (cc := cX8_kindOfLetter) (own := RX8) (maxL := 1) (ret := (some .int)) (by decide +kernel) rfl rfl (Nat.le_of_ble_eq_true rfl) hdis m_StOk m_NwOk (fun p e s m args below meth c B G hr => ?_)
  unfold fX8_kindOfLetter at hf
  refine x_sub (lv' := [(0, .int a0)]) [0] rfl ?_
  refine x_iload_n B dX8_kindOfLetter_0 rfl 0 rfl ?_
  refine x_bipush (v := 119) B dX8_kindOfLetter_1 (by decide) ?_
  refine x_icmp_ne (tgt := 10) B dX8_kindOfLetter_3 (by decide) (fun h1 => ?_) (fun h1 => ?_)
  · replace hf := x_if h1 hf
    refine x_iload_n B dX8_kindOfLetter_10 rfl 0 rfl ?_
    refine x_bipush (v := 110) B dX8_kindOfLetter_11 (by decide) ?_
    refine x_icmp_ne (tgt := 20) B dX8_kindOfLetter_13 (by decide) (fun h2 => ?_) (fun h2 => ?_)
    · replace hf := x_if h2 hf
      refine x_iload_n B dX8_kindOfLetter_20 rfl 0 rfl ?_
      refine x_bipush (v := 98) B dX8_kindOfLetter_21 (by decide) ?_
      refine x_icmp_ne (tgt := 30) B dX8_kindOfLetter_23 (by decide) (fun h3 => ?_) (fun h3 => ?_)
      · replace hf := x_if h3 hf
        refine x_iload_n B dX8_kindOfLetter_30 rfl 0 rfl ?_
        refine x_bipush (v := 107) B dX8_kindOfLetter_31 (by decide) ?_
        refine x_icmp_ne (tgt := 40) B dX8_kindOfLetter_33 (by decide) (fun h4 => ?_) (fun h4 => ?_)
        · replace hf := x_if h4 hf
          refine x_iload_n B dX8_kindOfLetter_40 rfl 0 rfl ?_
          refine x_bipush (v := 115) B dX8_kindOfLetter_41 (by decide) ?_
          refine x_icmp_ne (tgt := 50) B dX8_kindOfLetter_43 (by decide) (fun h5 => ?_) (fun h5 => ?_)
          · replace hf := x_if h5 hf
            refine x_iconst (v := 0) B dX8_kindOfLetter_50 (by decide) ?_
            obtain rfl := x_retP hf
            exact x_iret B hr dX8_kindOfLetter_51
          · replace hf := x_it h5 hf
            refine x_iconst (v := 5) B dX8_kindOfLetter_46 (by decide) ?_
            refine x_goto (tgt := 51) B dX8_kindOfLetter_47 (by decide) ?_
            obtain rfl := x_retP hf
            exact x_iret B hr dX8_kindOfLetter_51
        · replace hf := x_it h4 hf
          refine x_iconst (v := 4) B dX8_kindOfLetter_36 (by decide) ?_
          refine x_goto (tgt := 51) B dX8_kindOfLetter_37 (by decide) ?_
          obtain rfl := x_retP hf
          exact x_iret B hr dX8_kindOfLetter_51
      · replace hf := x_it h3 hf
        refine x_iconst (v := 3) B dX8_kindOfLetter_26 (by decide) ?_
        refine x_goto (tgt := 51) B dX8_kindOfLetter_27 (by decide) ?_
        obtain rfl := x_retP hf
        exact x_iret B hr dX8_kindOfLetter_51
    · replace hf := x_it h2 hf
      refine x_iconst (v := 2) B dX8_kindOfLetter_16 (by decide) ?_
      refine x_goto (tgt := 51) B dX8_kindOfLetter_17 (by decide) ?_
      obtain rfl := x_retP hf
      exact x_iret B hr dX8_kindOfLetter_51
  · replace hf := x_it h1 hf
    refine x_iconst (v := 1) B dX8_kindOfLetter_6 (by decide) ?_
    refine x_goto (tgt := 51) B dX8_kindOfLetter_7 (by decide) ?_
    obtain rfl := x_retP hf
    exact x_iret B hr dX8_kindOfLetter_51
theorem iX8_readsGesture_0 : Cond.fieldLink RX8 7 "SignDutyModel" "row" "[I" ∈ wsX8_readsGesture := by decide +kernel
theorem iX8_readsGesture_cX8 : ∀ w ∈ u_ws RX8 TX8 17, w ∈ wsX8_readsGesture := by decide +kernel
theorem iX8_readsGesture_2 : Cond.fieldLink RX8 26 "SignDutyModel" "tape" "[I" ∈ wsX8_readsGesture := by decide +kernel
theorem iX8_readsGesture_3 : Cond.fieldLink RX8 74 "SignDutyModel" "at" "I" ∈ wsX8_readsGesture := by decide +kernel
theorem iX8_readsGesture_4 : Cond.fieldLink RX8 93 "SignDutyModel" "number" "I" ∈ wsX8_readsGesture := by decide +kernel
set_option maxRecDepth 100000 in
set_option maxHeartbeats 4000000 in
theorem mX8_readsGesture {σ : x_S} (hdis : x_dis m_N ad) (hf : fX8_readsGesture  σ = some (r0, σ0)) : x_NI l yX8_readsGesture wsX8_readsGesture 3 D vwCl (s_tys cI cQ cC cZ) m_N (m_C cI cZ ad) ad m_St m_NW [.ref (ad 0)] σ r0 σ0 := by
  refine x_met (cc := cX8_readsGesture) (own := RX8) (maxL := 2) (ret := (some .boolean)) (by decide +kernel) rfl rfl (Nat.le_of_ble_eq_true rfl) hdis m_StOk m_NwOk (fun p e s m args below meth c B G hr => ?_)
  unfold fX8_readsGesture at hf
  refine x_sub (lv' := [(0, .ref (ad 0))]) [0] rfl ?_
  refine x_aload_n B dX8_readsGesture_0 rfl 0 rfl ?_
  refine x_get (v := .ref (ad 1)) (kc := 0) (index := 7) B G.1 iX8_readsGesture_cX8 rfl (by decide) m_c0 0 (by decide) iX8_readsGesture_0 rfl dX8_readsGesture_1 ?_
  refine x_sipush (v := 1325) B dX8_readsGesture_4 (by decide) ?_
  refine x_iald (kc := 1) (t0 := 0) B G.1 (by decide) m_c1 rfl (by decide) dX8_readsGesture_7 ?_
  refine x_istore_n (lv' := [(1, .int (σ 1 (1325 : Int32).toNatClampNeg)), (0, .ref (ad 0))]) B dX8_readsGesture_8 rfl (by decide) rfl ?_
  refine x_iload_n B dX8_readsGesture_9 rfl 0 rfl ?_
  refine x_bipush (v := 6) B dX8_readsGesture_10 (by decide) ?_
  refine x_icmp_ne (tgt := 21) B dX8_readsGesture_12 (by decide) (fun h2 => ?_) (fun h2 => ?_)
  · replace hf := x_if h2 hf
    refine x_aload_n B dX8_readsGesture_21 rfl 1 rfl ?_
    refine x_get (v := .ref (ad 1)) (kc := 0) (index := 7) B G.1 iX8_readsGesture_cX8 rfl (by decide) m_c0 0 (by decide) iX8_readsGesture_0 rfl dX8_readsGesture_22 ?_
    refine x_sipush (v := 1342) B dX8_readsGesture_25 (by decide) ?_
    refine x_iload_n B dX8_readsGesture_28 rfl 0 rfl ?_
    refine x_iadd B dX8_readsGesture_29 ?_
    refine x_aload_n B dX8_readsGesture_30 rfl 1 rfl ?_
    refine x_get (v := .ref (ad 6)) (kc := 0) (index := 26) B G.1 iX8_readsGesture_cX8 rfl (by decide) m_c0 7 (by decide) iX8_readsGesture_2 rfl dX8_readsGesture_31 ?_
    refine x_aload_n B dX8_readsGesture_34 rfl 1 rfl ?_
    refine x_get (v := .int (σ 0 13)) (kc := 0) (index := 74) B G.1 iX8_readsGesture_cX8 rfl (by decide) m_c0 13 (by decide) iX8_readsGesture_3 rfl dX8_readsGesture_35 ?_
    obtain ⟨h3, hf⟩ := x_gs hf
    refine x_iald (kc := 6) (t0 := 0) B G.1 (by decide) m_c6 rfl h3 dX8_readsGesture_38 ?_
    obtain ⟨r5, e4, hf⟩ := x_ps hf
    refine x_callS (As := [.int (σ 6 (σ 0 13).toNatClampNeg)]) (st := [.int (1342 + (σ 1 (1325 : Int32).toNatClampNeg)), .ref (ad 1)]) B G (mX8_kindOfLetter (l := l) G.1.2.1  e4) (va_cwS 1 B.2.2.2.2.1 gX8_readsGesture_X8_kindOfLetter rfl rfl rfl hdX8_kindOfLetter (x_rm_ok (by omega) (by decide))) rfl rfl (Nat.le_of_ble_eq_true rfl) ⟨Nat.zero_le _, Nat.zero_le _⟩ dX8_readsGesture_39 ?_
    obtain ⟨h6, hf⟩ := x_gs hf
    obtain ⟨σ7, u8, hf⟩ := x_ws hf
    refine x_iast (kc := 1) (t0 := 0) B G.1 (by decide) m_c1 rfl h6 dX8_readsGesture_42 ?_
    refine x_nm u8 ?_
    refine x_aload_n B dX8_readsGesture_43 rfl 1 rfl ?_
    refine x_dup B dX8_readsGesture_44 rfl ?_
    refine x_get (v := .int (σ7 0 13)) (kc := 0) (index := 74) B G.1 iX8_readsGesture_cX8 rfl (by decide) m_c0 13 (by decide) iX8_readsGesture_3 rfl dX8_readsGesture_45 ?_
    refine x_iconst (v := 1) B dX8_readsGesture_48 (by decide) ?_
    refine x_iadd B dX8_readsGesture_49 ?_
    obtain ⟨σ9, u10, hf⟩ := x_ws hf
    refine x_put (v := ((σ7 0 13) + 1)) (ty := .int) (kc := 0) (index := 74) B G.1 iX8_readsGesture_cX8 tyX8 tyX8_ok nmX8 rfl (by decide) m_c0 13 (by decide) iX8_readsGesture_3 rfl rfl rfl rfl (Nat.le_of_ble_eq_true rfl) (m_w_13 _ _) dX8_readsGesture_50 ?_
    refine x_nm u10 ?_
    refine x_aload_n B dX8_readsGesture_53 rfl 1 rfl ?_
    refine x_iconst (v := 1) B dX8_readsGesture_54 (by decide) ?_
    refine x_bipush (v := 30) B dX8_readsGesture_55 (by decide) ?_
    obtain ⟨r12, σ13, e11, hf⟩ := x_bs hf
    refine x_callV (As := [.int 1, .int 30]) (st := []) B G (mX8_readsNumber (l := l) G.1.2.1  e11) (cwV 2 B.2.2.2.2.1 gX8_readsGesture_X8_readsNumber rfl rfl rfl hdX8_readsNumber (x_rm_ok (by omega) (by decide))) (by decide) m_c0 rfl rfl rfl (Nat.le_of_ble_eq_true rfl) ⟨Nat.zero_le _, Nat.zero_le _⟩ dX8_readsGesture_57 ?_
    refine x_if_ne (tgt := 65) B dX8_readsGesture_60 (by decide) (fun h14 => ?_) (fun h14 => ?_)
    · replace hf := x_if h14 hf
      refine x_aload_n B dX8_readsGesture_65 rfl 1 rfl ?_
      refine x_get (v := .ref (ad 1)) (kc := 0) (index := 7) B G.1 iX8_readsGesture_cX8 rfl (by decide) m_c0 0 (by decide) iX8_readsGesture_0 rfl dX8_readsGesture_66 ?_
      refine x_sipush (v := 1348) B dX8_readsGesture_69 (by decide) ?_
      refine x_iload_n B dX8_readsGesture_72 rfl 0 rfl ?_
      refine x_iadd B dX8_readsGesture_73 ?_
      refine x_aload_n B dX8_readsGesture_74 rfl 1 rfl ?_
      refine x_get (v := .int (σ13 0 15)) (kc := 0) (index := 93) B G.1 iX8_readsGesture_cX8 rfl (by decide) m_c0 15 (by decide) iX8_readsGesture_4 rfl dX8_readsGesture_75 ?_
      obtain ⟨h15, hf⟩ := x_gs hf
      obtain ⟨σ16, u17, hf⟩ := x_ws hf
      refine x_iast (kc := 1) (t0 := 0) B G.1 (by decide) m_c1 rfl h15 dX8_readsGesture_78 ?_
      refine x_nm u17 ?_
      refine x_aload_n B dX8_readsGesture_79 rfl 1 rfl ?_
      refine x_bipush (v := 44) B dX8_readsGesture_80 (by decide) ?_
      obtain ⟨r19, σ20, e18, hf⟩ := x_bs hf
      refine x_callV (As := [.int 44]) (st := []) B G (mX8_sign (l := l) G.1.2.1  e18) (cwV 1 B.2.2.2.2.1 gX8_readsGesture_X8_sign rfl rfl rfl hdX8_sign (x_rm_ok (by omega) (by decide))) (by decide) m_c0 rfl rfl rfl (Nat.le_of_ble_eq_true rfl) ⟨Nat.zero_le _, Nat.zero_le _⟩ dX8_readsGesture_82 ?_
      refine x_if_eq (tgt := 97) B dX8_readsGesture_85 (by decide) (fun h21 => ?_) (fun h21 => ?_)
      · replace hf := x_it h21 hf
        refine x_iconst (v := 0) B dX8_readsGesture_97 (by decide) ?_
        obtain ⟨rfl, rfl⟩ := x_retI hf
        exact x_zret B hr (by decide) dX8_readsGesture_98
      · replace hf := x_if h21 hf
        refine x_aload_n B dX8_readsGesture_88 rfl 1 rfl ?_
        refine x_iconst (v := 0) B dX8_readsGesture_89 (by decide) ?_
        refine x_iconst (v := 3) B dX8_readsGesture_90 (by decide) ?_
        obtain ⟨r23, σ24, e22, hf⟩ := x_bs hf
        refine x_callV (As := [.int 0, .int 3]) (st := []) B G (mX8_readsNumber (l := l) G.1.2.1  e22) (cwV 2 B.2.2.2.2.1 gX8_readsGesture_X8_readsNumber rfl rfl rfl hdX8_readsNumber (x_rm_ok (by omega) (by decide))) (by decide) m_c0 rfl rfl rfl (Nat.le_of_ble_eq_true rfl) ⟨Nat.zero_le _, Nat.zero_le _⟩ dX8_readsGesture_91 ?_
        refine x_if_ne (tgt := 99) B dX8_readsGesture_94 (by decide) (fun h25 => ?_) (fun h25 => ?_)
        · replace hf := x_if h25 hf
          refine x_aload_n B dX8_readsGesture_99 rfl 1 rfl ?_
          refine x_get (v := .ref (ad 1)) (kc := 0) (index := 7) B G.1 iX8_readsGesture_cX8 rfl (by decide) m_c0 0 (by decide) iX8_readsGesture_0 rfl dX8_readsGesture_100 ?_
          refine x_sipush (v := 1354) B dX8_readsGesture_103 (by decide) ?_
          refine x_iload_n B dX8_readsGesture_106 rfl 0 rfl ?_
          refine x_iadd B dX8_readsGesture_107 ?_
          refine x_aload_n B dX8_readsGesture_108 rfl 1 rfl ?_
          refine x_get (v := .int (σ24 0 15)) (kc := 0) (index := 93) B G.1 iX8_readsGesture_cX8 rfl (by decide) m_c0 15 (by decide) iX8_readsGesture_4 rfl dX8_readsGesture_109 ?_
          obtain ⟨h26, hf⟩ := x_gs hf
          obtain ⟨σ27, u28, hf⟩ := x_ws hf
          refine x_iast (kc := 1) (t0 := 0) B G.1 (by decide) m_c1 rfl h26 dX8_readsGesture_112 ?_
          refine x_nm u28 ?_
          refine x_aload_n B dX8_readsGesture_113 rfl 1 rfl ?_
          refine x_bipush (v := 44) B dX8_readsGesture_114 (by decide) ?_
          obtain ⟨r30, σ31, e29, hf⟩ := x_bs hf
          refine x_callV (As := [.int 44]) (st := []) B G (mX8_sign (l := l) G.1.2.1  e29) (cwV 1 B.2.2.2.2.1 gX8_readsGesture_X8_sign rfl rfl rfl hdX8_sign (x_rm_ok (by omega) (by decide))) (by decide) m_c0 rfl rfl rfl (Nat.le_of_ble_eq_true rfl) ⟨Nat.zero_le _, Nat.zero_le _⟩ dX8_readsGesture_116 ?_
          refine x_if_eq (tgt := 132) B dX8_readsGesture_119 (by decide) (fun h32 => ?_) (fun h32 => ?_)
          · replace hf := x_it h32 hf
            refine x_iconst (v := 0) B dX8_readsGesture_132 (by decide) ?_
            obtain ⟨rfl, rfl⟩ := x_retI hf
            exact x_zret B hr (by decide) dX8_readsGesture_133
          · replace hf := x_if h32 hf
            refine x_aload_n B dX8_readsGesture_122 rfl 1 rfl ?_
            refine x_iconst (v := 1) B dX8_readsGesture_123 (by decide) ?_
            refine x_bipush (v := 9) B dX8_readsGesture_124 (by decide) ?_
            obtain ⟨r34, σ35, e33, hf⟩ := x_bs hf
            refine x_callV (As := [.int 1, .int 9]) (st := []) B G (mX8_readsNumber (l := l) G.1.2.1  e33) (cwV 2 B.2.2.2.2.1 gX8_readsGesture_X8_readsNumber rfl rfl rfl hdX8_readsNumber (x_rm_ok (by omega) (by decide))) (by decide) m_c0 rfl rfl rfl (Nat.le_of_ble_eq_true rfl) ⟨Nat.zero_le _, Nat.zero_le _⟩ dX8_readsGesture_126 ?_
            refine x_if_ne (tgt := 134) B dX8_readsGesture_129 (by decide) (fun h36 => ?_) (fun h36 => ?_)
            · replace hf := x_if h36 hf
              refine x_aload_n B dX8_readsGesture_134 rfl 1 rfl ?_
              refine x_get (v := .ref (ad 1)) (kc := 0) (index := 7) B G.1 iX8_readsGesture_cX8 rfl (by decide) m_c0 0 (by decide) iX8_readsGesture_0 rfl dX8_readsGesture_135 ?_
              refine x_sipush (v := 1360) B dX8_readsGesture_138 (by decide) ?_
              refine x_iload_n B dX8_readsGesture_141 rfl 0 rfl ?_
              refine x_iadd B dX8_readsGesture_142 ?_
              refine x_aload_n B dX8_readsGesture_143 rfl 1 rfl ?_
              refine x_get (v := .int (σ35 0 15)) (kc := 0) (index := 93) B G.1 iX8_readsGesture_cX8 rfl (by decide) m_c0 15 (by decide) iX8_readsGesture_4 rfl dX8_readsGesture_144 ?_
              obtain ⟨h37, hf⟩ := x_gs hf
              obtain ⟨σ38, u39, hf⟩ := x_ws hf
              refine x_iast (kc := 1) (t0 := 0) B G.1 (by decide) m_c1 rfl h37 dX8_readsGesture_147 ?_
              refine x_nm u39 ?_
              refine x_aload_n B dX8_readsGesture_148 rfl 1 rfl ?_
              refine x_get (v := .ref (ad 1)) (kc := 0) (index := 7) B G.1 iX8_readsGesture_cX8 rfl (by decide) m_c0 0 (by decide) iX8_readsGesture_0 rfl dX8_readsGesture_149 ?_
              refine x_sipush (v := 1325) B dX8_readsGesture_152 (by decide) ?_
              refine x_dup2 B dX8_readsGesture_155 rfl rfl ?_
              refine x_iald (kc := 1) (t0 := 0) B G.1 (by decide) m_c1 rfl (by decide) dX8_readsGesture_156 ?_
              refine x_iconst (v := 1) B dX8_readsGesture_157 (by decide) ?_
              refine x_iadd B dX8_readsGesture_158 ?_
              obtain ⟨h41, hf⟩ := x_gs hf
              obtain ⟨σ42, u43, hf⟩ := x_ws hf
              refine x_iast (kc := 1) (t0 := 0) B G.1 (by decide) m_c1 rfl h41 dX8_readsGesture_159 ?_
              refine x_nm u43 ?_
              refine x_aload_n B dX8_readsGesture_160 rfl 1 rfl ?_
              refine x_bipush (v := 59) B dX8_readsGesture_161 (by decide) ?_
              obtain ⟨r45, σ46, e44, hf⟩ := x_bs hf
              refine x_callV (As := [.int 59]) (st := []) B G (mX8_sign (l := l) G.1.2.1  e44) (cwV 1 B.2.2.2.2.1 gX8_readsGesture_X8_sign rfl rfl rfl hdX8_sign (x_rm_ok (by omega) (by decide))) (by decide) m_c0 rfl rfl rfl (Nat.le_of_ble_eq_true rfl) ⟨Nat.zero_le _, Nat.zero_le _⟩ dX8_readsGesture_163 ?_
              obtain ⟨h47, hf⟩ := x_gs hf
              obtain ⟨rfl, rfl⟩ := x_retI hf
              exact x_zret B hr h47 dX8_readsGesture_166
            · replace hf := x_it h36 hf
              refine x_iconst (v := 0) B dX8_readsGesture_132 (by decide) ?_
              obtain ⟨rfl, rfl⟩ := x_retI hf
              exact x_zret B hr (by decide) dX8_readsGesture_133
        · replace hf := x_it h25 hf
          refine x_iconst (v := 0) B dX8_readsGesture_97 (by decide) ?_
          obtain ⟨rfl, rfl⟩ := x_retI hf
          exact x_zret B hr (by decide) dX8_readsGesture_98
    · replace hf := x_it h14 hf
      refine x_iconst (v := 0) B dX8_readsGesture_63 (by decide) ?_
      obtain ⟨rfl, rfl⟩ := x_retI hf
      exact x_zret B hr (by decide) dX8_readsGesture_64
  · replace hf := x_it h2 hf
    refine x_aload_n B dX8_readsGesture_15 rfl 1 rfl ?_
    refine x_iconst (v := 3) B dX8_readsGesture_16 (by decide) ?_
    obtain ⟨r49, σ50, e48, hf⟩ := x_bs hf
    refine x_callV (As := [.int 3]) (st := []) B G (mX8_refuse (l := l) G.1.2.1  e48) (cwV 1 B.2.2.2.2.1 gX8_readsGesture_X8_refuse rfl rfl rfl hdX8_refuse (x_rm_ok (by omega) (by decide))) (by decide) m_c0 rfl rfl rfl (Nat.le_of_ble_eq_true rfl) ⟨Nat.zero_le _, Nat.zero_le _⟩ dX8_readsGesture_17 ?_
    obtain ⟨h51, hf⟩ := x_gs hf
    obtain ⟨rfl, rfl⟩ := x_retI hf
    exact x_zret B hr h51 dX8_readsGesture_20
theorem iX8_reads_0 : Cond.fieldLink RX8 74 "SignDutyModel" "at" "I" ∈ wsX8_reads := by decide +kernel
theorem iX8_reads_cX8 : ∀ w ∈ u_ws RX8 TX8 17, w ∈ wsX8_reads := by decide +kernel
theorem iX8_reads_2 : Cond.fieldLink RX8 70 "SignDutyModel" "length" "I" ∈ wsX8_reads := by decide +kernel
theorem iX8_reads_3 : Cond.fieldLink RX8 26 "SignDutyModel" "tape" "[I" ∈ wsX8_reads := by decide +kernel
theorem iX8_reads_4 : Cond.fieldLink RX8 7 "SignDutyModel" "row" "[I" ∈ wsX8_reads := by decide +kernel
set_option maxRecDepth 100000 in
set_option maxHeartbeats 4000000 in
theorem kX8_reads_94 {σ : x_S} {x1 : Int32} (B : x_B p s m args meth c cX8_reads 2 wsX8_reads RX8) (G : x_H s D vwCl (s_tys cI cQ cC cZ) m_N ad (x_A m_N ad) m_St m_NW) (hr : meth.sig.returnType = (some .boolean)) (hf : bX8_reads_94  x1 σ = some (r0, σ0)) : x_J p l e (x_rm 4) s m args below meth c 0 0 (MQ below (x_Qi D vwCl m_N (m_C cI cZ ad) ad r0 σ0) args s 0 0 (x_A m_N ad)) (x_A m_N ad) 2 (x_I D vwCl m_N (m_C cI cZ ad) ad σ) [(0, .ref (ad 0)), (1, .int x1)] [] 94 := by
  unfold bX8_reads_94 at hf
  refine x_iload_n B dX8_reads_94 rfl 1 rfl ?_
  refine x_if_eq (tgt := 121) B dX8_reads_95 (by decide) (fun h1 => ?_) (fun h1 => ?_)
  · replace hf := x_it h1 hf
    refine x_iconst (v := 0) B dX8_reads_121 (by decide) ?_
    obtain ⟨rfl, rfl⟩ := x_retI hf
    exact x_zret B hr (by decide) dX8_reads_122
  · replace hf := x_if h1 hf
    refine x_aload_n B dX8_reads_98 rfl 0 rfl ?_
    refine x_get (v := .int (σ 0 13)) (kc := 0) (index := 74) B G.1 iX8_reads_cX8 rfl (by decide) m_c0 13 (by decide) iX8_reads_0 rfl dX8_reads_99 ?_
    refine x_aload_n B dX8_reads_102 rfl 0 rfl ?_
    refine x_get (v := .int (σ 0 8)) (kc := 0) (index := 70) B G.1 iX8_reads_cX8 rfl (by decide) m_c0 8 (by decide) iX8_reads_2 rfl dX8_reads_103 ?_
    refine x_icmp_eq (tgt := 117) B dX8_reads_106 (by decide) (fun h2 => ?_) (fun h2 => ?_)
    · replace hf := x_it h2 hf
      refine x_iconst (v := 1) B dX8_reads_117 (by decide) ?_
      refine x_goto (tgt := 122) B dX8_reads_118 (by decide) ?_
      obtain ⟨rfl, rfl⟩ := x_retI hf
      exact x_zret B hr (by decide) dX8_reads_122
    · replace hf := x_if h2 hf
      refine x_aload_n B dX8_reads_109 rfl 0 rfl ?_
      refine x_iconst (v := 1) B dX8_reads_110 (by decide) ?_
      obtain ⟨r4, σ5, e3, hf⟩ := x_bs hf
      refine x_callV (As := [.int 1]) (st := []) B G (mX8_refuse (l := l) G.1.2.1  e3) (cwV 1 B.2.2.2.2.1 gX8_reads_X8_refuse rfl rfl rfl hdX8_refuse (x_rm_ok (by omega) (by decide))) (by decide) m_c0 rfl rfl rfl (Nat.le_of_ble_eq_true rfl) ⟨Nat.zero_le _, Nat.zero_le _⟩ dX8_reads_111 ?_
      refine x_if_eq (tgt := 121) B dX8_reads_114 (by decide) (fun h6 => ?_) (fun h6 => ?_)
      · replace hf := x_it h6 hf
        refine x_iconst (v := 0) B dX8_reads_121 (by decide) ?_
        obtain ⟨rfl, rfl⟩ := x_retI hf
        exact x_zret B hr (by decide) dX8_reads_122
      · replace hf := x_if h6 hf
        refine x_iconst (v := 1) B dX8_reads_117 (by decide) ?_
        refine x_goto (tgt := 122) B dX8_reads_118 (by decide) ?_
        obtain ⟨rfl, rfl⟩ := x_retI hf
        exact x_zret B hr (by decide) dX8_reads_122
set_option maxRecDepth 100000 in
set_option maxHeartbeats 4000000 in
theorem qX8_reads_56 {σ : x_S} {x1 : Int32} {K56 : Int32 → x_S → Option (Int32 × x_S)} (B : x_B p s m args meth c cX8_reads 2 wsX8_reads RX8) (G : x_H s D vwCl (s_tys cI cQ cC cZ) m_N ad (x_A m_N ad) m_St m_NW) (hr : meth.sig.returnType = (some .boolean)) (hK56 : ∀ (x1 : Int32) (σ : x_S), K56 x1 σ = some (r0, σ0) → x_J p l e (x_rm 4) s m args below meth c 0 0 (MQ below (x_Qi D vwCl m_N (m_C cI cZ ad) ad r0 σ0) args s 0 0 (x_A m_N ad)) (x_A m_N ad) 2 (x_I D vwCl m_N (m_C cI cZ ad) ad σ) [(0, .ref (ad 0)), (1, .int x1)] [] 56) (hf : gX8_reads_56   K56 x1 σ = some (r0, σ0)) : x_J p l e (x_rm 4) s m args below meth c 0 0 (MQ below (x_Qi D vwCl m_N (m_C cI cZ ad) ad r0 σ0) args s 0 0 (x_A m_N ad)) (x_A m_N ad) 2 (x_I D vwCl m_N (m_C cI cZ ad) ad σ) [(0, .ref (ad 0)), (1, .int x1)] [] 56 := by
  unfold gX8_reads_56 at hf
  refine x_iload_n B dX8_reads_56 rfl 1 rfl ?_
  refine x_if_eq (tgt := 94) B dX8_reads_57 (by decide) (fun h1 => ?_) (fun h1 => ?_)
  · replace hf := x_it h1 hf
    refine x_sub [0, 1] rfl ?_
    exact kX8_reads_94 B G hr hf
  · replace hf := x_if h1 hf
    refine x_aload_n B dX8_reads_60 rfl 0 rfl ?_
    refine x_get (v := .int (σ 0 13)) (kc := 0) (index := 74) B G.1 iX8_reads_cX8 rfl (by decide) m_c0 13 (by decide) iX8_reads_0 rfl dX8_reads_61 ?_
    refine x_aload_n B dX8_reads_64 rfl 0 rfl ?_
    refine x_get (v := .int (σ 0 8)) (kc := 0) (index := 70) B G.1 iX8_reads_cX8 rfl (by decide) m_c0 8 (by decide) iX8_reads_2 rfl dX8_reads_65 ?_
    refine x_icmp_ge (tgt := 94) B dX8_reads_68 (by decide) (fun h2 => ?_) (fun h2 => ?_)
    · replace hf := x_it h2 hf
      refine x_sub [0, 1] rfl ?_
      exact kX8_reads_94 B G hr hf
    · replace hf := x_if h2 hf
      refine x_aload_n B dX8_reads_71 rfl 0 rfl ?_
      refine x_get (v := .ref (ad 6)) (kc := 0) (index := 26) B G.1 iX8_reads_cX8 rfl (by decide) m_c0 7 (by decide) iX8_reads_3 rfl dX8_reads_72 ?_
      refine x_aload_n B dX8_reads_75 rfl 0 rfl ?_
      refine x_get (v := .int (σ 0 13)) (kc := 0) (index := 74) B G.1 iX8_reads_cX8 rfl (by decide) m_c0 13 (by decide) iX8_reads_0 rfl dX8_reads_76 ?_
      obtain ⟨h3, hf⟩ := x_gs hf
      refine x_iald (kc := 6) (t0 := 0) B G.1 (by decide) m_c6 rfl h3 dX8_reads_79 ?_
      obtain ⟨r5, e4, hf⟩ := x_ps hf
      refine x_callS (As := [.int (σ 6 (σ 0 13).toNatClampNeg)]) (st := []) B G (mX8_kindOfLetter (l := l) G.1.2.1  e4) (va_cwS 1 B.2.2.2.2.1 gX8_reads_X8_kindOfLetter rfl rfl rfl hdX8_kindOfLetter (x_rm_ok (by omega) (by decide))) rfl rfl (Nat.le_of_ble_eq_true rfl) ⟨Nat.zero_le _, Nat.zero_le _⟩ dX8_reads_80 ?_
      refine x_if_le (tgt := 94) B dX8_reads_83 (by decide) (fun h6 => ?_) (fun h6 => ?_)
      · replace hf := x_it h6 hf
        refine x_sub [0, 1] rfl ?_
        exact kX8_reads_94 B G hr hf
      · replace hf := x_if h6 hf
        refine x_aload_n B dX8_reads_86 rfl 0 rfl ?_
        obtain ⟨r8, σ9, e7, hf⟩ := x_bs hf
        refine x_callV (As := []) (st := []) B G (mX8_readsGesture (l := l) G.1.2.1  e7) (cwV 0 B.2.2.2.2.1 gX8_reads_X8_readsGesture rfl rfl rfl hdX8_readsGesture (x_rm_ok (by omega) (by decide))) (by decide) m_c0 rfl rfl rfl (Nat.le_of_ble_eq_true rfl) ⟨Nat.zero_le _, Nat.zero_le _⟩ dX8_reads_87 ?_
        refine x_istore_n (lv' := [(1, .int r8), (0, .ref (ad 0))]) B dX8_reads_90 rfl (by decide) rfl ?_
        refine x_goto (tgt := 56) B dX8_reads_91 (by decide) ?_
        refine x_sub [1, 0] rfl ?_
        exact hK56 _ _ hf
set_option maxRecDepth 100000 in
set_option maxHeartbeats 4000000 in
theorem kX8_reads_56 {σ : x_S} {x1 : Int32} (B : x_B p s m args meth c cX8_reads 2 wsX8_reads RX8) (G : x_H s D vwCl (s_tys cI cQ cC cZ) m_N ad (x_A m_N ad) m_St m_NW) (hr : meth.sig.returnType = (some .boolean)) (hf : bX8_reads_56   x1 σ = some (r0, σ0)) : x_J p l e (x_rm 4) s m args below meth c 0 0 (MQ below (x_Qi D vwCl m_N (m_C cI cZ ad) ad r0 σ0) args s 0 0 (x_A m_N ad)) (x_A m_N ad) 2 (x_I D vwCl m_N (m_C cI cZ ad) ad σ) [(0, .ref (ad 0)), (1, .int x1)] [] 56 := by
  have key : ∀ (n : Nat) (x1 : Int32) (σ : x_S), x_fx (α := Int32 → x_S → Option (Int32 × x_S)) (fun _ _ => none) (fun K => fun x1 σ => gX8_reads_56   K x1 σ) n x1 σ = some (r0, σ0) → x_J p l e (x_rm 4) s m args below meth c 0 0 (MQ below (x_Qi D vwCl m_N (m_C cI cZ ad) ad r0 σ0) args s 0 0 (x_A m_N ad)) (x_A m_N ad) 2 (x_I D vwCl m_N (m_C cI cZ ad) ad σ) [(0, .ref (ad 0)), (1, .int x1)] [] 56 := by
    intro n
    induction n with
    | zero => intro x1 σ h; cases h
    | succ n ih => intro x1 σ h; exact qX8_reads_56 B G hr  ih  h
  exact key x_F x1 σ hf
set_option maxRecDepth 100000 in
set_option maxHeartbeats 4000000 in
theorem qX8_reads_35 {σ : x_S} {x1 : Int32} {K35 : Int32 → x_S → Option (Int32 × x_S)} (B : x_B p s m args meth c cX8_reads 2 wsX8_reads RX8) (G : x_H s D vwCl (s_tys cI cQ cC cZ) m_N ad (x_A m_N ad) m_St m_NW) (hr : meth.sig.returnType = (some .boolean)) (hK35 : ∀ (x1 : Int32) (σ : x_S), K35 x1 σ = some (r0, σ0) → x_J p l e (x_rm 4) s m args below meth c 0 0 (MQ below (x_Qi D vwCl m_N (m_C cI cZ ad) ad r0 σ0) args s 0 0 (x_A m_N ad)) (x_A m_N ad) 2 (x_I D vwCl m_N (m_C cI cZ ad) ad σ) [(0, .ref (ad 0)), (1, .int x1)] [] 35) (hf : gX8_reads_35   K35 x1 σ = some (r0, σ0)) : x_J p l e (x_rm 4) s m args below meth c 0 0 (MQ below (x_Qi D vwCl m_N (m_C cI cZ ad) ad r0 σ0) args s 0 0 (x_A m_N ad)) (x_A m_N ad) 2 (x_I D vwCl m_N (m_C cI cZ ad) ad σ) [(0, .ref (ad 0)), (1, .int x1)] [] 35 := by
  unfold gX8_reads_35 at hf
  refine x_iload_n B dX8_reads_35 rfl 1 rfl ?_
  refine x_if_eq (tgt := 56) B dX8_reads_36 (by decide) (fun h1 => ?_) (fun h1 => ?_)
  · replace hf := x_it h1 hf
    refine x_sub [0, 1] rfl ?_
    exact kX8_reads_56 B G hr hf
  · replace hf := x_if h1 hf
    refine x_aload_n B dX8_reads_39 rfl 0 rfl ?_
    refine x_bipush (v := 114) B dX8_reads_40 (by decide) ?_
    obtain ⟨r3, e2, hf⟩ := x_ps hf
    refine x_callV (As := [.int 114]) (st := []) B G (mX8_isLetter (l := l) G.1.2.1  e2) (cwV 1 B.2.2.2.2.1 gX8_reads_X8_isLetter rfl rfl rfl hdX8_isLetter (x_rm_ok (by omega) (by decide))) (by decide) m_c0 rfl rfl rfl (Nat.le_of_ble_eq_true rfl) ⟨Nat.zero_le _, Nat.zero_le _⟩ dX8_reads_42 ?_
    refine x_if_eq (tgt := 56) B dX8_reads_45 (by decide) (fun h4 => ?_) (fun h4 => ?_)
    · replace hf := x_it h4 hf
      refine x_sub [0, 1] rfl ?_
      exact kX8_reads_56 B G hr hf
    · replace hf := x_if h4 hf
      refine x_aload_n B dX8_reads_48 rfl 0 rfl ?_
      obtain ⟨r6, σ7, e5, hf⟩ := x_bs hf
      refine x_callV (As := []) (st := []) B G (mX8_readsStreet (l := l) G.1.2.1  e5) (cwV 0 B.2.2.2.2.1 gX8_reads_X8_readsStreet rfl rfl rfl hdX8_readsStreet (x_rm_ok (by omega) (by decide))) (by decide) m_c0 rfl rfl rfl (Nat.le_of_ble_eq_true rfl) ⟨Nat.zero_le _, Nat.zero_le _⟩ dX8_reads_49 ?_
      refine x_istore_n (lv' := [(1, .int r6), (0, .ref (ad 0))]) B dX8_reads_52 rfl (by decide) rfl ?_
      refine x_goto (tgt := 35) B dX8_reads_53 (by decide) ?_
      refine x_sub [1, 0] rfl ?_
      exact hK35 _ _ hf
set_option maxRecDepth 100000 in
set_option maxHeartbeats 4000000 in
theorem kX8_reads_35 {σ : x_S} {x1 : Int32} (B : x_B p s m args meth c cX8_reads 2 wsX8_reads RX8) (G : x_H s D vwCl (s_tys cI cQ cC cZ) m_N ad (x_A m_N ad) m_St m_NW) (hr : meth.sig.returnType = (some .boolean)) (hf : bX8_reads_35   x1 σ = some (r0, σ0)) : x_J p l e (x_rm 4) s m args below meth c 0 0 (MQ below (x_Qi D vwCl m_N (m_C cI cZ ad) ad r0 σ0) args s 0 0 (x_A m_N ad)) (x_A m_N ad) 2 (x_I D vwCl m_N (m_C cI cZ ad) ad σ) [(0, .ref (ad 0)), (1, .int x1)] [] 35 := by
  have key : ∀ (n : Nat) (x1 : Int32) (σ : x_S), x_fx (α := Int32 → x_S → Option (Int32 × x_S)) (fun _ _ => none) (fun K => fun x1 σ => gX8_reads_35   K x1 σ) n x1 σ = some (r0, σ0) → x_J p l e (x_rm 4) s m args below meth c 0 0 (MQ below (x_Qi D vwCl m_N (m_C cI cZ ad) ad r0 σ0) args s 0 0 (x_A m_N ad)) (x_A m_N ad) 2 (x_I D vwCl m_N (m_C cI cZ ad) ad σ) [(0, .ref (ad 0)), (1, .int x1)] [] 35 := by
    intro n
    induction n with
    | zero => intro x1 σ h; cases h
    | succ n ih => intro x1 σ h; exact qX8_reads_35 B G hr  ih  h
  exact key x_F x1 σ hf
set_option maxRecDepth 100000 in
set_option maxHeartbeats 4000000 in
theorem qX8_reads_2 {σ : x_S} {x1 : Int32} {K2 : Int32 → x_S → Option (Int32 × x_S)} (B : x_B p s m args meth c cX8_reads 2 wsX8_reads RX8) (G : x_H s D vwCl (s_tys cI cQ cC cZ) m_N ad (x_A m_N ad) m_St m_NW) (hr : meth.sig.returnType = (some .boolean)) (hK2 : ∀ (x1 : Int32) (σ : x_S), K2 x1 σ = some (r0, σ0) → x_J p l e (x_rm 4) s m args below meth c 0 0 (MQ below (x_Qi D vwCl m_N (m_C cI cZ ad) ad r0 σ0) args s 0 0 (x_A m_N ad)) (x_A m_N ad) 2 (x_I D vwCl m_N (m_C cI cZ ad) ad σ) [(0, .ref (ad 0)), (1, .int x1)] [] 2) (hf : gX8_reads_2   K2 x1 σ = some (r0, σ0)) : x_J p l e (x_rm 4) s m args below meth c 0 0 (MQ below (x_Qi D vwCl m_N (m_C cI cZ ad) ad r0 σ0) args s 0 0 (x_A m_N ad)) (x_A m_N ad) 2 (x_I D vwCl m_N (m_C cI cZ ad) ad σ) [(0, .ref (ad 0)), (1, .int x1)] [] 2 := by
  unfold gX8_reads_2 at hf
  refine x_iload_n B dX8_reads_2 rfl 1 rfl ?_
  refine x_bipush (v := 49) B dX8_reads_3 (by decide) ?_
  refine x_icmp_ge (tgt := 25) B dX8_reads_5 (by decide) (fun h1 => ?_) (fun h1 => ?_)
  · replace hf := x_it h1 hf
    refine x_aload_n B dX8_reads_25 rfl 0 rfl ?_
    refine x_iconst (v := 0) B dX8_reads_26 (by decide) ?_
    obtain ⟨σ2, u3, hf⟩ := x_ws hf
    refine x_put (v := 0) (ty := .int) (kc := 0) (index := 74) B G.1 iX8_reads_cX8 tyX8 tyX8_ok nmX8 rfl (by decide) m_c0 13 (by decide) iX8_reads_0 rfl rfl rfl rfl (Nat.le_of_ble_eq_true rfl) (m_w_13 _ _) dX8_reads_27 ?_
    refine x_nm u3 ?_
    refine x_aload_n B dX8_reads_30 rfl 0 rfl ?_
    obtain ⟨r5, σ6, e4, hf⟩ := x_bs hf
    refine x_callV (As := []) (st := []) B G (mX8_readsLaw (l := l) G.1.2.1  e4) (cwV 0 B.2.2.2.2.1 gX8_reads_X8_readsLaw rfl rfl rfl hdX8_readsLaw (x_rm_ok (by omega) (by decide))) (by decide) m_c0 rfl rfl rfl (Nat.le_of_ble_eq_true rfl) ⟨Nat.zero_le _, Nat.zero_le _⟩ dX8_reads_31 ?_
    refine x_istore_n (lv' := [(1, .int r5), (0, .ref (ad 0))]) B dX8_reads_34 rfl (by decide) rfl ?_
    refine x_sub [1, 0] rfl ?_
    exact kX8_reads_35 B G hr hf
  · replace hf := x_if h1 hf
    refine x_aload_n B dX8_reads_8 rfl 0 rfl ?_
    refine x_get (v := .ref (ad 1)) (kc := 0) (index := 7) B G.1 iX8_reads_cX8 rfl (by decide) m_c0 0 (by decide) iX8_reads_4 rfl dX8_reads_9 ?_
    refine x_sipush (v := 1323) B dX8_reads_12 (by decide) ?_
    refine x_iload_n B dX8_reads_15 rfl 1 rfl ?_
    refine x_iadd B dX8_reads_16 ?_
    refine x_iconst (v := 0) B dX8_reads_17 (by decide) ?_
    obtain ⟨h7, hf⟩ := x_gs hf
    obtain ⟨σ8, u9, hf⟩ := x_ws hf
    refine x_iast (kc := 1) (t0 := 0) B G.1 (by decide) m_c1 rfl h7 dX8_reads_18 ?_
    refine x_nm u9 ?_
    refine x_iinc (v := (x1 + 1)) (lv' := [(1, .int (x1 + 1)), (0, .ref (ad 0))]) B dX8_reads_19 1 rfl rfl (by decide) rfl ?_
    refine x_goto (tgt := 2) B dX8_reads_22 (by decide) ?_
    refine x_sub [1, 0] rfl ?_
    exact hK2 _ _ hf
set_option maxRecDepth 100000 in
set_option maxHeartbeats 4000000 in
theorem kX8_reads_2 {σ : x_S} {x1 : Int32} (B : x_B p s m args meth c cX8_reads 2 wsX8_reads RX8) (G : x_H s D vwCl (s_tys cI cQ cC cZ) m_N ad (x_A m_N ad) m_St m_NW) (hr : meth.sig.returnType = (some .boolean)) (hf : bX8_reads_2   x1 σ = some (r0, σ0)) : x_J p l e (x_rm 4) s m args below meth c 0 0 (MQ below (x_Qi D vwCl m_N (m_C cI cZ ad) ad r0 σ0) args s 0 0 (x_A m_N ad)) (x_A m_N ad) 2 (x_I D vwCl m_N (m_C cI cZ ad) ad σ) [(0, .ref (ad 0)), (1, .int x1)] [] 2 := by
  have key : ∀ (n : Nat) (x1 : Int32) (σ : x_S), x_fx (α := Int32 → x_S → Option (Int32 × x_S)) (fun _ _ => none) (fun K => fun x1 σ => gX8_reads_2   K x1 σ) n x1 σ = some (r0, σ0) → x_J p l e (x_rm 4) s m args below meth c 0 0 (MQ below (x_Qi D vwCl m_N (m_C cI cZ ad) ad r0 σ0) args s 0 0 (x_A m_N ad)) (x_A m_N ad) 2 (x_I D vwCl m_N (m_C cI cZ ad) ad σ) [(0, .ref (ad 0)), (1, .int x1)] [] 2 := by
    intro n
    induction n with
    | zero => intro x1 σ h; cases h
    | succ n ih => intro x1 σ h; exact qX8_reads_2 B G hr  ih  h
  exact key x_F x1 σ hf
set_option maxRecDepth 100000 in
set_option maxHeartbeats 4000000 in
theorem mX8_reads {σ : x_S} (hdis : x_dis m_N ad) (hf : fX8_reads  σ = some (r0, σ0)) : x_NI l yX8_reads wsX8_reads 4 D vwCl (s_tys cI cQ cC cZ) m_N (m_C cI cZ ad) ad m_St m_NW [.ref (ad 0)] σ r0 σ0 := by
  refine x_met (cc := cX8_reads) (own := RX8) (maxL := 2) (ret := (some .boolean)) (by decide +kernel) rfl rfl (Nat.le_of_ble_eq_true rfl) hdis m_StOk m_NwOk (fun p e s m args below meth c B G hr => ?_)
  unfold fX8_reads at hf
  refine x_sub (lv' := [(0, .ref (ad 0))]) [0] rfl ?_
  refine x_iconst (v := 0) B dX8_reads_0 (by decide) ?_
  refine x_istore_n (lv' := [(1, .int 0), (0, .ref (ad 0))]) B dX8_reads_1 rfl (by decide) rfl ?_
  refine x_sub [1, 0] rfl ?_
  exact kX8_reads_2 B G hr hf
theorem iX8_copyTown_0 : Cond.fieldLink RX8 7 "SignDutyModel" "row" "[I" ∈ wsX8_copyTown := by decide +kernel
theorem iX8_copyTown_cX8 : ∀ w ∈ u_ws RX8 TX8 17, w ∈ wsX8_copyTown := by decide +kernel
set_option maxRecDepth 100000 in
set_option maxHeartbeats 4000000 in
theorem qX8_copyTown_2 {σ : x_S} {x1 : Int32} {x2 : Int32} {x3 : Int32} {K2 : Int32 → x_S → Option x_S} (B : x_B p s m args meth c cX8_copyTown 4 wsX8_copyTown RX8) (G : x_H s D vwCl (s_tys cI cQ cC cZ) m_N ad (x_A m_N ad) m_St m_NW) (hr : meth.sig.returnType = none) (hK2 : ∀ (x3 : Int32) (σ : x_S), K2 x3 σ = some σ0 → x_J p l e (x_rm 0) s m args below meth c 0 0 (MQ below (x_Qv D vwCl m_N (m_C cI cZ ad) ad σ0) args s 0 0 (x_A m_N ad)) (x_A m_N ad) 4 (x_I D vwCl m_N (m_C cI cZ ad) ad σ) [(0, .ref (ad 0)), (1, .int x1), (2, .int x2), (3, .int x3)] [] 2) (hf : gX8_copyTown_2  x1 x2 K2 x3 σ = some σ0) : x_J p l e (x_rm 0) s m args below meth c 0 0 (MQ below (x_Qv D vwCl m_N (m_C cI cZ ad) ad σ0) args s 0 0 (x_A m_N ad)) (x_A m_N ad) 4 (x_I D vwCl m_N (m_C cI cZ ad) ad σ) [(0, .ref (ad 0)), (1, .int x1), (2, .int x2), (3, .int x3)] [] 2 := by
  unfold gX8_copyTown_2 at hf
  refine x_iload_n B dX8_copyTown_2 rfl 3 rfl ?_
  refine x_bipush (v := 49) B dX8_copyTown_3 (by decide) ?_
  refine x_icmp_ge (tgt := 30) B dX8_copyTown_5 (by decide) (fun h1 => ?_) (fun h1 => ?_)
  · replace hf := x_it h1 hf
    obtain rfl := x_retV hf
    exact x_vret B hr dX8_copyTown_30
  · replace hf := x_if h1 hf
    refine x_aload_n B dX8_copyTown_8 rfl 0 rfl ?_
    refine x_get (v := .ref (ad 1)) (kc := 0) (index := 7) B G.1 iX8_copyTown_cX8 rfl (by decide) m_c0 0 (by decide) iX8_copyTown_0 rfl dX8_copyTown_9 ?_
    refine x_iload_n B dX8_copyTown_12 rfl 2 rfl ?_
    refine x_iload_n B dX8_copyTown_13 rfl 3 rfl ?_
    refine x_iadd B dX8_copyTown_14 ?_
    refine x_aload_n B dX8_copyTown_15 rfl 0 rfl ?_
    refine x_get (v := .ref (ad 1)) (kc := 0) (index := 7) B G.1 iX8_copyTown_cX8 rfl (by decide) m_c0 0 (by decide) iX8_copyTown_0 rfl dX8_copyTown_16 ?_
    refine x_iload_n B dX8_copyTown_19 rfl 1 rfl ?_
    refine x_iload_n B dX8_copyTown_20 rfl 3 rfl ?_
    refine x_iadd B dX8_copyTown_21 ?_
    obtain ⟨h2, hf⟩ := x_gs hf
    refine x_iald (kc := 1) (t0 := 0) B G.1 (by decide) m_c1 rfl h2 dX8_copyTown_22 ?_
    obtain ⟨h3, hf⟩ := x_gs hf
    obtain ⟨σ4, u5, hf⟩ := x_ws hf
    refine x_iast (kc := 1) (t0 := 0) B G.1 (by decide) m_c1 rfl h3 dX8_copyTown_23 ?_
    refine x_nm u5 ?_
    refine x_iinc (v := (x3 + 1)) (lv' := [(3, .int (x3 + 1)), (0, .ref (ad 0)), (1, .int x1), (2, .int x2)]) B dX8_copyTown_24 3 rfl rfl (by decide) rfl ?_
    refine x_goto (tgt := 2) B dX8_copyTown_27 (by decide) ?_
    refine x_sub [1, 2, 3, 0] rfl ?_
    exact hK2 _ _ hf
set_option maxRecDepth 100000 in
set_option maxHeartbeats 4000000 in
theorem kX8_copyTown_2 {σ : x_S} {x1 : Int32} {x2 : Int32} {x3 : Int32} (B : x_B p s m args meth c cX8_copyTown 4 wsX8_copyTown RX8) (G : x_H s D vwCl (s_tys cI cQ cC cZ) m_N ad (x_A m_N ad) m_St m_NW) (hr : meth.sig.returnType = none) (hf : bX8_copyTown_2  x1 x2 x3 σ = some σ0) : x_J p l e (x_rm 0) s m args below meth c 0 0 (MQ below (x_Qv D vwCl m_N (m_C cI cZ ad) ad σ0) args s 0 0 (x_A m_N ad)) (x_A m_N ad) 4 (x_I D vwCl m_N (m_C cI cZ ad) ad σ) [(0, .ref (ad 0)), (1, .int x1), (2, .int x2), (3, .int x3)] [] 2 := by
  have key : ∀ (n : Nat) (x3 : Int32) (σ : x_S), x_fx (α := Int32 → x_S → Option x_S) (fun _ _ => none) (fun K => fun x3 σ => gX8_copyTown_2  x1 x2 K x3 σ) n x3 σ = some σ0 → x_J p l e (x_rm 0) s m args below meth c 0 0 (MQ below (x_Qv D vwCl m_N (m_C cI cZ ad) ad σ0) args s 0 0 (x_A m_N ad)) (x_A m_N ad) 4 (x_I D vwCl m_N (m_C cI cZ ad) ad σ) [(0, .ref (ad 0)), (1, .int x1), (2, .int x2), (3, .int x3)] [] 2 := by
    intro n
    induction n with
    | zero => intro x3 σ h; cases h
    | succ n ih => intro x3 σ h; exact qX8_copyTown_2 B G hr  ih  h
  exact key x_F x3 σ hf
set_option maxRecDepth 100000 in
set_option maxHeartbeats 4000000 in
theorem mX8_copyTown {σ : x_S} {a1 : Int32} {a2 : Int32} (hdis : x_dis m_N ad) (hf : fX8_copyTown a1 a2 σ = some σ0) : x_NV l yX8_copyTown wsX8_copyTown 0 D vwCl (s_tys cI cQ cC cZ) m_N (m_C cI cZ ad) ad m_St m_NW [.ref (ad 0), .int a1, .int a2] σ σ0 := by
  refine x_met (cc := cX8_copyTown) (own := RX8) (maxL := 4) (ret := none) (by decide +kernel) rfl rfl (Nat.le_of_ble_eq_true rfl) hdis m_StOk m_NwOk (fun p e s m args below meth c B G hr => ?_)
  unfold fX8_copyTown at hf
  refine x_sub (lv' := [(0, .ref (ad 0)), (1, .int a1), (2, .int a2)]) [0, 1, 2] rfl ?_
  refine x_iconst (v := 0) B dX8_copyTown_0 (by decide) ?_
  refine x_istore_n (lv' := [(3, .int 0), (0, .ref (ad 0)), (1, .int a1), (2, .int a2)]) B dX8_copyTown_1 rfl (by decide) rfl ?_
  refine x_sub [1, 2, 3, 0] rfl ?_
  exact kX8_copyTown_2 B G hr hf
theorem iX8_city_0 : Cond.fieldLink RX8 70 "SignDutyModel" "length" "I" ∈ wsX8_city := by decide +kernel
theorem iX8_city_cX8 : ∀ w ∈ u_ws RX8 TX8 17, w ∈ wsX8_city := by decide +kernel
theorem iX8_city_2 : Cond.fieldLink RX8 127 "SignDutyModel" "isCity" "Z" ∈ wsX8_city := by decide +kernel
theorem iX8_city_3 : Cond.fieldLink RX8 131 "SignDutyModel" "undos" "I" ∈ wsX8_city := by decide +kernel
theorem iX8_city_4 : Cond.fieldLink RX8 7 "SignDutyModel" "row" "[I" ∈ wsX8_city := by decide +kernel
theorem iX8_city_5 : Cond.fieldLink RX8 81 "SignDutyModel" "wrong" "I" ∈ wsX8_city := by decide +kernel
theorem iX8_city_6 : Cond.fieldLink RX8 119 "SignDutyModel" "fault" "I" ∈ wsX8_city := by decide +kernel
theorem iX8_city_7 : Cond.constant RX8 122 (-1000100) ∈ wsX8_city := by decide +kernel
theorem iX8_city_8 : Cond.fieldLink RX8 74 "SignDutyModel" "at" "I" ∈ wsX8_city := by decide +kernel
set_option maxRecDepth 100000 in
set_option maxHeartbeats 4000000 in
theorem mX8_city {σ : x_S} (hdis : x_dis m_N ad) (hf : fX8_city  σ = some (r0, σ0)) : x_NI l yX8_city wsX8_city 5 D vwCl (s_tys cI cQ cC cZ) m_N (m_C cI cZ ad) ad m_St m_NW [.ref (ad 0)] σ r0 σ0 := by
  refine x_met (cc := cX8_city) (own := RX8) (maxL := 2) (ret := (some .int)) (by decide +kernel) rfl rfl (Nat.le_of_ble_eq_true rfl) hdis m_StOk m_NwOk (fun p e s m args below meth c B G hr => ?_)
  unfold fX8_city at hf
  refine x_sub (lv' := [(0, .ref (ad 0))]) [0] rfl ?_
  refine x_aload_n B dX8_city_0 rfl 0 rfl ?_
  obtain ⟨r2, σ3, e1, hf⟩ := x_bs hf
  refine x_callV (As := []) (st := []) B G (mX8_reads (l := l) G.1.2.1  e1) (cwV 0 B.2.2.2.2.1 gX8_city_X8_reads rfl rfl rfl hdX8_reads (x_rm_ok (by omega) (by decide))) (by decide) m_c0 rfl rfl rfl (Nat.le_of_ble_eq_true rfl) ⟨Nat.zero_le _, Nat.zero_le _⟩ dX8_city_1 ?_
  refine x_istore_n (lv' := [(1, .int r2), (0, .ref (ad 0))]) B dX8_city_4 rfl (by decide) rfl ?_
  refine x_aload_n B dX8_city_5 rfl 1 rfl ?_
  refine x_iconst (v := 0) B dX8_city_6 (by decide) ?_
  obtain ⟨σ4, u5, hf⟩ := x_ws hf
  refine x_put (v := 0) (ty := .int) (kc := 0) (index := 70) B G.1 iX8_city_cX8 tyX8 tyX8_ok nmX8 rfl (by decide) m_c0 8 (by decide) iX8_city_0 rfl rfl rfl rfl (Nat.le_of_ble_eq_true rfl) (m_w_8 _ _) dX8_city_7 ?_
  refine x_nm u5 ?_
  refine x_iload_n B dX8_city_10 rfl 0 rfl ?_
  refine x_if_ne (tgt := 30) B dX8_city_11 (by decide) (fun h6 => ?_) (fun h6 => ?_)
  · replace hf := x_if h6 hf
    refine x_aload_n B dX8_city_30 rfl 1 rfl ?_
    refine x_sipush (v := 1323) B dX8_city_31 (by decide) ?_
    refine x_iconst (v := 0) B dX8_city_34 (by decide) ?_
    obtain ⟨σ8, e7, hf⟩ := x_vs hf
    refine x_callVv (As := [.int 1323, .int 0]) (st := []) B G (mX8_copyTown (l := l) G.1.2.1  e7) (cwV 2 B.2.2.2.2.1 gX8_city_X8_copyTown rfl rfl rfl hdX8_copyTown (x_rm_ok (by omega) (by decide))) (by decide) m_c0 rfl rfl rfl (Nat.le_of_ble_eq_true rfl) ⟨Nat.zero_le _, Nat.zero_le _⟩ dX8_city_35 ?_
    refine x_aload_n B dX8_city_38 rfl 1 rfl ?_
    refine x_iconst (v := 1) B dX8_city_39 (by decide) ?_
    obtain ⟨σ9, u10, hf⟩ := x_ws hf
    refine x_put (v := 1) (ty := .boolean) (kc := 0) (index := 127) B G.1 iX8_city_cX8 tyX8 tyX8_ok nmX8 rfl (by decide) m_c0 1 (by decide) iX8_city_2 rfl rfl rfl (by decide) (Nat.le_of_ble_eq_true rfl) (m_w_1 _ _) dX8_city_40 ?_
    refine x_nm u10 ?_
    refine x_aload_n B dX8_city_43 rfl 1 rfl ?_
    refine x_iconst (v := 0) B dX8_city_44 (by decide) ?_
    obtain ⟨σ11, u12, hf⟩ := x_ws hf
    refine x_put (v := 0) (ty := .int) (kc := 0) (index := 131) B G.1 iX8_city_cX8 tyX8 tyX8_ok nmX8 rfl (by decide) m_c0 2 (by decide) iX8_city_3 rfl rfl rfl rfl (Nat.le_of_ble_eq_true rfl) (m_w_2 _ _) dX8_city_45 ?_
    refine x_nm u12 ?_
    refine x_aload_n B dX8_city_48 rfl 1 rfl ?_
    refine x_get (v := .ref (ad 1)) (kc := 0) (index := 7) B G.1 iX8_city_cX8 rfl (by decide) m_c0 0 (by decide) iX8_city_4 rfl dX8_city_49 ?_
    refine x_iconst (v := 2) B dX8_city_52 (by decide) ?_
    refine x_iald (kc := 1) (t0 := 0) B G.1 (by decide) m_c1 rfl (by decide) dX8_city_53 ?_
    obtain ⟨rfl, rfl⟩ := x_retI hf
    exact x_iret B hr dX8_city_54
  · replace hf := x_it h6 hf
    refine x_aload_n B dX8_city_14 rfl 1 rfl ?_
    refine x_aload_n B dX8_city_15 rfl 1 rfl ?_
    refine x_get (v := .int (σ4 0 14)) (kc := 0) (index := 81) B G.1 iX8_city_cX8 rfl (by decide) m_c0 14 (by decide) iX8_city_5 rfl dX8_city_16 ?_
    obtain ⟨σ14, u15, hf⟩ := x_ws hf
    refine x_put (v := (σ4 0 14)) (ty := .int) (kc := 0) (index := 119) B G.1 iX8_city_cX8 tyX8 tyX8_ok nmX8 rfl (by decide) m_c0 9 (by decide) iX8_city_6 rfl rfl rfl rfl (Nat.le_of_ble_eq_true rfl) (m_w_9 _ _) dX8_city_19 ?_
    refine x_nm u15 ?_
    refine x_ldc (v := (-1000100)) B iX8_city_7 dX8_city_22 ?_
    refine x_aload_n B dX8_city_24 rfl 1 rfl ?_
    refine x_get (v := .int (σ14 0 13)) (kc := 0) (index := 74) B G.1 iX8_city_cX8 rfl (by decide) m_c0 13 (by decide) iX8_city_8 rfl dX8_city_25 ?_
    refine x_isub B dX8_city_28 ?_
    obtain ⟨rfl, rfl⟩ := x_retI hf
    exact x_iret B hr dX8_city_29
theorem iX8_fault_0 : Cond.fieldLink RX8 119 "SignDutyModel" "fault" "I" ∈ wsX8_fault := by decide +kernel
theorem iX8_fault_cX8 : ∀ w ∈ u_ws RX8 TX8 17, w ∈ wsX8_fault := by decide +kernel
set_option maxRecDepth 100000 in
set_option maxHeartbeats 4000000 in
theorem mX8_fault {σ : x_S} (hdis : x_dis m_N ad) (hf : fX8_fault  σ = some r0) : x_NI l yX8_fault wsX8_fault 0 D vwCl (s_tys cI cQ cC cZ) m_N (m_C cI cZ ad) ad m_St m_NW [.ref (ad 0)] σ r0 σ := by
  refine x_met (cc := cX8_fault) (own := RX8) (maxL := 1) (ret := (some .int)) (by decide +kernel) rfl rfl (Nat.le_of_ble_eq_true rfl) hdis m_StOk m_NwOk (fun p e s m args below meth c B G hr => ?_)
  unfold fX8_fault at hf
  refine x_sub (lv' := [(0, .ref (ad 0))]) [0] rfl ?_
  refine x_aload_n B dX8_fault_0 rfl 0 rfl ?_
  refine x_get (v := .int (σ 0 9)) (kc := 0) (index := 119) B G.1 iX8_fault_cX8 rfl (by decide) m_c0 9 (by decide) iX8_fault_0 rfl dX8_fault_1 ?_
  obtain rfl := x_retP hf
  exact x_iret B hr dX8_fault_4
theorem iX8_keepPast_0 : Cond.fieldLink RX8 131 "SignDutyModel" "undos" "I" ∈ wsX8_keepPast := by decide +kernel
theorem iX8_keepPast_cX8 : ∀ w ∈ u_ws RX8 TX8 17, w ∈ wsX8_keepPast := by decide +kernel
theorem iX8_keepPast_2 : Cond.fieldLink RX8 7 "SignDutyModel" "row" "[I" ∈ wsX8_keepPast := by decide +kernel
set_option maxRecDepth 100000 in
set_option maxHeartbeats 4000000 in
theorem kX8_keepPast_61 {σ : x_S} {y0 : Int32} {y1 : Int32} (B : x_B p s m args meth c cX8_keepPast 2 wsX8_keepPast RX8) (G : x_H s D vwCl (s_tys cI cQ cC cZ) m_N ad (x_A m_N ad) m_St m_NW) (hr : meth.sig.returnType = none) (hf : bX8_keepPast_61  y0 y1 σ = some σ0) : x_J p l e (x_rm 1) s m args below meth c 0 0 (MQ below (x_Qv D vwCl m_N (m_C cI cZ ad) ad σ0) args s 0 0 (x_A m_N ad)) (x_A m_N ad) 2 (x_I D vwCl m_N (m_C cI cZ ad) ad σ) [(0, .ref (ad 0))] [.int y0, .int y1, .ref (ad 0)] 61 := by
  unfold bX8_keepPast_61 at hf
  refine x_isub B dX8_keepPast_61 ?_
  obtain ⟨σ1, u2, hf⟩ := x_ws hf
  refine x_put (v := (y1 - y0)) (ty := .int) (kc := 0) (index := 131) B G.1 iX8_keepPast_cX8 tyX8 tyX8_ok nmX8 rfl (by decide) m_c0 2 (by decide) iX8_keepPast_0 rfl rfl rfl rfl (Nat.le_of_ble_eq_true rfl) (m_w_2 _ _) dX8_keepPast_62 ?_
  refine x_nm u2 ?_
  refine x_aload_n B dX8_keepPast_65 rfl 0 rfl ?_
  refine x_iconst (v := 0) B dX8_keepPast_66 (by decide) ?_
  refine x_bipush (v := 49) B dX8_keepPast_67 (by decide) ?_
  refine x_bipush (v := 49) B dX8_keepPast_69 (by decide) ?_
  refine x_aload_n B dX8_keepPast_71 rfl 0 rfl ?_
  refine x_get (v := .int (σ1 0 2)) (kc := 0) (index := 131) B G.1 iX8_keepPast_cX8 rfl (by decide) m_c0 2 (by decide) iX8_keepPast_0 rfl dX8_keepPast_72 ?_
  refine x_imul B dX8_keepPast_75 ?_
  refine x_iadd B dX8_keepPast_76 ?_
  obtain ⟨σ4, e3, hf⟩ := x_vs hf
  refine x_callVv (As := [.int 0, .int (49 + (49 * (σ1 0 2)))]) (st := []) B G (mX8_copyTown (l := l) G.1.2.1  e3) (cwV 2 B.2.2.2.2.1 gX8_keepPast_X8_copyTown rfl rfl rfl hdX8_copyTown (x_rm_ok (by omega) (by decide))) (by decide) m_c0 rfl rfl rfl (Nat.le_of_ble_eq_true rfl) ⟨Nat.zero_le _, Nat.zero_le _⟩ dX8_keepPast_77 ?_
  refine x_aload_n B dX8_keepPast_80 rfl 0 rfl ?_
  refine x_dup B dX8_keepPast_81 rfl ?_
  refine x_get (v := .int (σ4 0 2)) (kc := 0) (index := 131) B G.1 iX8_keepPast_cX8 rfl (by decide) m_c0 2 (by decide) iX8_keepPast_0 rfl dX8_keepPast_82 ?_
  refine x_iconst (v := 1) B dX8_keepPast_85 (by decide) ?_
  refine x_iadd B dX8_keepPast_86 ?_
  obtain ⟨σ5, u6, hf⟩ := x_ws hf
  refine x_put (v := ((σ4 0 2) + 1)) (ty := .int) (kc := 0) (index := 131) B G.1 iX8_keepPast_cX8 tyX8 tyX8_ok nmX8 rfl (by decide) m_c0 2 (by decide) iX8_keepPast_0 rfl rfl rfl rfl (Nat.le_of_ble_eq_true rfl) (m_w_2 _ _) dX8_keepPast_87 ?_
  refine x_nm u6 ?_
  obtain rfl := x_retV hf
  exact x_vret B hr dX8_keepPast_90
set_option maxRecDepth 100000 in
set_option maxHeartbeats 4000000 in
theorem kX8_keepPast_42 {σ : x_S} (B : x_B p s m args meth c cX8_keepPast 2 wsX8_keepPast RX8) (G : x_H s D vwCl (s_tys cI cQ cC cZ) m_N ad (x_A m_N ad) m_St m_NW) (hr : meth.sig.returnType = none) (hf : bX8_keepPast_42   σ = some σ0) : x_J p l e (x_rm 1) s m args below meth c 0 0 (MQ below (x_Qv D vwCl m_N (m_C cI cZ ad) ad σ0) args s 0 0 (x_A m_N ad)) (x_A m_N ad) 2 (x_I D vwCl m_N (m_C cI cZ ad) ad σ) [(0, .ref (ad 0))] [] 42 := by
  unfold bX8_keepPast_42 at hf
  refine x_aload_n B dX8_keepPast_42 rfl 0 rfl ?_
  refine x_dup B dX8_keepPast_43 rfl ?_
  refine x_get (v := .int (σ 0 2)) (kc := 0) (index := 131) B G.1 iX8_keepPast_cX8 rfl (by decide) m_c0 2 (by decide) iX8_keepPast_0 rfl dX8_keepPast_44 ?_
  refine x_aload_n B dX8_keepPast_47 rfl 0 rfl ?_
  refine x_get (v := .int (σ 0 2)) (kc := 0) (index := 131) B G.1 iX8_keepPast_cX8 rfl (by decide) m_c0 2 (by decide) iX8_keepPast_0 rfl dX8_keepPast_48 ?_
  refine x_bipush (v := 24) B dX8_keepPast_51 (by decide) ?_
  refine x_icmp_ne (tgt := 60) B dX8_keepPast_53 (by decide) (fun h1 => ?_) (fun h1 => ?_)
  · replace hf := x_if h1 hf
    refine x_iconst (v := 0) B dX8_keepPast_60 (by decide) ?_
    refine x_sub [0] rfl ?_
    exact kX8_keepPast_61 B G hr hf
  · replace hf := x_it h1 hf
    refine x_iconst (v := 1) B dX8_keepPast_56 (by decide) ?_
    refine x_goto (tgt := 61) B dX8_keepPast_57 (by decide) ?_
    refine x_sub [0] rfl ?_
    exact kX8_keepPast_61 B G hr hf
set_option maxRecDepth 100000 in
set_option maxHeartbeats 4000000 in
theorem qX8_keepPast_2 {σ : x_S} {x1 : Int32} {K2 : Int32 → x_S → Option x_S} (B : x_B p s m args meth c cX8_keepPast 2 wsX8_keepPast RX8) (G : x_H s D vwCl (s_tys cI cQ cC cZ) m_N ad (x_A m_N ad) m_St m_NW) (hr : meth.sig.returnType = none) (hK2 : ∀ (x1 : Int32) (σ : x_S), K2 x1 σ = some σ0 → x_J p l e (x_rm 1) s m args below meth c 0 0 (MQ below (x_Qv D vwCl m_N (m_C cI cZ ad) ad σ0) args s 0 0 (x_A m_N ad)) (x_A m_N ad) 2 (x_I D vwCl m_N (m_C cI cZ ad) ad σ) [(0, .ref (ad 0)), (1, .int x1)] [] 2) (hf : gX8_keepPast_2   K2 x1 σ = some σ0) : x_J p l e (x_rm 1) s m args below meth c 0 0 (MQ below (x_Qv D vwCl m_N (m_C cI cZ ad) ad σ0) args s 0 0 (x_A m_N ad)) (x_A m_N ad) 2 (x_I D vwCl m_N (m_C cI cZ ad) ad σ) [(0, .ref (ad 0)), (1, .int x1)] [] 2 := by
  unfold gX8_keepPast_2 at hf
  refine x_iload_n B dX8_keepPast_2 rfl 1 rfl ?_
  refine x_sipush (v := 1127) B dX8_keepPast_3 (by decide) ?_
  refine x_icmp_ge (tgt := 42) B dX8_keepPast_6 (by decide) (fun h1 => ?_) (fun h1 => ?_)
  · replace hf := x_it h1 hf
    refine x_sub [0] rfl ?_
    exact kX8_keepPast_42 B G hr hf
  · replace hf := x_if h1 hf
    refine x_aload_n B dX8_keepPast_9 rfl 0 rfl ?_
    refine x_get (v := .int (σ 0 2)) (kc := 0) (index := 131) B G.1 iX8_keepPast_cX8 rfl (by decide) m_c0 2 (by decide) iX8_keepPast_0 rfl dX8_keepPast_10 ?_
    refine x_bipush (v := 24) B dX8_keepPast_13 (by decide) ?_
    refine x_icmp_ne (tgt := 42) B dX8_keepPast_15 (by decide) (fun h2 => ?_) (fun h2 => ?_)
    · replace hf := x_if h2 hf
      refine x_sub [0] rfl ?_
      exact kX8_keepPast_42 B G hr hf
    · replace hf := x_it h2 hf
      refine x_aload_n B dX8_keepPast_18 rfl 0 rfl ?_
      refine x_get (v := .ref (ad 1)) (kc := 0) (index := 7) B G.1 iX8_keepPast_cX8 rfl (by decide) m_c0 0 (by decide) iX8_keepPast_2 rfl dX8_keepPast_19 ?_
      refine x_bipush (v := 49) B dX8_keepPast_22 (by decide) ?_
      refine x_iload_n B dX8_keepPast_24 rfl 1 rfl ?_
      refine x_iadd B dX8_keepPast_25 ?_
      refine x_aload_n B dX8_keepPast_26 rfl 0 rfl ?_
      refine x_get (v := .ref (ad 1)) (kc := 0) (index := 7) B G.1 iX8_keepPast_cX8 rfl (by decide) m_c0 0 (by decide) iX8_keepPast_2 rfl dX8_keepPast_27 ?_
      refine x_bipush (v := 98) B dX8_keepPast_30 (by decide) ?_
      refine x_iload_n B dX8_keepPast_32 rfl 1 rfl ?_
      refine x_iadd B dX8_keepPast_33 ?_
      obtain ⟨h3, hf⟩ := x_gs hf
      refine x_iald (kc := 1) (t0 := 0) B G.1 (by decide) m_c1 rfl h3 dX8_keepPast_34 ?_
      obtain ⟨h4, hf⟩ := x_gs hf
      obtain ⟨σ5, u6, hf⟩ := x_ws hf
      refine x_iast (kc := 1) (t0 := 0) B G.1 (by decide) m_c1 rfl h4 dX8_keepPast_35 ?_
      refine x_nm u6 ?_
      refine x_iinc (v := (x1 + 1)) (lv' := [(1, .int (x1 + 1)), (0, .ref (ad 0))]) B dX8_keepPast_36 1 rfl rfl (by decide) rfl ?_
      refine x_goto (tgt := 2) B dX8_keepPast_39 (by decide) ?_
      refine x_sub [1, 0] rfl ?_
      exact hK2 _ _ hf
set_option maxRecDepth 100000 in
set_option maxHeartbeats 4000000 in
theorem kX8_keepPast_2 {σ : x_S} {x1 : Int32} (B : x_B p s m args meth c cX8_keepPast 2 wsX8_keepPast RX8) (G : x_H s D vwCl (s_tys cI cQ cC cZ) m_N ad (x_A m_N ad) m_St m_NW) (hr : meth.sig.returnType = none) (hf : bX8_keepPast_2   x1 σ = some σ0) : x_J p l e (x_rm 1) s m args below meth c 0 0 (MQ below (x_Qv D vwCl m_N (m_C cI cZ ad) ad σ0) args s 0 0 (x_A m_N ad)) (x_A m_N ad) 2 (x_I D vwCl m_N (m_C cI cZ ad) ad σ) [(0, .ref (ad 0)), (1, .int x1)] [] 2 := by
  have key : ∀ (n : Nat) (x1 : Int32) (σ : x_S), x_fx (α := Int32 → x_S → Option x_S) (fun _ _ => none) (fun K => fun x1 σ => gX8_keepPast_2   K x1 σ) n x1 σ = some σ0 → x_J p l e (x_rm 1) s m args below meth c 0 0 (MQ below (x_Qv D vwCl m_N (m_C cI cZ ad) ad σ0) args s 0 0 (x_A m_N ad)) (x_A m_N ad) 2 (x_I D vwCl m_N (m_C cI cZ ad) ad σ) [(0, .ref (ad 0)), (1, .int x1)] [] 2 := by
    intro n
    induction n with
    | zero => intro x1 σ h; cases h
    | succ n ih => intro x1 σ h; exact qX8_keepPast_2 B G hr  ih  h
  exact key x_F x1 σ hf
set_option maxRecDepth 100000 in
set_option maxHeartbeats 4000000 in
theorem mX8_keepPast {σ : x_S} (hdis : x_dis m_N ad) (hf : fX8_keepPast  σ = some σ0) : x_NV l yX8_keepPast wsX8_keepPast 1 D vwCl (s_tys cI cQ cC cZ) m_N (m_C cI cZ ad) ad m_St m_NW [.ref (ad 0)] σ σ0 := by
  refine x_met (cc := cX8_keepPast) (own := RX8) (maxL := 2) (ret := none) (by decide +kernel) rfl rfl (Nat.le_of_ble_eq_true rfl) hdis m_StOk m_NwOk (fun p e s m args below meth c B G hr => ?_)
  unfold fX8_keepPast at hf
  refine x_sub (lv' := [(0, .ref (ad 0))]) [0] rfl ?_
  refine x_iconst (v := 0) B dX8_keepPast_0 (by decide) ?_
  refine x_istore_n (lv' := [(1, .int 0), (0, .ref (ad 0))]) B dX8_keepPast_1 rfl (by decide) rfl ?_
  refine x_sub [1, 0] rfl ?_
  exact kX8_keepPast_2 B G hr hf
theorem iX8_undo_0 : Cond.fieldLink RX8 131 "SignDutyModel" "undos" "I" ∈ wsX8_undo := by decide +kernel
theorem iX8_undo_cX8 : ∀ w ∈ u_ws RX8 TX8 17, w ∈ wsX8_undo := by decide +kernel
theorem iX8_undo_2 : Cond.constant RX8 134 (-1000002) ∈ wsX8_undo := by decide +kernel
set_option maxRecDepth 100000 in
set_option maxHeartbeats 4000000 in
theorem mX8_undo {σ : x_S} (hdis : x_dis m_N ad) (hf : fX8_undo  σ = some (r0, σ0)) : x_NI l yX8_undo wsX8_undo 1 D vwCl (s_tys cI cQ cC cZ) m_N (m_C cI cZ ad) ad m_St m_NW [.ref (ad 0)] σ r0 σ0 := by
  refine x_met (cc := cX8_undo) (own := RX8) (maxL := 1) (ret := (some .int)) (by decide +kernel) rfl rfl (Nat.le_of_ble_eq_true rfl) hdis m_StOk m_NwOk (fun p e s m args below meth c B G hr => ?_)
  unfold fX8_undo at hf
  refine x_sub (lv' := [(0, .ref (ad 0))]) [0] rfl ?_
  refine x_aload_n B dX8_undo_0 rfl 0 rfl ?_
  refine x_get (v := .int (σ 0 2)) (kc := 0) (index := 131) B G.1 iX8_undo_cX8 rfl (by decide) m_c0 2 (by decide) iX8_undo_0 rfl dX8_undo_1 ?_
  refine x_if_ne (tgt := 10) B dX8_undo_4 (by decide) (fun h1 => ?_) (fun h1 => ?_)
  · replace hf := x_if h1 hf
    refine x_aload_n B dX8_undo_10 rfl 0 rfl ?_
    refine x_dup B dX8_undo_11 rfl ?_
    refine x_get (v := .int (σ 0 2)) (kc := 0) (index := 131) B G.1 iX8_undo_cX8 rfl (by decide) m_c0 2 (by decide) iX8_undo_0 rfl dX8_undo_12 ?_
    refine x_iconst (v := 1) B dX8_undo_15 (by decide) ?_
    refine x_isub B dX8_undo_16 ?_
    obtain ⟨σ2, u3, hf⟩ := x_ws hf
    refine x_put (v := ((σ 0 2) - 1)) (ty := .int) (kc := 0) (index := 131) B G.1 iX8_undo_cX8 tyX8 tyX8_ok nmX8 rfl (by decide) m_c0 2 (by decide) iX8_undo_0 rfl rfl rfl rfl (Nat.le_of_ble_eq_true rfl) (m_w_2 _ _) dX8_undo_17 ?_
    refine x_nm u3 ?_
    refine x_aload_n B dX8_undo_20 rfl 0 rfl ?_
    refine x_bipush (v := 49) B dX8_undo_21 (by decide) ?_
    refine x_bipush (v := 49) B dX8_undo_23 (by decide) ?_
    refine x_aload_n B dX8_undo_25 rfl 0 rfl ?_
    refine x_get (v := .int (σ2 0 2)) (kc := 0) (index := 131) B G.1 iX8_undo_cX8 rfl (by decide) m_c0 2 (by decide) iX8_undo_0 rfl dX8_undo_26 ?_
    refine x_imul B dX8_undo_29 ?_
    refine x_iadd B dX8_undo_30 ?_
    refine x_iconst (v := 0) B dX8_undo_31 (by decide) ?_
    obtain ⟨σ5, e4, hf⟩ := x_vs hf
    refine x_callVv (As := [.int (49 + (49 * (σ2 0 2))), .int 0]) (st := []) B G (mX8_copyTown (l := l) G.1.2.1  e4) (cwV 2 B.2.2.2.2.1 gX8_undo_X8_copyTown rfl rfl rfl hdX8_copyTown (x_rm_ok (by omega) (by decide))) (by decide) m_c0 rfl rfl rfl (Nat.le_of_ble_eq_true rfl) ⟨Nat.zero_le _, Nat.zero_le _⟩ dX8_undo_32 ?_
    refine x_aload_n B dX8_undo_35 rfl 0 rfl ?_
    refine x_get (v := .int (σ5 0 2)) (kc := 0) (index := 131) B G.1 iX8_undo_cX8 rfl (by decide) m_c0 2 (by decide) iX8_undo_0 rfl dX8_undo_36 ?_
    obtain ⟨rfl, rfl⟩ := x_retI hf
    exact x_iret B hr dX8_undo_39
  · replace hf := x_it h1 hf
    refine x_ldc (v := (-1000002)) B iX8_undo_2 dX8_undo_7 ?_
    obtain ⟨rfl, rfl⟩ := x_retI hf
    exact x_iret B hr dX8_undo_9
theorem iX8_isGesture_0 : Cond.fieldLink RX8 7 "SignDutyModel" "row" "[I" ∈ wsX8_isGesture := by decide +kernel
theorem iX8_isGesture_cX8 : ∀ w ∈ u_ws RX8 TX8 17, w ∈ wsX8_isGesture := by decide +kernel
set_option maxRecDepth 100000 in
set_option maxHeartbeats 4000000 in
theorem mX8_isGesture {σ : x_S} {a1 : Int32} (hdis : x_dis m_N ad) (hf : fX8_isGesture a1 σ = some r0) : x_NI l yX8_isGesture wsX8_isGesture 1 D vwCl (s_tys cI cQ cC cZ) m_N (m_C cI cZ ad) ad m_St m_NW [.ref (ad 0), .int a1] σ r0 σ := by
  refine x_met (cc := cX8_isGesture) (own := RX8) (maxL := 2) (ret := (some .boolean)) (by decide +kernel) rfl rfl (Nat.le_of_ble_eq_true rfl) hdis m_StOk m_NwOk (fun p e s m args below meth c B G hr => ?_)
  unfold fX8_isGesture at hf
  refine x_sub (lv' := [(0, .ref (ad 0)), (1, .int a1)]) [0, 1] rfl ?_
  refine x_iload_n B dX8_isGesture_0 rfl 1 rfl ?_
  refine x_i2l B dX8_isGesture_1 ?_
  refine x_lconst (v := 0) B dX8_isGesture_2 (by decide) ?_
  refine x_aload_n B dX8_isGesture_3 rfl 0 rfl ?_
  refine x_get (v := .ref (ad 1)) (kc := 0) (index := 7) B G.1 iX8_isGesture_cX8 rfl (by decide) m_c0 0 (by decide) iX8_isGesture_0 rfl dX8_isGesture_4 ?_
  refine x_iconst (v := 2) B dX8_isGesture_7 (by decide) ?_
  refine x_iald (kc := 1) (t0 := 0) B G.1 (by decide) m_c1 rfl (by decide) dX8_isGesture_8 ?_
  refine x_iconst (v := 1) B dX8_isGesture_9 (by decide) ?_
  refine x_isub B dX8_isGesture_10 ?_
  refine x_i2l B dX8_isGesture_11 ?_
  obtain ⟨r3, e2, hf⟩ := x_ps hf
  refine x_callS (As := [.long a1.toInt64, .long 0, .long (((σ 1 (2 : Int32).toNatClampNeg) - 1).toInt64)]) (st := []) B G (mX8_in (l := l) G.1.2.1  e2) (va_cwS 3 B.2.2.2.2.1 gX8_isGesture_X8_in rfl rfl rfl hdX8_in (x_rm_ok (by omega) (by decide))) rfl rfl (Nat.le_of_ble_eq_true rfl) ⟨Nat.zero_le _, Nat.zero_le _⟩ dX8_isGesture_12 ?_
  obtain ⟨h4, hf⟩ := x_gs hf
  obtain rfl := x_retP hf
  exact x_zret B hr h4 dX8_isGesture_15
theorem iX8_isStreet_0 : Cond.fieldLink RX8 7 "SignDutyModel" "row" "[I" ∈ wsX8_isStreet := by decide +kernel
theorem iX8_isStreet_cX8 : ∀ w ∈ u_ws RX8 TX8 17, w ∈ wsX8_isStreet := by decide +kernel
set_option maxRecDepth 100000 in
set_option maxHeartbeats 4000000 in
theorem mX8_isStreet {σ : x_S} {a1 : Int32} (hdis : x_dis m_N ad) (hf : fX8_isStreet a1 σ = some r0) : x_NI l yX8_isStreet wsX8_isStreet 1 D vwCl (s_tys cI cQ cC cZ) m_N (m_C cI cZ ad) ad m_St m_NW [.ref (ad 0), .int a1] σ r0 σ := by
  refine x_met (cc := cX8_isStreet) (own := RX8) (maxL := 2) (ret := (some .boolean)) (by decide +kernel) rfl rfl (Nat.le_of_ble_eq_true rfl) hdis m_StOk m_NwOk (fun p e s m args below meth c B G hr => ?_)
  unfold fX8_isStreet at hf
  refine x_sub (lv' := [(0, .ref (ad 0)), (1, .int a1)]) [0, 1] rfl ?_
  refine x_iload_n B dX8_isStreet_0 rfl 1 rfl ?_
  refine x_i2l B dX8_isStreet_1 ?_
  refine x_lconst (v := 0) B dX8_isStreet_2 (by decide) ?_
  refine x_aload_n B dX8_isStreet_3 rfl 0 rfl ?_
  refine x_get (v := .ref (ad 1)) (kc := 0) (index := 7) B G.1 iX8_isStreet_cX8 rfl (by decide) m_c0 0 (by decide) iX8_isStreet_0 rfl dX8_isStreet_4 ?_
  refine x_iconst (v := 1) B dX8_isStreet_7 (by decide) ?_
  refine x_iald (kc := 1) (t0 := 0) B G.1 (by decide) m_c1 rfl (by decide) dX8_isStreet_8 ?_
  refine x_iconst (v := 1) B dX8_isStreet_9 (by decide) ?_
  refine x_isub B dX8_isStreet_10 ?_
  refine x_i2l B dX8_isStreet_11 ?_
  obtain ⟨r3, e2, hf⟩ := x_ps hf
  refine x_callS (As := [.long a1.toInt64, .long 0, .long (((σ 1 (1 : Int32).toNatClampNeg) - 1).toInt64)]) (st := []) B G (mX8_in (l := l) G.1.2.1  e2) (va_cwS 3 B.2.2.2.2.1 gX8_isStreet_X8_in rfl rfl rfl hdX8_in (x_rm_ok (by omega) (by decide))) rfl rfl (Nat.le_of_ble_eq_true rfl) ⟨Nat.zero_le _, Nat.zero_le _⟩ dX8_isStreet_12 ?_
  obtain ⟨h4, hf⟩ := x_gs hf
  obtain rfl := x_retP hf
  exact x_zret B hr h4 dX8_isStreet_15
theorem iX8_wave_0 : Cond.fieldLink RX8 7 "SignDutyModel" "row" "[I" ∈ wsX8_wave := by decide +kernel
theorem iX8_wave_cX8 : ∀ w ∈ u_ws RX8 TX8 17, w ∈ wsX8_wave := by decide +kernel
set_option maxRecDepth 100000 in
set_option maxHeartbeats 4000000 in
theorem mX8_wave {σ : x_S} {a1 : Int32} {a2 : Int32} (hdis : x_dis m_N ad) (hf : fX8_wave a1 a2 σ = some r0) : x_NI l yX8_wave wsX8_wave 0 D vwCl (s_tys cI cQ cC cZ) m_N (m_C cI cZ ad) ad m_St m_NW [.ref (ad 0), .int a1, .int a2] σ r0 σ := by
  refine x_met (cc := cX8_wave) (own := RX8) (maxL := 3) (ret := (some .int)) (by decide +kernel) rfl rfl (Nat.le_of_ble_eq_true rfl) hdis m_StOk m_NwOk (fun p e s m args below meth c B G hr => ?_)
  unfold fX8_wave at hf
  refine x_sub (lv' := [(0, .ref (ad 0)), (1, .int a1), (2, .int a2)]) [0, 1, 2] rfl ?_
  refine x_iload_n B dX8_wave_0 rfl 1 rfl ?_
  refine x_aload_n B dX8_wave_1 rfl 0 rfl ?_
  refine x_get (v := .ref (ad 1)) (kc := 0) (index := 7) B G.1 iX8_wave_cX8 rfl (by decide) m_c0 0 (by decide) iX8_wave_0 rfl dX8_wave_2 ?_
  refine x_iconst (v := 0) B dX8_wave_5 (by decide) ?_
  refine x_iald (kc := 1) (t0 := 0) B G.1 (by decide) m_c1 rfl (by decide) dX8_wave_6 ?_
  refine x_imul B dX8_wave_7 ?_
  refine x_iload_n B dX8_wave_8 rfl 1 rfl ?_
  refine x_aload_n B dX8_wave_9 rfl 0 rfl ?_
  refine x_get (v := .ref (ad 1)) (kc := 0) (index := 7) B G.1 iX8_wave_cX8 rfl (by decide) m_c0 0 (by decide) iX8_wave_0 rfl dX8_wave_10 ?_
  refine x_bipush (v := 12) B dX8_wave_13 (by decide) ?_
  refine x_iload_n B dX8_wave_15 rfl 2 rfl ?_
  refine x_iadd B dX8_wave_16 ?_
  obtain ⟨h2, hf⟩ := x_gs hf
  refine x_iald (kc := 1) (t0 := 0) B G.1 (by decide) m_c1 rfl h2 dX8_wave_17 ?_
  refine x_imul B dX8_wave_18 ?_
  refine x_bipush (v := 10) B dX8_wave_19 (by decide) ?_
  refine x_idiv B dX8_wave_21 (by decide) ?_
  refine x_iadd B dX8_wave_22 ?_
  obtain rfl := x_retP hf
  exact x_iret B hr dX8_wave_23
theorem iX8_plainDuty_0 : Cond.fieldLink RX8 7 "SignDutyModel" "row" "[I" ∈ wsX8_plainDuty := by decide +kernel
theorem iX8_plainDuty_cX8 : ∀ w ∈ u_ws RX8 TX8 17, w ∈ wsX8_plainDuty := by decide +kernel
set_option maxRecDepth 100000 in
set_option maxHeartbeats 4000000 in
theorem mX8_plainDuty {σ : x_S} {a1 : Int32} {a2 : Int32} {a3 : Int32} (hdis : x_dis m_N ad) (hf : fX8_plainDuty a1 a2 a3 σ = some r0) : x_NI l yX8_plainDuty wsX8_plainDuty 1 D vwCl (s_tys cI cQ cC cZ) m_N (m_C cI cZ ad) ad m_St m_NW [.ref (ad 0), .int a1, .int a2, .int a3] σ r0 σ := by
  refine x_met (cc := cX8_plainDuty) (own := RX8) (maxL := 4) (ret := (some .int)) (by decide +kernel) rfl rfl (Nat.le_of_ble_eq_true rfl) hdis m_StOk m_NwOk (fun p e s m args below meth c B G hr => ?_)
  unfold fX8_plainDuty at hf
  refine x_sub (lv' := [(0, .ref (ad 0)), (1, .int a1), (2, .int a2), (3, .int a3)]) [0, 1, 2, 3] rfl ?_
  refine x_iload_n B dX8_plainDuty_0 rfl 1 rfl ?_
  by_cases h1 : a1 = 2
  · replace hf := x_it h1 hf
    refine x_tableIn (tgt := 32) (off := 31) B dX8_plainDuty_1 (by rw [h1]; decide) (by rw [h1]; decide) (by rw [h1]; rfl) (by decide) ?_
    refine x_aload_n B dX8_plainDuty_32 rfl 0 rfl ?_
    refine x_iload_n B dX8_plainDuty_33 rfl 2 rfl ?_
    refine x_iload_n B dX8_plainDuty_34 rfl 3 rfl ?_
    obtain ⟨r3, e2, hf⟩ := x_ps hf
    refine x_callV (As := [.int a2, .int a3]) (st := []) B G (mX8_wave (l := l) G.1.2.1  e2) (cwV 2 B.2.2.2.2.1 gX8_plainDuty_X8_wave rfl rfl rfl hdX8_wave (x_rm_ok (by omega) (by decide))) (by decide) m_c0 rfl rfl rfl (Nat.le_of_ble_eq_true rfl) ⟨Nat.zero_le _, Nat.zero_le _⟩ dX8_plainDuty_35 ?_
    refine x_iconst (v := 2) B dX8_plainDuty_38 (by decide) ?_
    refine x_idiv B dX8_plainDuty_39 (by decide) ?_
    obtain rfl := x_retP hf
    exact x_iret B hr dX8_plainDuty_40
  · replace hf := x_if h1 hf
    by_cases h4 : a1 = 3
    · replace hf := x_it h4 hf
      refine x_tableIn (tgt := 41) (off := 40) B dX8_plainDuty_1 (by rw [h4]; decide) (by rw [h4]; decide) (by rw [h4]; rfl) (by decide) ?_
      refine x_aload_n B dX8_plainDuty_41 rfl 0 rfl ?_
      refine x_iload_n B dX8_plainDuty_42 rfl 2 rfl ?_
      refine x_iload_n B dX8_plainDuty_43 rfl 3 rfl ?_
      obtain ⟨r6, e5, hf⟩ := x_ps hf
      refine x_callV (As := [.int a2, .int a3]) (st := []) B G (mX8_wave (l := l) G.1.2.1  e5) (cwV 2 B.2.2.2.2.1 gX8_plainDuty_X8_wave rfl rfl rfl hdX8_wave (x_rm_ok (by omega) (by decide))) (by decide) m_c0 rfl rfl rfl (Nat.le_of_ble_eq_true rfl) ⟨Nat.zero_le _, Nat.zero_le _⟩ dX8_plainDuty_44 ?_
      refine x_iload_n B dX8_plainDuty_47 rfl 2 rfl ?_
      refine x_bipush (v := 10) B dX8_plainDuty_48 (by decide) ?_
      refine x_icmp_le (tgt := 67) B dX8_plainDuty_50 (by decide) (fun h7 => ?_) (fun h7 => ?_)
      · replace hf := x_it h7 hf
        refine x_iconst (v := 0) B dX8_plainDuty_67 (by decide) ?_
        refine x_iadd B dX8_plainDuty_68 ?_
        obtain rfl := x_retP hf
        exact x_iret B hr dX8_plainDuty_69
      · replace hf := x_if h7 hf
        refine x_aload_n B dX8_plainDuty_53 rfl 0 rfl ?_
        refine x_get (v := .ref (ad 1)) (kc := 0) (index := 7) B G.1 iX8_plainDuty_cX8 rfl (by decide) m_c0 0 (by decide) iX8_plainDuty_0 rfl dX8_plainDuty_54 ?_
        refine x_iconst (v := 0) B dX8_plainDuty_57 (by decide) ?_
        refine x_iald (kc := 1) (t0 := 0) B G.1 (by decide) m_c1 rfl (by decide) dX8_plainDuty_58 ?_
        refine x_iload_n B dX8_plainDuty_59 rfl 2 rfl ?_
        refine x_bipush (v := 10) B dX8_plainDuty_60 (by decide) ?_
        refine x_isub B dX8_plainDuty_62 ?_
        refine x_imul B dX8_plainDuty_63 ?_
        refine x_goto (tgt := 68) B dX8_plainDuty_64 (by decide) ?_
        refine x_iadd B dX8_plainDuty_68 ?_
        obtain rfl := x_retP hf
        exact x_iret B hr dX8_plainDuty_69
    · replace hf := x_if h4 hf
      by_cases h9 : a1 = 4
      · replace hf := x_it h9 hf
        refine x_tableIn (tgt := 70) (off := 69) B dX8_plainDuty_1 (by rw [h9]; decide) (by rw [h9]; decide) (by rw [h9]; rfl) (by decide) ?_
        refine x_iconst (v := 1) B dX8_plainDuty_70 (by decide) ?_
        obtain rfl := x_retP hf
        exact x_iret B hr dX8_plainDuty_71
      · replace hf := x_if h9 hf
        by_cases h10 : a1 = 5
        · replace hf := x_it h10 hf
          refine x_tableIn (tgt := 72) (off := 71) B dX8_plainDuty_1 (by rw [h10]; decide) (by rw [h10]; decide) (by rw [h10]; rfl) (by decide) ?_
          refine x_aload_n B dX8_plainDuty_72 rfl 0 rfl ?_
          refine x_get (v := .ref (ad 1)) (kc := 0) (index := 7) B G.1 iX8_plainDuty_cX8 rfl (by decide) m_c0 0 (by decide) iX8_plainDuty_0 rfl dX8_plainDuty_73 ?_
          refine x_bipush (v := 12) B dX8_plainDuty_76 (by decide) ?_
          refine x_iload_n B dX8_plainDuty_78 rfl 3 rfl ?_
          refine x_iadd B dX8_plainDuty_79 ?_
          obtain ⟨h11, hf⟩ := x_gs hf
          refine x_iald (kc := 1) (t0 := 0) B G.1 (by decide) m_c1 rfl h11 dX8_plainDuty_80 ?_
          refine x_iconst (v := 5) B dX8_plainDuty_81 (by decide) ?_
          refine x_icmp_ge (tgt := 89) B dX8_plainDuty_82 (by decide) (fun h12 => ?_) (fun h12 => ?_)
          · replace hf := x_it h12 hf
            refine x_aload_n B dX8_plainDuty_89 rfl 0 rfl ?_
            refine x_iload_n B dX8_plainDuty_90 rfl 2 rfl ?_
            refine x_iload_n B dX8_plainDuty_91 rfl 3 rfl ?_
            obtain ⟨r14, e13, hf⟩ := x_ps hf
            refine x_callV (As := [.int a2, .int a3]) (st := []) B G (mX8_wave (l := l) G.1.2.1  e13) (cwV 2 B.2.2.2.2.1 gX8_plainDuty_X8_wave rfl rfl rfl hdX8_wave (x_rm_ok (by omega) (by decide))) (by decide) m_c0 rfl rfl rfl (Nat.le_of_ble_eq_true rfl) ⟨Nat.zero_le _, Nat.zero_le _⟩ dX8_plainDuty_92 ?_
            obtain rfl := x_retP hf
            exact x_iret B hr dX8_plainDuty_95
          · replace hf := x_if h12 hf
            refine x_iconst (v := 1) B dX8_plainDuty_85 (by decide) ?_
            refine x_goto (tgt := 95) B dX8_plainDuty_86 (by decide) ?_
            obtain rfl := x_retP hf
            exact x_iret B hr dX8_plainDuty_95
        · replace hf := x_if h10 hf
          refine x_tableOut (tgt := 96) B dX8_plainDuty_1 (by have g0 := lv_neT (a := 2) h1 rfl; have g1 := lv_neT (a := 3) h4 rfl; have g2 := lv_neT (a := 4) h9 rfl; have g3 := lv_neT (a := 5) h10 rfl; omega) (by decide) ?_
          refine x_aload_n B dX8_plainDuty_96 rfl 0 rfl ?_
          refine x_iload_n B dX8_plainDuty_97 rfl 2 rfl ?_
          refine x_iload_n B dX8_plainDuty_98 rfl 3 rfl ?_
          obtain ⟨r16, e15, hf⟩ := x_ps hf
          refine x_callV (As := [.int a2, .int a3]) (st := []) B G (mX8_wave (l := l) G.1.2.1  e15) (cwV 2 B.2.2.2.2.1 gX8_plainDuty_X8_wave rfl rfl rfl hdX8_wave (x_rm_ok (by omega) (by decide))) (by decide) m_c0 rfl rfl rfl (Nat.le_of_ble_eq_true rfl) ⟨Nat.zero_le _, Nat.zero_le _⟩ dX8_plainDuty_99 ?_
          obtain rfl := x_retP hf
          exact x_iret B hr dX8_plainDuty_102
theorem iX8_owes_0 : Cond.fieldLink RX8 7 "SignDutyModel" "row" "[I" ∈ wsX8_owes := by decide +kernel
theorem iX8_owes_cX8 : ∀ w ∈ u_ws RX8 TX8 17, w ∈ wsX8_owes := by decide +kernel
set_option maxRecDepth 100000 in
set_option maxHeartbeats 4000000 in
theorem mX8_owes {σ : x_S} {a1 : Int32} {a2 : Int32} {a3 : Int32} (hdis : x_dis m_N ad) (hf : fX8_owes a1 a2 a3 σ = some r0) : x_NI l yX8_owes wsX8_owes 2 D vwCl (s_tys cI cQ cC cZ) m_N (m_C cI cZ ad) ad m_St m_NW [.ref (ad 0), .int a1, .int a2, .int a3] σ r0 σ := by
  refine x_met (cc := cX8_owes) (own := RX8) (maxL := 5) (ret := (some .int)) (by decide +kernel) rfl rfl (Nat.le_of_ble_eq_true rfl) hdis m_StOk m_NwOk (fun p e s m args below meth c B G hr => ?_)
  unfold fX8_owes at hf
  refine x_sub (lv' := [(0, .ref (ad 0)), (1, .int a1), (2, .int a2), (3, .int a3)]) [0, 1, 2, 3] rfl ?_
  refine x_aload_n B dX8_owes_0 rfl 0 rfl ?_
  refine x_iload_n B dX8_owes_1 rfl 1 rfl ?_
  refine x_iload_n B dX8_owes_2 rfl 2 rfl ?_
  refine x_iload_n B dX8_owes_3 rfl 3 rfl ?_
  obtain ⟨r2, e1, hf⟩ := x_ps hf
  refine x_callV (As := [.int a1, .int a2, .int a3]) (st := []) B G (mX8_plainDuty (l := l) G.1.2.1  e1) (cwV 3 B.2.2.2.2.1 gX8_owes_X8_plainDuty rfl rfl rfl hdX8_plainDuty (x_rm_ok (by omega) (by decide))) (by decide) m_c0 rfl rfl rfl (Nat.le_of_ble_eq_true rfl) ⟨Nat.zero_le _, Nat.zero_le _⟩ dX8_owes_4 ?_
  refine x_istore (lv' := [(4, .int r2), (0, .ref (ad 0)), (1, .int a1), (2, .int a2), (3, .int a3)]) B dX8_owes_7 (by decide) rfl ?_
  refine x_aload_n B dX8_owes_9 rfl 1 rfl ?_
  refine x_get (v := .ref (ad 1)) (kc := 0) (index := 7) B G.1 iX8_owes_cX8 rfl (by decide) m_c0 0 (by decide) iX8_owes_0 rfl dX8_owes_10 ?_
  refine x_iconst (v := 4) B dX8_owes_13 (by decide) ?_
  refine x_iald (kc := 1) (t0 := 0) B G.1 (by decide) m_c1 rfl (by decide) dX8_owes_14 ?_
  refine x_iload_n B dX8_owes_15 rfl 4 rfl ?_
  obtain ⟨r5, e4, hf⟩ := x_ps hf
  refine x_callS (As := [.int (σ 1 (4 : Int32).toNatClampNeg), .int a3]) (st := []) B G (mX8_has (l := l) G.1.2.1  e4) (va_cwS 2 B.2.2.2.2.1 gX8_owes_X8_has rfl rfl rfl hdX8_has (x_rm_ok (by omega) (by decide))) rfl rfl (Nat.le_of_ble_eq_true rfl) ⟨Nat.zero_le _, Nat.zero_le _⟩ dX8_owes_16 ?_
  refine x_if_eq (tgt := 29) B dX8_owes_19 (by decide) (fun h6 => ?_) (fun h6 => ?_)
  · replace hf := x_it h6 hf
    refine x_iload B dX8_owes_29 0 rfl ?_
    obtain rfl := x_retP hf
    exact x_iret B hr dX8_owes_31
  · replace hf := x_if h6 hf
    refine x_iload B dX8_owes_22 0 rfl ?_
    refine x_iconst (v := 2) B dX8_owes_24 (by decide) ?_
    refine x_idiv B dX8_owes_25 (by decide) ?_
    refine x_goto (tgt := 31) B dX8_owes_26 (by decide) ?_
    obtain rfl := x_retP hf
    exact x_iret B hr dX8_owes_31
theorem iX8_dutyOf_0 : Cond.fieldLink RX8 7 "SignDutyModel" "row" "[I" ∈ wsX8_dutyOf := by decide +kernel
theorem iX8_dutyOf_cX8 : ∀ w ∈ u_ws RX8 TX8 17, w ∈ wsX8_dutyOf := by decide +kernel
set_option maxRecDepth 100000 in
set_option maxHeartbeats 4000000 in
theorem mX8_dutyOf {σ : x_S} {a1 : Int32} {a2 : Int32} (hdis : x_dis m_N ad) (hf : fX8_dutyOf a1 a2 σ = some r0) : x_NI l yX8_dutyOf wsX8_dutyOf 3 D vwCl (s_tys cI cQ cC cZ) m_N (m_C cI cZ ad) ad m_St m_NW [.ref (ad 0), .int a1, .int a2] σ r0 σ := by
  refine x_met (cc := cX8_dutyOf) (own := RX8) (maxL := 3) (ret := (some .int)) (by decide +kernel) rfl rfl (Nat.le_of_ble_eq_true rfl) hdis m_StOk m_NwOk (fun p e s m args below meth c B G hr => ?_)
  unfold fX8_dutyOf at hf
  refine x_sub (lv' := [(0, .ref (ad 0)), (1, .int a1), (2, .int a2)]) [0, 1, 2] rfl ?_
  refine x_aload_n B dX8_dutyOf_0 rfl 0 rfl ?_
  refine x_aload_n B dX8_dutyOf_1 rfl 0 rfl ?_
  refine x_get (v := .ref (ad 1)) (kc := 0) (index := 7) B G.1 iX8_dutyOf_cX8 rfl (by decide) m_c0 0 (by decide) iX8_dutyOf_0 rfl dX8_dutyOf_2 ?_
  refine x_bipush (v := 19) B dX8_dutyOf_5 (by decide) ?_
  refine x_iload_n B dX8_dutyOf_7 rfl 1 rfl ?_
  refine x_iadd B dX8_dutyOf_8 ?_
  obtain ⟨h1, hf⟩ := x_gs hf
  refine x_iald (kc := 1) (t0 := 0) B G.1 (by decide) m_c1 rfl h1 dX8_dutyOf_9 ?_
  refine x_aload_n B dX8_dutyOf_10 rfl 0 rfl ?_
  refine x_get (v := .ref (ad 1)) (kc := 0) (index := 7) B G.1 iX8_dutyOf_cX8 rfl (by decide) m_c0 0 (by decide) iX8_dutyOf_0 rfl dX8_dutyOf_11 ?_
  refine x_bipush (v := 25) B dX8_dutyOf_14 (by decide) ?_
  refine x_iload_n B dX8_dutyOf_16 rfl 1 rfl ?_
  refine x_iadd B dX8_dutyOf_17 ?_
  obtain ⟨h2, hf⟩ := x_gs hf
  refine x_iald (kc := 1) (t0 := 0) B G.1 (by decide) m_c1 rfl h2 dX8_dutyOf_18 ?_
  refine x_iload_n B dX8_dutyOf_19 rfl 2 rfl ?_
  obtain ⟨r4, e3, hf⟩ := x_ps hf
  refine x_callV (As := [.int (σ 1 (19 + a1).toNatClampNeg), .int (σ 1 (25 + a1).toNatClampNeg), .int a2]) (st := []) B G (mX8_owes (l := l) G.1.2.1  e3) (cwV 3 B.2.2.2.2.1 gX8_dutyOf_X8_owes rfl rfl rfl hdX8_owes (x_rm_ok (by omega) (by decide))) (by decide) m_c0 rfl rfl rfl (Nat.le_of_ble_eq_true rfl) ⟨Nat.zero_le _, Nat.zero_le _⟩ dX8_dutyOf_20 ?_
  obtain rfl := x_retP hf
  exact x_iret B hr dX8_dutyOf_23
theorem iX8_isSeen_0 : Cond.fieldLink RX8 7 "SignDutyModel" "row" "[I" ∈ wsX8_isSeen := by decide +kernel
theorem iX8_isSeen_cX8 : ∀ w ∈ u_ws RX8 TX8 17, w ∈ wsX8_isSeen := by decide +kernel
set_option maxRecDepth 100000 in
set_option maxHeartbeats 4000000 in
theorem kX8_isSeen_18 {σ : x_S} {x1 : Int32} {x2 : Int32} {y0 : Int32} (B : x_B p s m args meth c cX8_isSeen 4 wsX8_isSeen RX8) (G : x_H s D vwCl (s_tys cI cQ cC cZ) m_N ad (x_A m_N ad) m_St m_NW) (hr : meth.sig.returnType = (some .boolean)) (hf : bX8_isSeen_18  x1 x2 y0 σ = some r0) : x_J p l e (x_rm 0) s m args below meth c 0 0 (MQ below (x_Qi D vwCl m_N (m_C cI cZ ad) ad r0 σ) args s 0 0 (x_A m_N ad)) (x_A m_N ad) 4 (x_I D vwCl m_N (m_C cI cZ ad) ad σ) [(0, .ref (ad 0)), (1, .int x1), (2, .int x2)] [.int y0] 18 := by
  unfold bX8_isSeen_18 at hf
  refine x_istore_n (lv' := [(3, .int y0), (0, .ref (ad 0)), (1, .int x1), (2, .int x2)]) B dX8_isSeen_18 rfl (by decide) rfl ?_
  refine x_aload_n B dX8_isSeen_19 rfl 1 rfl ?_
  refine x_get (v := .ref (ad 1)) (kc := 0) (index := 7) B G.1 iX8_isSeen_cX8 rfl (by decide) m_c0 0 (by decide) iX8_isSeen_0 rfl dX8_isSeen_20 ?_
  refine x_bipush (v := 25) B dX8_isSeen_23 (by decide) ?_
  refine x_iload_n B dX8_isSeen_25 rfl 2 rfl ?_
  refine x_iadd B dX8_isSeen_26 ?_
  obtain ⟨h1, hf⟩ := x_gs hf
  refine x_iald (kc := 1) (t0 := 0) B G.1 (by decide) m_c1 rfl h1 dX8_isSeen_27 ?_
  refine x_iload_n B dX8_isSeen_28 rfl 0 rfl ?_
  refine x_iadd B dX8_isSeen_29 ?_
  refine x_aload_n B dX8_isSeen_30 rfl 1 rfl ?_
  refine x_get (v := .ref (ad 1)) (kc := 0) (index := 7) B G.1 iX8_isSeen_cX8 rfl (by decide) m_c0 0 (by decide) iX8_isSeen_0 rfl dX8_isSeen_31 ?_
  refine x_iconst (v := 5) B dX8_isSeen_34 (by decide) ?_
  refine x_iload_n B dX8_isSeen_35 rfl 3 rfl ?_
  refine x_iadd B dX8_isSeen_36 ?_
  obtain ⟨h2, hf⟩ := x_gs hf
  refine x_iald (kc := 1) (t0 := 0) B G.1 (by decide) m_c1 rfl h2 dX8_isSeen_37 ?_
  refine x_icmp_lt (tgt := 45) B dX8_isSeen_38 (by decide) (fun h3 => ?_) (fun h3 => ?_)
  · replace hf := x_it h3 hf
    refine x_iconst (v := 0) B dX8_isSeen_45 (by decide) ?_
    obtain rfl := x_retP hf
    exact x_zret B hr (by decide) dX8_isSeen_46
  · replace hf := x_if h3 hf
    refine x_iconst (v := 1) B dX8_isSeen_41 (by decide) ?_
    refine x_goto (tgt := 46) B dX8_isSeen_42 (by decide) ?_
    obtain rfl := x_retP hf
    exact x_zret B hr (by decide) dX8_isSeen_46
set_option maxRecDepth 100000 in
set_option maxHeartbeats 4000000 in
theorem mX8_isSeen {σ : x_S} {a1 : Int32} {a2 : Int32} (hdis : x_dis m_N ad) (hf : fX8_isSeen a1 a2 σ = some r0) : x_NI l yX8_isSeen wsX8_isSeen 0 D vwCl (s_tys cI cQ cC cZ) m_N (m_C cI cZ ad) ad m_St m_NW [.ref (ad 0), .int a1, .int a2] σ r0 σ := by
  refine x_met (cc := cX8_isSeen) (own := RX8) (maxL := 4) (ret := (some .boolean)) (by decide +kernel) rfl rfl (Nat.le_of_ble_eq_true rfl) hdis m_StOk m_NwOk (fun p e s m args below meth c B G hr => ?_)
  unfold fX8_isSeen at hf
  refine x_sub (lv' := [(0, .ref (ad 0)), (1, .int a1), (2, .int a2)]) [0, 1, 2] rfl ?_
  refine x_aload_n B dX8_isSeen_0 rfl 0 rfl ?_
  refine x_get (v := .ref (ad 1)) (kc := 0) (index := 7) B G.1 iX8_isSeen_cX8 rfl (by decide) m_c0 0 (by decide) iX8_isSeen_0 rfl dX8_isSeen_1 ?_
  refine x_bipush (v := 19) B dX8_isSeen_4 (by decide) ?_
  refine x_iload_n B dX8_isSeen_6 rfl 1 rfl ?_
  refine x_iadd B dX8_isSeen_7 ?_
  obtain ⟨h1, hf⟩ := x_gs hf
  refine x_iald (kc := 1) (t0 := 0) B G.1 (by decide) m_c1 rfl h1 dX8_isSeen_8 ?_
  refine x_iconst (v := 3) B dX8_isSeen_9 (by decide) ?_
  refine x_icmp_le (tgt := 17) B dX8_isSeen_10 (by decide) (fun h2 => ?_) (fun h2 => ?_)
  · replace hf := x_it h2 hf
    refine x_iconst (v := 0) B dX8_isSeen_17 (by decide) ?_
    refine x_sub [0, 1, 2] rfl ?_
    exact kX8_isSeen_18 B G hr hf
  · replace hf := x_if h2 hf
    refine x_iconst (v := 5) B dX8_isSeen_13 (by decide) ?_
    refine x_goto (tgt := 18) B dX8_isSeen_14 (by decide) ?_
    refine x_sub [0, 1, 2] rfl ?_
    exact kX8_isSeen_18 B G hr hf
theorem iX8_make_0 : Cond.constant RX8 52 (-1000001) ∈ wsX8_make := by decide +kernel
theorem iX8_make_1 : Cond.fieldLink RX8 7 "SignDutyModel" "row" "[I" ∈ wsX8_make := by decide +kernel
theorem iX8_make_cX8 : ∀ w ∈ u_ws RX8 TX8 17, w ∈ wsX8_make := by decide +kernel
theorem iX8_make_3 : Cond.constant RX8 160 99999 ∈ wsX8_make := by decide +kernel
theorem iX8_make_4 : Cond.constant RX8 73 (-1000003) ∈ wsX8_make := by decide +kernel
theorem iX8_make_5 : Cond.constant RX8 134 (-1000002) ∈ wsX8_make := by decide +kernel
set_option maxRecDepth 100000 in
set_option maxHeartbeats 4000000 in
theorem mX8_make {σ : x_S} {a1 : Int32} {a2 : Int32} (hdis : x_dis m_N ad) (hf : fX8_make a1 a2 σ = some (r0, σ0)) : x_NI l yX8_make wsX8_make 4 D vwCl (s_tys cI cQ cC cZ) m_N (m_C cI cZ ad) ad m_St m_NW [.ref (ad 0), .int a1, .int a2] σ r0 σ0 := by
  refine x_met (cc := cX8_make) (own := RX8) (maxL := 4) (ret := (some .int)) (by decide +kernel) rfl rfl (Nat.le_of_ble_eq_true rfl) hdis m_StOk m_NwOk (fun p e s m args below meth c B G hr => ?_)
  unfold fX8_make at hf
  refine x_sub (lv' := [(0, .ref (ad 0)), (1, .int a1), (2, .int a2)]) [0, 1, 2] rfl ?_
  refine x_aload_n B dX8_make_0 rfl 0 rfl ?_
  refine x_iload_n B dX8_make_1 rfl 1 rfl ?_
  obtain ⟨r2, e1, hf⟩ := x_ps hf
  refine x_callV (As := [.int a1]) (st := []) B G (mX8_isGesture (l := l) G.1.2.1  e1) (cwV 1 B.2.2.2.2.1 gX8_make_X8_isGesture rfl rfl rfl hdX8_isGesture (x_rm_ok (by omega) (by decide))) (by decide) m_c0 rfl rfl rfl (Nat.le_of_ble_eq_true rfl) ⟨Nat.zero_le _, Nat.zero_le _⟩ dX8_make_2 ?_
  refine x_if_eq (tgt := 16) B dX8_make_5 (by decide) (fun h3 => ?_) (fun h3 => ?_)
  · replace hf := x_it h3 hf
    refine x_ldc (v := (-1000001)) B iX8_make_0 dX8_make_16 ?_
    obtain ⟨rfl, rfl⟩ := x_retI hf
    exact x_iret B hr dX8_make_18
  · replace hf := x_if h3 hf
    refine x_aload_n B dX8_make_8 rfl 0 rfl ?_
    refine x_iload_n B dX8_make_9 rfl 2 rfl ?_
    obtain ⟨r5, e4, hf⟩ := x_ps hf
    refine x_callV (As := [.int a2]) (st := []) B G (mX8_isStreet (l := l) G.1.2.1  e4) (cwV 1 B.2.2.2.2.1 gX8_make_X8_isStreet rfl rfl rfl hdX8_isStreet (x_rm_ok (by omega) (by decide))) (by decide) m_c0 rfl rfl rfl (Nat.le_of_ble_eq_true rfl) ⟨Nat.zero_le _, Nat.zero_le _⟩ dX8_make_10 ?_
    refine x_if_ne (tgt := 19) B dX8_make_13 (by decide) (fun h6 => ?_) (fun h6 => ?_)
    · replace hf := x_if h6 hf
      refine x_aload_n B dX8_make_19 rfl 0 rfl ?_
      refine x_iload_n B dX8_make_20 rfl 1 rfl ?_
      refine x_iload_n B dX8_make_21 rfl 2 rfl ?_
      obtain ⟨r8, e7, hf⟩ := x_ps hf
      refine x_callV (As := [.int a1, .int a2]) (st := []) B G (mX8_isSeen (l := l) G.1.2.1  e7) (cwV 2 B.2.2.2.2.1 gX8_make_X8_isSeen rfl rfl rfl hdX8_isSeen (x_rm_ok (by omega) (by decide))) (by decide) m_c0 rfl rfl rfl (Nat.le_of_ble_eq_true rfl) ⟨Nat.zero_le _, Nat.zero_le _⟩ dX8_make_22 ?_
      refine x_if_ne (tgt := 31) B dX8_make_25 (by decide) (fun h9 => ?_) (fun h9 => ?_)
      · replace hf := x_if h9 hf
        refine x_aload_n B dX8_make_31 rfl 0 rfl ?_
        refine x_get (v := .ref (ad 1)) (kc := 0) (index := 7) B G.1 iX8_make_cX8 rfl (by decide) m_c0 0 (by decide) iX8_make_1 rfl dX8_make_32 ?_
        refine x_iconst (v := 3) B dX8_make_35 (by decide) ?_
        refine x_iald (kc := 1) (t0 := 0) B G.1 (by decide) m_c1 rfl (by decide) dX8_make_36 ?_
        refine x_aload_n B dX8_make_37 rfl 0 rfl ?_
        refine x_iload_n B dX8_make_38 rfl 1 rfl ?_
        refine x_iload_n B dX8_make_39 rfl 2 rfl ?_
        obtain ⟨r12, e11, hf⟩ := x_ps hf
        refine x_callV (As := [.int a1, .int a2]) (st := [.int (σ 1 (3 : Int32).toNatClampNeg)]) B G (mX8_dutyOf (l := l) G.1.2.1  e11) (cwV 2 B.2.2.2.2.1 gX8_make_X8_dutyOf rfl rfl rfl hdX8_dutyOf (x_rm_ok (by omega) (by decide))) (by decide) m_c0 rfl rfl rfl (Nat.le_of_ble_eq_true rfl) ⟨Nat.zero_le _, Nat.zero_le _⟩ dX8_make_40 ?_
        refine x_iadd B dX8_make_43 ?_
        refine x_istore_n (lv' := [(3, .int ((σ 1 (3 : Int32).toNatClampNeg) + r12)), (0, .ref (ad 0)), (1, .int a1), (2, .int a2)]) B dX8_make_44 rfl (by decide) rfl ?_
        refine x_iload_n B dX8_make_45 rfl 0 rfl ?_
        refine x_ldc (v := 99999) B iX8_make_3 dX8_make_46 ?_
        refine x_icmp_le (tgt := 54) B dX8_make_48 (by decide) (fun h13 => ?_) (fun h13 => ?_)
        · replace hf := x_it h13 hf
          refine x_aload_n B dX8_make_54 rfl 1 rfl ?_
          obtain ⟨σ15, e14, hf⟩ := x_vs hf
          refine x_callVv (As := []) (st := []) B G (mX8_keepPast (l := l) G.1.2.1  e14) (cwV 0 B.2.2.2.2.1 gX8_make_X8_keepPast rfl rfl rfl hdX8_keepPast (x_rm_ok (by omega) (by decide))) (by decide) m_c0 rfl rfl rfl (Nat.le_of_ble_eq_true rfl) ⟨Nat.zero_le _, Nat.zero_le _⟩ dX8_make_55 ?_
          refine x_aload_n B dX8_make_58 rfl 1 rfl ?_
          refine x_get (v := .ref (ad 1)) (kc := 0) (index := 7) B G.1 iX8_make_cX8 rfl (by decide) m_c0 0 (by decide) iX8_make_1 rfl dX8_make_59 ?_
          refine x_iconst (v := 3) B dX8_make_62 (by decide) ?_
          refine x_iload_n B dX8_make_63 rfl 0 rfl ?_
          obtain ⟨h16, hf⟩ := x_gs hf
          obtain ⟨σ17, u18, hf⟩ := x_ws hf
          refine x_iast (kc := 1) (t0 := 0) B G.1 (by decide) m_c1 rfl h16 dX8_make_64 ?_
          refine x_nm u18 ?_
          refine x_aload_n B dX8_make_65 rfl 1 rfl ?_
          refine x_get (v := .ref (ad 1)) (kc := 0) (index := 7) B G.1 iX8_make_cX8 rfl (by decide) m_c0 0 (by decide) iX8_make_1 rfl dX8_make_66 ?_
          refine x_bipush (v := 43) B dX8_make_69 (by decide) ?_
          refine x_iload_n B dX8_make_71 rfl 2 rfl ?_
          refine x_iadd B dX8_make_72 ?_
          refine x_dup2 B dX8_make_73 rfl rfl ?_
          obtain ⟨h19, hf⟩ := x_gs hf
          refine x_iald (kc := 1) (t0 := 0) B G.1 (by decide) m_c1 rfl h19 dX8_make_74 ?_
          refine x_iconst (v := 1) B dX8_make_75 (by decide) ?_
          refine x_iadd B dX8_make_76 ?_
          obtain ⟨h20, hf⟩ := x_gs hf
          obtain ⟨σ21, u22, hf⟩ := x_ws hf
          refine x_iast (kc := 1) (t0 := 0) B G.1 (by decide) m_c1 rfl h20 dX8_make_77 ?_
          refine x_nm u22 ?_
          refine x_iload_n B dX8_make_78 rfl 0 rfl ?_
          obtain ⟨rfl, rfl⟩ := x_retI hf
          exact x_iret B hr dX8_make_79
        · replace hf := x_if h13 hf
          refine x_ldc (v := (-1000003)) B iX8_make_4 dX8_make_51 ?_
          obtain ⟨rfl, rfl⟩ := x_retI hf
          exact x_iret B hr dX8_make_53
      · replace hf := x_it h9 hf
        refine x_ldc (v := (-1000002)) B iX8_make_5 dX8_make_28 ?_
        obtain ⟨rfl, rfl⟩ := x_retI hf
        exact x_iret B hr dX8_make_30
    · replace hf := x_it h6 hf
      refine x_ldc (v := (-1000001)) B iX8_make_0 dX8_make_16 ?_
      obtain ⟨rfl, rfl⟩ := x_retI hf
      exact x_iret B hr dX8_make_18
theorem iX8_dim_0 : Cond.constant RX8 52 (-1000001) ∈ wsX8_dim := by decide +kernel
theorem iX8_dim_1 : Cond.constantLong RX8 164 30 ∈ wsX8_dim := by decide +kernel
theorem iX8_dim_2 : Cond.fieldLink RX8 7 "SignDutyModel" "row" "[I" ∈ wsX8_dim := by decide +kernel
theorem iX8_dim_cX8 : ∀ w ∈ u_ws RX8 TX8 17, w ∈ wsX8_dim := by decide +kernel
set_option maxRecDepth 100000 in
set_option maxHeartbeats 4000000 in
theorem mX8_dim {σ : x_S} {a1 : Int32} {a2 : Int32} (hdis : x_dis m_N ad) (hf : fX8_dim a1 a2 σ = some (r0, σ0)) : x_NI l yX8_dim wsX8_dim 2 D vwCl (s_tys cI cQ cC cZ) m_N (m_C cI cZ ad) ad m_St m_NW [.ref (ad 0), .int a1, .int a2] σ r0 σ0 := by
  refine x_met (cc := cX8_dim) (own := RX8) (maxL := 4) (ret := (some .int)) (by decide +kernel) rfl rfl (Nat.le_of_ble_eq_true rfl) hdis m_StOk m_NwOk (fun p e s m args below meth c B G hr => ?_)
  unfold fX8_dim at hf
  refine x_sub (lv' := [(0, .ref (ad 0)), (1, .int a1), (2, .int a2)]) [0, 1, 2] rfl ?_
  refine x_aload_n B dX8_dim_0 rfl 0 rfl ?_
  refine x_iload_n B dX8_dim_1 rfl 1 rfl ?_
  obtain ⟨r2, e1, hf⟩ := x_ps hf
  refine x_callV (As := [.int a1]) (st := []) B G (mX8_isStreet (l := l) G.1.2.1  e1) (cwV 1 B.2.2.2.2.1 gX8_dim_X8_isStreet rfl rfl rfl hdX8_isStreet (x_rm_ok (by omega) (by decide))) (by decide) m_c0 rfl rfl rfl (Nat.le_of_ble_eq_true rfl) ⟨Nat.zero_le _, Nat.zero_le _⟩ dX8_dim_2 ?_
  refine x_if_eq (tgt := 20) B dX8_dim_5 (by decide) (fun h3 => ?_) (fun h3 => ?_)
  · replace hf := x_it h3 hf
    refine x_ldc (v := (-1000001)) B iX8_dim_0 dX8_dim_20 ?_
    obtain ⟨rfl, rfl⟩ := x_retI hf
    exact x_iret B hr dX8_dim_22
  · replace hf := x_if h3 hf
    refine x_iload_n B dX8_dim_8 rfl 2 rfl ?_
    refine x_i2l B dX8_dim_9 ?_
    refine x_lconst (v := 0) B dX8_dim_10 (by decide) ?_
    refine x_ldc2 (v := 30) B iX8_dim_1 dX8_dim_11 ?_
    obtain ⟨r5, e4, hf⟩ := x_ps hf
    refine x_callS (As := [.long a2.toInt64, .long 0, .long 30]) (st := []) B G (mX8_in (l := l) G.1.2.1  e4) (va_cwS 3 B.2.2.2.2.1 gX8_dim_X8_in rfl rfl rfl hdX8_in (x_rm_ok (by omega) (by decide))) rfl rfl (Nat.le_of_ble_eq_true rfl) ⟨Nat.zero_le _, Nat.zero_le _⟩ dX8_dim_14 ?_
    refine x_if_ne (tgt := 23) B dX8_dim_17 (by decide) (fun h6 => ?_) (fun h6 => ?_)
    · replace hf := x_if h6 hf
      refine x_aload_n B dX8_dim_23 rfl 0 rfl ?_
      obtain ⟨σ8, e7, hf⟩ := x_vs hf
      refine x_callVv (As := []) (st := []) B G (mX8_keepPast (l := l) G.1.2.1  e7) (cwV 0 B.2.2.2.2.1 gX8_dim_X8_keepPast rfl rfl rfl hdX8_keepPast (x_rm_ok (by omega) (by decide))) (by decide) m_c0 rfl rfl rfl (Nat.le_of_ble_eq_true rfl) ⟨Nat.zero_le _, Nat.zero_le _⟩ dX8_dim_24 ?_
      refine x_aload_n B dX8_dim_27 rfl 0 rfl ?_
      refine x_get (v := .ref (ad 1)) (kc := 0) (index := 7) B G.1 iX8_dim_cX8 rfl (by decide) m_c0 0 (by decide) iX8_dim_2 rfl dX8_dim_28 ?_
      refine x_iconst (v := 5) B dX8_dim_31 (by decide) ?_
      refine x_iload_n B dX8_dim_32 rfl 1 rfl ?_
      refine x_iadd B dX8_dim_33 ?_
      obtain ⟨h9, hf⟩ := x_gs hf
      refine x_iald (kc := 1) (t0 := 0) B G.1 (by decide) m_c1 rfl h9 dX8_dim_34 ?_
      refine x_istore_n (lv' := [(3, .int (σ8 1 (5 + a1).toNatClampNeg)), (0, .ref (ad 0)), (1, .int a1), (2, .int a2)]) B dX8_dim_35 rfl (by decide) rfl ?_
      refine x_aload_n B dX8_dim_36 rfl 1 rfl ?_
      refine x_get (v := .ref (ad 1)) (kc := 0) (index := 7) B G.1 iX8_dim_cX8 rfl (by decide) m_c0 0 (by decide) iX8_dim_2 rfl dX8_dim_37 ?_
      refine x_iconst (v := 5) B dX8_dim_40 (by decide) ?_
      refine x_iload_n B dX8_dim_41 rfl 2 rfl ?_
      refine x_iadd B dX8_dim_42 ?_
      refine x_iload_n B dX8_dim_43 rfl 3 rfl ?_
      obtain ⟨h10, hf⟩ := x_gs hf
      obtain ⟨σ11, u12, hf⟩ := x_ws hf
      refine x_iast (kc := 1) (t0 := 0) B G.1 (by decide) m_c1 rfl h10 dX8_dim_44 ?_
      refine x_nm u12 ?_
      refine x_iload_n B dX8_dim_45 rfl 0 rfl ?_
      obtain ⟨rfl, rfl⟩ := x_retI hf
      exact x_iret B hr dX8_dim_46
    · replace hf := x_it h6 hf
      refine x_ldc (v := (-1000001)) B iX8_dim_0 dX8_dim_20 ?_
      obtain ⟨rfl, rfl⟩ := x_retI hf
      exact x_iret B hr dX8_dim_22
theorem iX8_train_0 : Cond.constant RX8 52 (-1000001) ∈ wsX8_train := by decide +kernel
theorem iX8_train_1 : Cond.constantLong RX8 166 29 ∈ wsX8_train := by decide +kernel
theorem iX8_train_2 : Cond.fieldLink RX8 7 "SignDutyModel" "row" "[I" ∈ wsX8_train := by decide +kernel
theorem iX8_train_cX8 : ∀ w ∈ u_ws RX8 TX8 17, w ∈ wsX8_train := by decide +kernel
theorem iX8_train_4 : Cond.constant RX8 134 (-1000002) ∈ wsX8_train := by decide +kernel
set_option maxRecDepth 100000 in
set_option maxHeartbeats 4000000 in
theorem mX8_train {σ : x_S} {a1 : Int32} {a2 : Int32} (hdis : x_dis m_N ad) (hf : fX8_train a1 a2 σ = some (r0, σ0)) : x_NI l yX8_train wsX8_train 2 D vwCl (s_tys cI cQ cC cZ) m_N (m_C cI cZ ad) ad m_St m_NW [.ref (ad 0), .int a1, .int a2] σ r0 σ0 := by
  refine x_met (cc := cX8_train) (own := RX8) (maxL := 3) (ret := (some .int)) (by decide +kernel) rfl rfl (Nat.le_of_ble_eq_true rfl) hdis m_StOk m_NwOk (fun p e s m args below meth c B G hr => ?_)
  unfold fX8_train at hf
  refine x_sub (lv' := [(0, .ref (ad 0)), (1, .int a1), (2, .int a2)]) [0, 1, 2] rfl ?_
  refine x_aload_n B dX8_train_0 rfl 0 rfl ?_
  refine x_iload_n B dX8_train_1 rfl 1 rfl ?_
  obtain ⟨r2, e1, hf⟩ := x_ps hf
  refine x_callV (As := [.int a1]) (st := []) B G (mX8_isGesture (l := l) G.1.2.1  e1) (cwV 1 B.2.2.2.2.1 gX8_train_X8_isGesture rfl rfl rfl hdX8_isGesture (x_rm_ok (by omega) (by decide))) (by decide) m_c0 rfl rfl rfl (Nat.le_of_ble_eq_true rfl) ⟨Nat.zero_le _, Nat.zero_le _⟩ dX8_train_2 ?_
  refine x_if_eq (tgt := 20) B dX8_train_5 (by decide) (fun h3 => ?_) (fun h3 => ?_)
  · replace hf := x_it h3 hf
    refine x_ldc (v := (-1000001)) B iX8_train_0 dX8_train_20 ?_
    obtain ⟨rfl, rfl⟩ := x_retI hf
    exact x_iret B hr dX8_train_22
  · replace hf := x_if h3 hf
    refine x_iload_n B dX8_train_8 rfl 2 rfl ?_
    refine x_i2l B dX8_train_9 ?_
    refine x_lconst (v := 1) B dX8_train_10 (by decide) ?_
    refine x_ldc2 (v := 29) B iX8_train_1 dX8_train_11 ?_
    obtain ⟨r5, e4, hf⟩ := x_ps hf
    refine x_callS (As := [.long a2.toInt64, .long 1, .long 29]) (st := []) B G (mX8_in (l := l) G.1.2.1  e4) (va_cwS 3 B.2.2.2.2.1 gX8_train_X8_in rfl rfl rfl hdX8_in (x_rm_ok (by omega) (by decide))) rfl rfl (Nat.le_of_ble_eq_true rfl) ⟨Nat.zero_le _, Nat.zero_le _⟩ dX8_train_14 ?_
    refine x_if_ne (tgt := 23) B dX8_train_17 (by decide) (fun h6 => ?_) (fun h6 => ?_)
    · replace hf := x_if h6 hf
      refine x_aload_n B dX8_train_23 rfl 0 rfl ?_
      refine x_get (v := .ref (ad 1)) (kc := 0) (index := 7) B G.1 iX8_train_cX8 rfl (by decide) m_c0 0 (by decide) iX8_train_2 rfl dX8_train_24 ?_
      refine x_bipush (v := 25) B dX8_train_27 (by decide) ?_
      refine x_iload_n B dX8_train_29 rfl 1 rfl ?_
      refine x_iadd B dX8_train_30 ?_
      obtain ⟨h7, hf⟩ := x_gs hf
      refine x_iald (kc := 1) (t0 := 0) B G.1 (by decide) m_c1 rfl h7 dX8_train_31 ?_
      refine x_iload_n B dX8_train_32 rfl 2 rfl ?_
      refine x_isub B dX8_train_33 ?_
      refine x_iconst (v := 1) B dX8_train_34 (by decide) ?_
      refine x_icmp_ge (tgt := 41) B dX8_train_35 (by decide) (fun h8 => ?_) (fun h8 => ?_)
      · replace hf := x_it h8 hf
        refine x_aload_n B dX8_train_41 rfl 0 rfl ?_
        obtain ⟨σ10, e9, hf⟩ := x_vs hf
        refine x_callVv (As := []) (st := []) B G (mX8_keepPast (l := l) G.1.2.1  e9) (cwV 0 B.2.2.2.2.1 gX8_train_X8_keepPast rfl rfl rfl hdX8_keepPast (x_rm_ok (by omega) (by decide))) (by decide) m_c0 rfl rfl rfl (Nat.le_of_ble_eq_true rfl) ⟨Nat.zero_le _, Nat.zero_le _⟩ dX8_train_42 ?_
        refine x_aload_n B dX8_train_45 rfl 0 rfl ?_
        refine x_get (v := .ref (ad 1)) (kc := 0) (index := 7) B G.1 iX8_train_cX8 rfl (by decide) m_c0 0 (by decide) iX8_train_2 rfl dX8_train_46 ?_
        refine x_bipush (v := 25) B dX8_train_49 (by decide) ?_
        refine x_iload_n B dX8_train_51 rfl 1 rfl ?_
        refine x_iadd B dX8_train_52 ?_
        refine x_dup2 B dX8_train_53 rfl rfl ?_
        obtain ⟨h11, hf⟩ := x_gs hf
        refine x_iald (kc := 1) (t0 := 0) B G.1 (by decide) m_c1 rfl h11 dX8_train_54 ?_
        refine x_iload_n B dX8_train_55 rfl 2 rfl ?_
        refine x_isub B dX8_train_56 ?_
        obtain ⟨h12, hf⟩ := x_gs hf
        obtain ⟨σ13, u14, hf⟩ := x_ws hf
        refine x_iast (kc := 1) (t0 := 0) B G.1 (by decide) m_c1 rfl h12 dX8_train_57 ?_
        refine x_nm u14 ?_
        refine x_aload_n B dX8_train_58 rfl 0 rfl ?_
        refine x_get (v := .ref (ad 1)) (kc := 0) (index := 7) B G.1 iX8_train_cX8 rfl (by decide) m_c0 0 (by decide) iX8_train_2 rfl dX8_train_59 ?_
        refine x_bipush (v := 25) B dX8_train_62 (by decide) ?_
        refine x_iload_n B dX8_train_64 rfl 1 rfl ?_
        refine x_iadd B dX8_train_65 ?_
        obtain ⟨h15, hf⟩ := x_gs hf
        refine x_iald (kc := 1) (t0 := 0) B G.1 (by decide) m_c1 rfl h15 dX8_train_66 ?_
        obtain ⟨rfl, rfl⟩ := x_retI hf
        exact x_iret B hr dX8_train_67
      · replace hf := x_if h8 hf
        refine x_ldc (v := (-1000002)) B iX8_train_4 dX8_train_38 ?_
        obtain ⟨rfl, rfl⟩ := x_retI hf
        exact x_iret B hr dX8_train_40
    · replace hf := x_it h6 hf
      refine x_ldc (v := (-1000001)) B iX8_train_0 dX8_train_20 ?_
      obtain ⟨rfl, rfl⟩ := x_retI hf
      exact x_iret B hr dX8_train_22
theorem iX8_know_0 : Cond.constant RX8 52 (-1000001) ∈ wsX8_know := by decide +kernel
theorem iX8_know_1 : Cond.fieldLink RX8 7 "SignDutyModel" "row" "[I" ∈ wsX8_know := by decide +kernel
theorem iX8_know_cX8 : ∀ w ∈ u_ws RX8 TX8 17, w ∈ wsX8_know := by decide +kernel
theorem iX8_know_3 : Cond.constant RX8 134 (-1000002) ∈ wsX8_know := by decide +kernel
set_option maxRecDepth 100000 in
set_option maxHeartbeats 4000000 in
theorem kX8_know_41 {σ : x_S} {x1 : Int32} {y0 : Int32} {y1 : Int32} (B : x_B p s m args meth c cX8_know 3 wsX8_know RX8) (G : x_H s D vwCl (s_tys cI cQ cC cZ) m_N ad (x_A m_N ad) m_St m_NW) (hr : meth.sig.returnType = (some .int)) (hf : bX8_know_41  x1 y0 y1 σ = some (r0, σ0)) : x_J p l e (x_rm 2) s m args below meth c 0 0 (MQ below (x_Qi D vwCl m_N (m_C cI cZ ad) ad r0 σ0) args s 0 0 (x_A m_N ad)) (x_A m_N ad) 3 (x_I D vwCl m_N (m_C cI cZ ad) ad σ) [(0, .ref (ad 0)), (1, .int x1)] [.int y0, .int y1] 41 := by
  unfold bX8_know_41 at hf
  refine x_icmp_ne (tgt := 47) B dX8_know_41 (by decide) (fun h1 => ?_) (fun h1 => ?_)
  · replace hf := x_if h1 hf
    refine x_aload_n B dX8_know_47 rfl 0 rfl ?_
    obtain ⟨σ3, e2, hf⟩ := x_vs hf
    refine x_callVv (As := []) (st := []) B G (mX8_keepPast (l := l) G.1.2.1  e2) (cwV 0 B.2.2.2.2.1 gX8_know_X8_keepPast rfl rfl rfl hdX8_keepPast (x_rm_ok (by omega) (by decide))) (by decide) m_c0 rfl rfl rfl (Nat.le_of_ble_eq_true rfl) ⟨Nat.zero_le _, Nat.zero_le _⟩ dX8_know_48 ?_
    refine x_aload_n B dX8_know_51 rfl 0 rfl ?_
    refine x_get (v := .ref (ad 1)) (kc := 0) (index := 7) B G.1 iX8_know_cX8 rfl (by decide) m_c0 0 (by decide) iX8_know_1 rfl dX8_know_52 ?_
    refine x_iconst (v := 4) B dX8_know_55 (by decide) ?_
    refine x_dup2 B dX8_know_56 rfl rfl ?_
    refine x_iald (kc := 1) (t0 := 0) B G.1 (by decide) m_c1 rfl (by decide) dX8_know_57 ?_
    refine x_iconst (v := 1) B dX8_know_58 (by decide) ?_
    refine x_iload_n B dX8_know_59 rfl 1 rfl ?_
    refine x_ishl B dX8_know_60 ?_
    refine x_ixor B dX8_know_61 ?_
    obtain ⟨h5, hf⟩ := x_gs hf
    obtain ⟨σ6, u7, hf⟩ := x_ws hf
    refine x_iast (kc := 1) (t0 := 0) B G.1 (by decide) m_c1 rfl h5 dX8_know_62 ?_
    refine x_nm u7 ?_
    refine x_aload_n B dX8_know_63 rfl 0 rfl ?_
    refine x_get (v := .ref (ad 1)) (kc := 0) (index := 7) B G.1 iX8_know_cX8 rfl (by decide) m_c0 0 (by decide) iX8_know_1 rfl dX8_know_64 ?_
    refine x_iconst (v := 4) B dX8_know_67 (by decide) ?_
    refine x_iald (kc := 1) (t0 := 0) B G.1 (by decide) m_c1 rfl (by decide) dX8_know_68 ?_
    obtain ⟨rfl, rfl⟩ := x_retI hf
    exact x_iret B hr dX8_know_69
  · replace hf := x_it h1 hf
    refine x_ldc (v := (-1000002)) B iX8_know_3 dX8_know_44 ?_
    obtain ⟨rfl, rfl⟩ := x_retI hf
    exact x_iret B hr dX8_know_46
set_option maxRecDepth 100000 in
set_option maxHeartbeats 4000000 in
theorem mX8_know {σ : x_S} {a1 : Int32} {a2 : Int32} (hdis : x_dis m_N ad) (hf : fX8_know a1 a2 σ = some (r0, σ0)) : x_NI l yX8_know wsX8_know 2 D vwCl (s_tys cI cQ cC cZ) m_N (m_C cI cZ ad) ad m_St m_NW [.ref (ad 0), .int a1, .int a2] σ r0 σ0 := by
  refine x_met (cc := cX8_know) (own := RX8) (maxL := 3) (ret := (some .int)) (by decide +kernel) rfl rfl (Nat.le_of_ble_eq_true rfl) hdis m_StOk m_NwOk (fun p e s m args below meth c B G hr => ?_)
  unfold fX8_know at hf
  refine x_sub (lv' := [(0, .ref (ad 0)), (1, .int a1), (2, .int a2)]) [0, 1, 2] rfl ?_
  refine x_aload_n B dX8_know_0 rfl 0 rfl ?_
  refine x_iload_n B dX8_know_1 rfl 1 rfl ?_
  obtain ⟨r2, e1, hf⟩ := x_ps hf
  refine x_callV (As := [.int a1]) (st := []) B G (mX8_isStreet (l := l) G.1.2.1  e1) (cwV 1 B.2.2.2.2.1 gX8_know_X8_isStreet rfl rfl rfl hdX8_isStreet (x_rm_ok (by omega) (by decide))) (by decide) m_c0 rfl rfl rfl (Nat.le_of_ble_eq_true rfl) ⟨Nat.zero_le _, Nat.zero_le _⟩ dX8_know_2 ?_
  refine x_if_eq (tgt := 18) B dX8_know_5 (by decide) (fun h3 => ?_) (fun h3 => ?_)
  · replace hf := x_it h3 hf
    refine x_ldc (v := (-1000001)) B iX8_know_0 dX8_know_18 ?_
    obtain ⟨rfl, rfl⟩ := x_retI hf
    exact x_iret B hr dX8_know_20
  · replace hf := x_if h3 hf
    refine x_iload_n B dX8_know_8 rfl 2 rfl ?_
    refine x_i2l B dX8_know_9 ?_
    refine x_lconst (v := 0) B dX8_know_10 (by decide) ?_
    refine x_lconst (v := 1) B dX8_know_11 (by decide) ?_
    obtain ⟨r5, e4, hf⟩ := x_ps hf
    refine x_callS (As := [.long a2.toInt64, .long 0, .long 1]) (st := []) B G (mX8_in (l := l) G.1.2.1  e4) (va_cwS 3 B.2.2.2.2.1 gX8_know_X8_in rfl rfl rfl hdX8_in (x_rm_ok (by omega) (by decide))) rfl rfl (Nat.le_of_ble_eq_true rfl) ⟨Nat.zero_le _, Nat.zero_le _⟩ dX8_know_12 ?_
    refine x_if_ne (tgt := 21) B dX8_know_15 (by decide) (fun h6 => ?_) (fun h6 => ?_)
    · replace hf := x_if h6 hf
      refine x_aload_n B dX8_know_21 rfl 0 rfl ?_
      refine x_get (v := .ref (ad 1)) (kc := 0) (index := 7) B G.1 iX8_know_cX8 rfl (by decide) m_c0 0 (by decide) iX8_know_1 rfl dX8_know_22 ?_
      refine x_iconst (v := 4) B dX8_know_25 (by decide) ?_
      refine x_iald (kc := 1) (t0 := 0) B G.1 (by decide) m_c1 rfl (by decide) dX8_know_26 ?_
      refine x_iload_n B dX8_know_27 rfl 1 rfl ?_
      obtain ⟨r9, e8, hf⟩ := x_ps hf
      refine x_callS (As := [.int (σ 1 (4 : Int32).toNatClampNeg), .int a1]) (st := []) B G (mX8_has (l := l) G.1.2.1  e8) (va_cwS 2 B.2.2.2.2.1 gX8_know_X8_has rfl rfl rfl hdX8_has (x_rm_ok (by omega) (by decide))) rfl rfl (Nat.le_of_ble_eq_true rfl) ⟨Nat.zero_le _, Nat.zero_le _⟩ dX8_know_28 ?_
      refine x_iload_n B dX8_know_31 rfl 2 rfl ?_
      refine x_iconst (v := 1) B dX8_know_32 (by decide) ?_
      refine x_icmp_ne (tgt := 40) B dX8_know_33 (by decide) (fun h10 => ?_) (fun h10 => ?_)
      · replace hf := x_if h10 hf
        refine x_iconst (v := 0) B dX8_know_40 (by decide) ?_
        refine x_sub [0, 1] rfl ?_
        exact kX8_know_41 B G hr hf
      · replace hf := x_it h10 hf
        refine x_iconst (v := 1) B dX8_know_36 (by decide) ?_
        refine x_goto (tgt := 41) B dX8_know_37 (by decide) ?_
        refine x_sub [0, 1] rfl ?_
        exact kX8_know_41 B G hr hf
    · replace hf := x_it h6 hf
      refine x_ldc (v := (-1000001)) B iX8_know_0 dX8_know_18 ?_
      obtain ⟨rfl, rfl⟩ := x_retI hf
      exact x_iret B hr dX8_know_20
theorem iX8_seenStreets_0 : Cond.fieldLink RX8 7 "SignDutyModel" "row" "[I" ∈ wsX8_seenStreets := by decide +kernel
theorem iX8_seenStreets_cX8 : ∀ w ∈ u_ws RX8 TX8 17, w ∈ wsX8_seenStreets := by decide +kernel
set_option maxRecDepth 100000 in
set_option maxHeartbeats 4000000 in
theorem qX8_seenStreets_4 {σ : x_S} {x1 : Int32} {x2 : Int32} {x3 : Int32} {K4 : Int32 → Int32 → Option Int32} (B : x_B p s m args meth c cX8_seenStreets 4 wsX8_seenStreets RX8) (G : x_H s D vwCl (s_tys cI cQ cC cZ) m_N ad (x_A m_N ad) m_St m_NW) (hr : meth.sig.returnType = (some .int)) (hK4 : ∀ (x2 : Int32) (x3 : Int32), K4 x2 x3 = some r0 → x_J p l e (x_rm 1) s m args below meth c 0 0 (MQ below (x_Qi D vwCl m_N (m_C cI cZ ad) ad r0 σ) args s 0 0 (x_A m_N ad)) (x_A m_N ad) 4 (x_I D vwCl m_N (m_C cI cZ ad) ad σ) [(0, .ref (ad 0)), (1, .int x1), (2, .int x2), (3, .int x3)] [] 4) (hf : gX8_seenStreets_4  x1 K4 x2 x3 σ = some r0) : x_J p l e (x_rm 1) s m args below meth c 0 0 (MQ below (x_Qi D vwCl m_N (m_C cI cZ ad) ad r0 σ) args s 0 0 (x_A m_N ad)) (x_A m_N ad) 4 (x_I D vwCl m_N (m_C cI cZ ad) ad σ) [(0, .ref (ad 0)), (1, .int x1), (2, .int x2), (3, .int x3)] [] 4 := by
  unfold gX8_seenStreets_4 at hf
  refine x_iload_n B dX8_seenStreets_4 rfl 3 rfl ?_
  refine x_aload_n B dX8_seenStreets_5 rfl 0 rfl ?_
  refine x_get (v := .ref (ad 1)) (kc := 0) (index := 7) B G.1 iX8_seenStreets_cX8 rfl (by decide) m_c0 0 (by decide) iX8_seenStreets_0 rfl dX8_seenStreets_6 ?_
  refine x_iconst (v := 1) B dX8_seenStreets_9 (by decide) ?_
  refine x_iald (kc := 1) (t0 := 0) B G.1 (by decide) m_c1 rfl (by decide) dX8_seenStreets_10 ?_
  refine x_icmp_ge (tgt := 39) B dX8_seenStreets_11 (by decide) (fun h2 => ?_) (fun h2 => ?_)
  · replace hf := x_it h2 hf
    refine x_iload_n B dX8_seenStreets_39 rfl 2 rfl ?_
    obtain rfl := x_retP hf
    exact x_iret B hr dX8_seenStreets_40
  · replace hf := x_if h2 hf
    refine x_iload_n B dX8_seenStreets_14 rfl 2 rfl ?_
    refine x_aload_n B dX8_seenStreets_15 rfl 0 rfl ?_
    refine x_iload_n B dX8_seenStreets_16 rfl 1 rfl ?_
    refine x_iload_n B dX8_seenStreets_17 rfl 3 rfl ?_
    obtain ⟨r4, e3, hf⟩ := x_ps hf
    refine x_callV (As := [.int x1, .int x3]) (st := [.int x2]) B G (mX8_isSeen (l := l) G.1.2.1  e3) (cwV 2 B.2.2.2.2.1 gX8_seenStreets_X8_isSeen rfl rfl rfl hdX8_isSeen (x_rm_ok (by omega) (by decide))) (by decide) m_c0 rfl rfl rfl (Nat.le_of_ble_eq_true rfl) ⟨Nat.zero_le _, Nat.zero_le _⟩ dX8_seenStreets_18 ?_
    refine x_if_eq (tgt := 30) B dX8_seenStreets_21 (by decide) (fun h5 => ?_) (fun h5 => ?_)
    · replace hf := x_it h5 hf
      refine x_iconst (v := 0) B dX8_seenStreets_30 (by decide) ?_
      refine x_ior B dX8_seenStreets_31 ?_
      refine x_istore_n (lv' := [(2, .int (x2 ||| 0)), (0, .ref (ad 0)), (1, .int x1), (3, .int x3)]) B dX8_seenStreets_32 rfl (by decide) rfl ?_
      refine x_iinc (v := (x3 + 1)) (lv' := [(3, .int (x3 + 1)), (2, .int (x2 ||| 0)), (0, .ref (ad 0)), (1, .int x1)]) B dX8_seenStreets_33 3 rfl rfl (by decide) rfl ?_
      refine x_goto (tgt := 4) B dX8_seenStreets_36 (by decide) ?_
      refine x_sub [2, 3, 1, 0] rfl ?_
      exact hK4 _ _ hf
    · replace hf := x_if h5 hf
      refine x_iconst (v := 1) B dX8_seenStreets_24 (by decide) ?_
      refine x_iload_n B dX8_seenStreets_25 rfl 3 rfl ?_
      refine x_ishl B dX8_seenStreets_26 ?_
      refine x_goto (tgt := 31) B dX8_seenStreets_27 (by decide) ?_
      refine x_ior B dX8_seenStreets_31 ?_
      refine x_istore_n (lv' := [(2, .int (x2 ||| (1 <<< (x3 &&& 31)))), (0, .ref (ad 0)), (1, .int x1), (3, .int x3)]) B dX8_seenStreets_32 rfl (by decide) rfl ?_
      refine x_iinc (v := (x3 + 1)) (lv' := [(3, .int (x3 + 1)), (2, .int (x2 ||| (1 <<< (x3 &&& 31)))), (0, .ref (ad 0)), (1, .int x1)]) B dX8_seenStreets_33 3 rfl rfl (by decide) rfl ?_
      refine x_goto (tgt := 4) B dX8_seenStreets_36 (by decide) ?_
      refine x_sub [2, 3, 1, 0] rfl ?_
      exact hK4 _ _ hf
set_option maxRecDepth 100000 in
set_option maxHeartbeats 4000000 in
theorem kX8_seenStreets_4 {σ : x_S} {x1 : Int32} {x2 : Int32} {x3 : Int32} (B : x_B p s m args meth c cX8_seenStreets 4 wsX8_seenStreets RX8) (G : x_H s D vwCl (s_tys cI cQ cC cZ) m_N ad (x_A m_N ad) m_St m_NW) (hr : meth.sig.returnType = (some .int)) (hf : bX8_seenStreets_4  x1 x2 x3 σ = some r0) : x_J p l e (x_rm 1) s m args below meth c 0 0 (MQ below (x_Qi D vwCl m_N (m_C cI cZ ad) ad r0 σ) args s 0 0 (x_A m_N ad)) (x_A m_N ad) 4 (x_I D vwCl m_N (m_C cI cZ ad) ad σ) [(0, .ref (ad 0)), (1, .int x1), (2, .int x2), (3, .int x3)] [] 4 := by
  have key : ∀ (n : Nat) (x2 : Int32) (x3 : Int32), x_fx (α := Int32 → Int32 → Option Int32) (fun _ _ => none) (fun K => fun x2 x3 => gX8_seenStreets_4  x1 K x2 x3 σ) n x2 x3 = some r0 → x_J p l e (x_rm 1) s m args below meth c 0 0 (MQ below (x_Qi D vwCl m_N (m_C cI cZ ad) ad r0 σ) args s 0 0 (x_A m_N ad)) (x_A m_N ad) 4 (x_I D vwCl m_N (m_C cI cZ ad) ad σ) [(0, .ref (ad 0)), (1, .int x1), (2, .int x2), (3, .int x3)] [] 4 := by
    intro n
    induction n with
    | zero => intro x2 x3 h; cases h
    | succ n ih => intro x2 x3 h; exact qX8_seenStreets_4 B G hr  ih  h
  exact key x_F x2 x3 hf
set_option maxRecDepth 100000 in
set_option maxHeartbeats 4000000 in
theorem mX8_seenStreets {σ : x_S} {a1 : Int32} (hdis : x_dis m_N ad) (hf : fX8_seenStreets a1 σ = some r0) : x_NI l yX8_seenStreets wsX8_seenStreets 1 D vwCl (s_tys cI cQ cC cZ) m_N (m_C cI cZ ad) ad m_St m_NW [.ref (ad 0), .int a1] σ r0 σ := by
  refine x_met (cc := cX8_seenStreets) (own := RX8) (maxL := 4) (ret := (some .int)) (by decide +kernel) rfl rfl (Nat.le_of_ble_eq_true rfl) hdis m_StOk m_NwOk (fun p e s m args below meth c B G hr => ?_)
  unfold fX8_seenStreets at hf
  refine x_sub (lv' := [(0, .ref (ad 0)), (1, .int a1)]) [0, 1] rfl ?_
  refine x_iconst (v := 0) B dX8_seenStreets_0 (by decide) ?_
  refine x_istore_n (lv' := [(2, .int 0), (0, .ref (ad 0)), (1, .int a1)]) B dX8_seenStreets_1 rfl (by decide) rfl ?_
  refine x_iconst (v := 0) B dX8_seenStreets_2 (by decide) ?_
  refine x_istore_n (lv' := [(3, .int 0), (2, .int 0), (0, .ref (ad 0)), (1, .int a1)]) B dX8_seenStreets_3 rfl (by decide) rfl ?_
  refine x_sub [2, 3, 1, 0] rfl ?_
  exact kX8_seenStreets_4 B G hr hf
theorem iX8_seenGestures_0 : Cond.fieldLink RX8 7 "SignDutyModel" "row" "[I" ∈ wsX8_seenGestures := by decide +kernel
theorem iX8_seenGestures_cX8 : ∀ w ∈ u_ws RX8 TX8 17, w ∈ wsX8_seenGestures := by decide +kernel
set_option maxRecDepth 100000 in
set_option maxHeartbeats 4000000 in
theorem qX8_seenGestures_4 {σ : x_S} {x1 : Int32} {x2 : Int32} {x3 : Int32} {K4 : Int32 → Int32 → Option Int32} (B : x_B p s m args meth c cX8_seenGestures 4 wsX8_seenGestures RX8) (G : x_H s D vwCl (s_tys cI cQ cC cZ) m_N ad (x_A m_N ad) m_St m_NW) (hr : meth.sig.returnType = (some .int)) (hK4 : ∀ (x2 : Int32) (x3 : Int32), K4 x2 x3 = some r0 → x_J p l e (x_rm 1) s m args below meth c 0 0 (MQ below (x_Qi D vwCl m_N (m_C cI cZ ad) ad r0 σ) args s 0 0 (x_A m_N ad)) (x_A m_N ad) 4 (x_I D vwCl m_N (m_C cI cZ ad) ad σ) [(0, .ref (ad 0)), (1, .int x1), (2, .int x2), (3, .int x3)] [] 4) (hf : gX8_seenGestures_4  x1 K4 x2 x3 σ = some r0) : x_J p l e (x_rm 1) s m args below meth c 0 0 (MQ below (x_Qi D vwCl m_N (m_C cI cZ ad) ad r0 σ) args s 0 0 (x_A m_N ad)) (x_A m_N ad) 4 (x_I D vwCl m_N (m_C cI cZ ad) ad σ) [(0, .ref (ad 0)), (1, .int x1), (2, .int x2), (3, .int x3)] [] 4 := by
  unfold gX8_seenGestures_4 at hf
  refine x_iload_n B dX8_seenGestures_4 rfl 3 rfl ?_
  refine x_aload_n B dX8_seenGestures_5 rfl 0 rfl ?_
  refine x_get (v := .ref (ad 1)) (kc := 0) (index := 7) B G.1 iX8_seenGestures_cX8 rfl (by decide) m_c0 0 (by decide) iX8_seenGestures_0 rfl dX8_seenGestures_6 ?_
  refine x_iconst (v := 2) B dX8_seenGestures_9 (by decide) ?_
  refine x_iald (kc := 1) (t0 := 0) B G.1 (by decide) m_c1 rfl (by decide) dX8_seenGestures_10 ?_
  refine x_icmp_ge (tgt := 39) B dX8_seenGestures_11 (by decide) (fun h2 => ?_) (fun h2 => ?_)
  · replace hf := x_it h2 hf
    refine x_iload_n B dX8_seenGestures_39 rfl 2 rfl ?_
    obtain rfl := x_retP hf
    exact x_iret B hr dX8_seenGestures_40
  · replace hf := x_if h2 hf
    refine x_iload_n B dX8_seenGestures_14 rfl 2 rfl ?_
    refine x_aload_n B dX8_seenGestures_15 rfl 0 rfl ?_
    refine x_iload_n B dX8_seenGestures_16 rfl 3 rfl ?_
    refine x_iload_n B dX8_seenGestures_17 rfl 1 rfl ?_
    obtain ⟨r4, e3, hf⟩ := x_ps hf
    refine x_callV (As := [.int x3, .int x1]) (st := [.int x2]) B G (mX8_isSeen (l := l) G.1.2.1  e3) (cwV 2 B.2.2.2.2.1 gX8_seenGestures_X8_isSeen rfl rfl rfl hdX8_isSeen (x_rm_ok (by omega) (by decide))) (by decide) m_c0 rfl rfl rfl (Nat.le_of_ble_eq_true rfl) ⟨Nat.zero_le _, Nat.zero_le _⟩ dX8_seenGestures_18 ?_
    refine x_if_eq (tgt := 30) B dX8_seenGestures_21 (by decide) (fun h5 => ?_) (fun h5 => ?_)
    · replace hf := x_it h5 hf
      refine x_iconst (v := 0) B dX8_seenGestures_30 (by decide) ?_
      refine x_ior B dX8_seenGestures_31 ?_
      refine x_istore_n (lv' := [(2, .int (x2 ||| 0)), (0, .ref (ad 0)), (1, .int x1), (3, .int x3)]) B dX8_seenGestures_32 rfl (by decide) rfl ?_
      refine x_iinc (v := (x3 + 1)) (lv' := [(3, .int (x3 + 1)), (2, .int (x2 ||| 0)), (0, .ref (ad 0)), (1, .int x1)]) B dX8_seenGestures_33 3 rfl rfl (by decide) rfl ?_
      refine x_goto (tgt := 4) B dX8_seenGestures_36 (by decide) ?_
      refine x_sub [2, 3, 1, 0] rfl ?_
      exact hK4 _ _ hf
    · replace hf := x_if h5 hf
      refine x_iconst (v := 1) B dX8_seenGestures_24 (by decide) ?_
      refine x_iload_n B dX8_seenGestures_25 rfl 3 rfl ?_
      refine x_ishl B dX8_seenGestures_26 ?_
      refine x_goto (tgt := 31) B dX8_seenGestures_27 (by decide) ?_
      refine x_ior B dX8_seenGestures_31 ?_
      refine x_istore_n (lv' := [(2, .int (x2 ||| (1 <<< (x3 &&& 31)))), (0, .ref (ad 0)), (1, .int x1), (3, .int x3)]) B dX8_seenGestures_32 rfl (by decide) rfl ?_
      refine x_iinc (v := (x3 + 1)) (lv' := [(3, .int (x3 + 1)), (2, .int (x2 ||| (1 <<< (x3 &&& 31)))), (0, .ref (ad 0)), (1, .int x1)]) B dX8_seenGestures_33 3 rfl rfl (by decide) rfl ?_
      refine x_goto (tgt := 4) B dX8_seenGestures_36 (by decide) ?_
      refine x_sub [2, 3, 1, 0] rfl ?_
      exact hK4 _ _ hf
set_option maxRecDepth 100000 in
set_option maxHeartbeats 4000000 in
theorem kX8_seenGestures_4 {σ : x_S} {x1 : Int32} {x2 : Int32} {x3 : Int32} (B : x_B p s m args meth c cX8_seenGestures 4 wsX8_seenGestures RX8) (G : x_H s D vwCl (s_tys cI cQ cC cZ) m_N ad (x_A m_N ad) m_St m_NW) (hr : meth.sig.returnType = (some .int)) (hf : bX8_seenGestures_4  x1 x2 x3 σ = some r0) : x_J p l e (x_rm 1) s m args below meth c 0 0 (MQ below (x_Qi D vwCl m_N (m_C cI cZ ad) ad r0 σ) args s 0 0 (x_A m_N ad)) (x_A m_N ad) 4 (x_I D vwCl m_N (m_C cI cZ ad) ad σ) [(0, .ref (ad 0)), (1, .int x1), (2, .int x2), (3, .int x3)] [] 4 := by
  have key : ∀ (n : Nat) (x2 : Int32) (x3 : Int32), x_fx (α := Int32 → Int32 → Option Int32) (fun _ _ => none) (fun K => fun x2 x3 => gX8_seenGestures_4  x1 K x2 x3 σ) n x2 x3 = some r0 → x_J p l e (x_rm 1) s m args below meth c 0 0 (MQ below (x_Qi D vwCl m_N (m_C cI cZ ad) ad r0 σ) args s 0 0 (x_A m_N ad)) (x_A m_N ad) 4 (x_I D vwCl m_N (m_C cI cZ ad) ad σ) [(0, .ref (ad 0)), (1, .int x1), (2, .int x2), (3, .int x3)] [] 4 := by
    intro n
    induction n with
    | zero => intro x2 x3 h; cases h
    | succ n ih => intro x2 x3 h; exact qX8_seenGestures_4 B G hr  ih  h
  exact key x_F x2 x3 hf
set_option maxRecDepth 100000 in
set_option maxHeartbeats 4000000 in
theorem mX8_seenGestures {σ : x_S} {a1 : Int32} (hdis : x_dis m_N ad) (hf : fX8_seenGestures a1 σ = some r0) : x_NI l yX8_seenGestures wsX8_seenGestures 1 D vwCl (s_tys cI cQ cC cZ) m_N (m_C cI cZ ad) ad m_St m_NW [.ref (ad 0), .int a1] σ r0 σ := by
  refine x_met (cc := cX8_seenGestures) (own := RX8) (maxL := 4) (ret := (some .int)) (by decide +kernel) rfl rfl (Nat.le_of_ble_eq_true rfl) hdis m_StOk m_NwOk (fun p e s m args below meth c B G hr => ?_)
  unfold fX8_seenGestures at hf
  refine x_sub (lv' := [(0, .ref (ad 0)), (1, .int a1)]) [0, 1] rfl ?_
  refine x_iconst (v := 0) B dX8_seenGestures_0 (by decide) ?_
  refine x_istore_n (lv' := [(2, .int 0), (0, .ref (ad 0)), (1, .int a1)]) B dX8_seenGestures_1 rfl (by decide) rfl ?_
  refine x_iconst (v := 0) B dX8_seenGestures_2 (by decide) ?_
  refine x_istore_n (lv' := [(3, .int 0), (2, .int 0), (0, .ref (ad 0)), (1, .int a1)]) B dX8_seenGestures_3 rfl (by decide) rfl ?_
  refine x_sub [2, 3, 1, 0] rfl ?_
  exact kX8_seenGestures_4 B G hr hf
theorem iX8_gesture_0 : Cond.fieldLink RX8 7 "SignDutyModel" "row" "[I" ∈ wsX8_gesture := by decide +kernel
theorem iX8_gesture_cX8 : ∀ w ∈ u_ws RX8 TX8 17, w ∈ wsX8_gesture := by decide +kernel
theorem iX8_gesture_2 : Cond.constant RX8 52 (-1000001) ∈ wsX8_gesture := by decide +kernel
set_option maxRecDepth 100000 in
set_option maxHeartbeats 4000000 in
theorem mX8_gesture {σ : x_S} {a1 : Int32} {a2 : Int32} (hdis : x_dis m_N ad) (hf : fX8_gesture a1 a2 σ = some r0) : x_NI l yX8_gesture wsX8_gesture 2 D vwCl (s_tys cI cQ cC cZ) m_N (m_C cI cZ ad) ad m_St m_NW [.ref (ad 0), .int a1, .int a2] σ r0 σ := by
  refine x_met (cc := cX8_gesture) (own := RX8) (maxL := 3) (ret := (some .int)) (by decide +kernel) rfl rfl (Nat.le_of_ble_eq_true rfl) hdis m_StOk m_NwOk (fun p e s m args below meth c B G hr => ?_)
  unfold fX8_gesture at hf
  refine x_sub (lv' := [(0, .ref (ad 0)), (1, .int a1), (2, .int a2)]) [0, 1, 2] rfl ?_
  refine x_aload_n B dX8_gesture_0 rfl 0 rfl ?_
  refine x_iload_n B dX8_gesture_1 rfl 1 rfl ?_
  obtain ⟨r2, e1, hf⟩ := x_ps hf
  refine x_callV (As := [.int a1]) (st := []) B G (mX8_isGesture (l := l) G.1.2.1  e1) (cwV 1 B.2.2.2.2.1 gX8_gesture_X8_isGesture rfl rfl rfl hdX8_isGesture (x_rm_ok (by omega) (by decide))) (by decide) m_c0 rfl rfl rfl (Nat.le_of_ble_eq_true rfl) ⟨Nat.zero_le _, Nat.zero_le _⟩ dX8_gesture_2 ?_
  refine x_if_ne (tgt := 11) B dX8_gesture_5 (by decide) (fun h3 => ?_) (fun h3 => ?_)
  · replace hf := x_if h3 hf
    refine x_iload_n B dX8_gesture_11 rfl 2 rfl ?_
    by_cases h4 : a2 = 0
    · replace hf := x_it h4 hf
      refine x_tableIn (tgt := 48) (off := 36) B dX8_gesture_12 (by rw [h4]; decide) (by rw [h4]; decide) (by rw [h4]; rfl) (by decide) ?_
      refine x_aload_n B dX8_gesture_48 rfl 0 rfl ?_
      refine x_get (v := .ref (ad 1)) (kc := 0) (index := 7) B G.1 iX8_gesture_cX8 rfl (by decide) m_c0 0 (by decide) iX8_gesture_0 rfl dX8_gesture_49 ?_
      refine x_bipush (v := 25) B dX8_gesture_52 (by decide) ?_
      refine x_iload_n B dX8_gesture_54 rfl 1 rfl ?_
      refine x_iadd B dX8_gesture_55 ?_
      obtain ⟨h5, hf⟩ := x_gs hf
      refine x_iald (kc := 1) (t0 := 0) B G.1 (by decide) m_c1 rfl h5 dX8_gesture_56 ?_
      obtain rfl := x_retP hf
      exact x_iret B hr dX8_gesture_57
    · replace hf := x_if h4 hf
      by_cases h6 : a2 = 1
      · replace hf := x_it h6 hf
        refine x_tableIn (tgt := 58) (off := 46) B dX8_gesture_12 (by rw [h6]; decide) (by rw [h6]; decide) (by rw [h6]; rfl) (by decide) ?_
        refine x_aload_n B dX8_gesture_58 rfl 0 rfl ?_
        refine x_get (v := .ref (ad 1)) (kc := 0) (index := 7) B G.1 iX8_gesture_cX8 rfl (by decide) m_c0 0 (by decide) iX8_gesture_0 rfl dX8_gesture_59 ?_
        refine x_bipush (v := 31) B dX8_gesture_62 (by decide) ?_
        refine x_iload_n B dX8_gesture_64 rfl 1 rfl ?_
        refine x_iadd B dX8_gesture_65 ?_
        obtain ⟨h7, hf⟩ := x_gs hf
        refine x_iald (kc := 1) (t0 := 0) B G.1 (by decide) m_c1 rfl h7 dX8_gesture_66 ?_
        obtain rfl := x_retP hf
        exact x_iret B hr dX8_gesture_67
      · replace hf := x_if h6 hf
        by_cases h8 : a2 = 2
        · replace hf := x_it h8 hf
          refine x_tableIn (tgt := 68) (off := 56) B dX8_gesture_12 (by rw [h8]; decide) (by rw [h8]; decide) (by rw [h8]; rfl) (by decide) ?_
          refine x_aload_n B dX8_gesture_68 rfl 0 rfl ?_
          refine x_get (v := .ref (ad 1)) (kc := 0) (index := 7) B G.1 iX8_gesture_cX8 rfl (by decide) m_c0 0 (by decide) iX8_gesture_0 rfl dX8_gesture_69 ?_
          refine x_bipush (v := 37) B dX8_gesture_72 (by decide) ?_
          refine x_iload_n B dX8_gesture_74 rfl 1 rfl ?_
          refine x_iadd B dX8_gesture_75 ?_
          obtain ⟨h9, hf⟩ := x_gs hf
          refine x_iald (kc := 1) (t0 := 0) B G.1 (by decide) m_c1 rfl h9 dX8_gesture_76 ?_
          obtain rfl := x_retP hf
          exact x_iret B hr dX8_gesture_77
        · replace hf := x_if h8 hf
          by_cases h10 : a2 = 3
          · replace hf := x_it h10 hf
            refine x_tableIn (tgt := 78) (off := 66) B dX8_gesture_12 (by rw [h10]; decide) (by rw [h10]; decide) (by rw [h10]; rfl) (by decide) ?_
            refine x_aload_n B dX8_gesture_78 rfl 0 rfl ?_
            refine x_iload_n B dX8_gesture_79 rfl 1 rfl ?_
            obtain ⟨r12, e11, hf⟩ := x_ps hf
            refine x_callV (As := [.int a1]) (st := []) B G (mX8_seenStreets (l := l) G.1.2.1  e11) (cwV 1 B.2.2.2.2.1 gX8_gesture_X8_seenStreets rfl rfl rfl hdX8_seenStreets (x_rm_ok (by omega) (by decide))) (by decide) m_c0 rfl rfl rfl (Nat.le_of_ble_eq_true rfl) ⟨Nat.zero_le _, Nat.zero_le _⟩ dX8_gesture_80 ?_
            obtain rfl := x_retP hf
            exact x_iret B hr dX8_gesture_83
          · replace hf := x_if h10 hf
            by_cases h13 : a2 = 4
            · replace hf := x_it h13 hf
              refine x_tableIn (tgt := 84) (off := 72) B dX8_gesture_12 (by rw [h13]; decide) (by rw [h13]; decide) (by rw [h13]; rfl) (by decide) ?_
              refine x_aload_n B dX8_gesture_84 rfl 0 rfl ?_
              refine x_get (v := .ref (ad 1)) (kc := 0) (index := 7) B G.1 iX8_gesture_cX8 rfl (by decide) m_c0 0 (by decide) iX8_gesture_0 rfl dX8_gesture_85 ?_
              refine x_bipush (v := 43) B dX8_gesture_88 (by decide) ?_
              refine x_iload_n B dX8_gesture_90 rfl 1 rfl ?_
              refine x_iadd B dX8_gesture_91 ?_
              obtain ⟨h14, hf⟩ := x_gs hf
              refine x_iald (kc := 1) (t0 := 0) B G.1 (by decide) m_c1 rfl h14 dX8_gesture_92 ?_
              obtain rfl := x_retP hf
              exact x_iret B hr dX8_gesture_93
            · replace hf := x_if h13 hf
              refine x_tableOut (tgt := 94) B dX8_gesture_12 (by have g0 := lv_neT (a := 0) h4 rfl; have g1 := lv_neT (a := 1) h6 rfl; have g2 := lv_neT (a := 2) h8 rfl; have g3 := lv_neT (a := 3) h10 rfl; have g4 := lv_neT (a := 4) h13 rfl; omega) (by decide) ?_
              refine x_ldc (v := (-1000001)) B iX8_gesture_2 dX8_gesture_94 ?_
              obtain rfl := x_retP hf
              exact x_iret B hr dX8_gesture_96
  · replace hf := x_it h3 hf
    refine x_ldc (v := (-1000001)) B iX8_gesture_2 dX8_gesture_8 ?_
    obtain rfl := x_retP hf
    exact x_iret B hr dX8_gesture_10
theorem iX8_street_0 : Cond.fieldLink RX8 7 "SignDutyModel" "row" "[I" ∈ wsX8_street := by decide +kernel
theorem iX8_street_cX8 : ∀ w ∈ u_ws RX8 TX8 17, w ∈ wsX8_street := by decide +kernel
theorem iX8_street_2 : Cond.constant RX8 52 (-1000001) ∈ wsX8_street := by decide +kernel
set_option maxRecDepth 100000 in
set_option maxHeartbeats 4000000 in
theorem mX8_street {σ : x_S} {a1 : Int32} {a2 : Int32} (hdis : x_dis m_N ad) (hf : fX8_street a1 a2 σ = some r0) : x_NI l yX8_street wsX8_street 2 D vwCl (s_tys cI cQ cC cZ) m_N (m_C cI cZ ad) ad m_St m_NW [.ref (ad 0), .int a1, .int a2] σ r0 σ := by
  refine x_met (cc := cX8_street) (own := RX8) (maxL := 3) (ret := (some .int)) (by decide +kernel) rfl rfl (Nat.le_of_ble_eq_true rfl) hdis m_StOk m_NwOk (fun p e s m args below meth c B G hr => ?_)
  unfold fX8_street at hf
  refine x_sub (lv' := [(0, .ref (ad 0)), (1, .int a1), (2, .int a2)]) [0, 1, 2] rfl ?_
  refine x_aload_n B dX8_street_0 rfl 0 rfl ?_
  refine x_iload_n B dX8_street_1 rfl 1 rfl ?_
  obtain ⟨r2, e1, hf⟩ := x_ps hf
  refine x_callV (As := [.int a1]) (st := []) B G (mX8_isStreet (l := l) G.1.2.1  e1) (cwV 1 B.2.2.2.2.1 gX8_street_X8_isStreet rfl rfl rfl hdX8_isStreet (x_rm_ok (by omega) (by decide))) (by decide) m_c0 rfl rfl rfl (Nat.le_of_ble_eq_true rfl) ⟨Nat.zero_le _, Nat.zero_le _⟩ dX8_street_2 ?_
  refine x_if_ne (tgt := 11) B dX8_street_5 (by decide) (fun h3 => ?_) (fun h3 => ?_)
  · replace hf := x_if h3 hf
    refine x_iload_n B dX8_street_11 rfl 2 rfl ?_
    by_cases h4 : a2 = 0
    · replace hf := x_it h4 hf
      refine x_tableIn (tgt := 44) (off := 32) B dX8_street_12 (by rw [h4]; decide) (by rw [h4]; decide) (by rw [h4]; rfl) (by decide) ?_
      refine x_aload_n B dX8_street_44 rfl 0 rfl ?_
      refine x_get (v := .ref (ad 1)) (kc := 0) (index := 7) B G.1 iX8_street_cX8 rfl (by decide) m_c0 0 (by decide) iX8_street_0 rfl dX8_street_45 ?_
      refine x_iconst (v := 5) B dX8_street_48 (by decide) ?_
      refine x_iload_n B dX8_street_49 rfl 1 rfl ?_
      refine x_iadd B dX8_street_50 ?_
      obtain ⟨h5, hf⟩ := x_gs hf
      refine x_iald (kc := 1) (t0 := 0) B G.1 (by decide) m_c1 rfl h5 dX8_street_51 ?_
      obtain rfl := x_retP hf
      exact x_iret B hr dX8_street_52
    · replace hf := x_if h4 hf
      by_cases h6 : a2 = 1
      · replace hf := x_it h6 hf
        refine x_tableIn (tgt := 53) (off := 41) B dX8_street_12 (by rw [h6]; decide) (by rw [h6]; decide) (by rw [h6]; rfl) (by decide) ?_
        refine x_aload_n B dX8_street_53 rfl 0 rfl ?_
        refine x_get (v := .ref (ad 1)) (kc := 0) (index := 7) B G.1 iX8_street_cX8 rfl (by decide) m_c0 0 (by decide) iX8_street_0 rfl dX8_street_54 ?_
        refine x_bipush (v := 12) B dX8_street_57 (by decide) ?_
        refine x_iload_n B dX8_street_59 rfl 1 rfl ?_
        refine x_iadd B dX8_street_60 ?_
        obtain ⟨h7, hf⟩ := x_gs hf
        refine x_iald (kc := 1) (t0 := 0) B G.1 (by decide) m_c1 rfl h7 dX8_street_61 ?_
        obtain rfl := x_retP hf
        exact x_iret B hr dX8_street_62
      · replace hf := x_if h6 hf
        by_cases h8 : a2 = 2
        · replace hf := x_it h8 hf
          refine x_tableIn (tgt := 63) (off := 51) B dX8_street_12 (by rw [h8]; decide) (by rw [h8]; decide) (by rw [h8]; rfl) (by decide) ?_
          refine x_aload_n B dX8_street_63 rfl 0 rfl ?_
          refine x_get (v := .ref (ad 1)) (kc := 0) (index := 7) B G.1 iX8_street_cX8 rfl (by decide) m_c0 0 (by decide) iX8_street_0 rfl dX8_street_64 ?_
          refine x_iconst (v := 4) B dX8_street_67 (by decide) ?_
          refine x_iald (kc := 1) (t0 := 0) B G.1 (by decide) m_c1 rfl (by decide) dX8_street_68 ?_
          refine x_iload_n B dX8_street_69 rfl 1 rfl ?_
          refine x_ishr B dX8_street_70 ?_
          refine x_iconst (v := 1) B dX8_street_71 (by decide) ?_
          refine x_iand B dX8_street_72 ?_
          obtain rfl := x_retP hf
          exact x_iret B hr dX8_street_73
        · replace hf := x_if h8 hf
          by_cases h10 : a2 = 3
          · replace hf := x_it h10 hf
            refine x_tableIn (tgt := 74) (off := 62) B dX8_street_12 (by rw [h10]; decide) (by rw [h10]; decide) (by rw [h10]; rfl) (by decide) ?_
            refine x_aload_n B dX8_street_74 rfl 0 rfl ?_
            refine x_iload_n B dX8_street_75 rfl 1 rfl ?_
            obtain ⟨r12, e11, hf⟩ := x_ps hf
            refine x_callV (As := [.int a1]) (st := []) B G (mX8_seenGestures (l := l) G.1.2.1  e11) (cwV 1 B.2.2.2.2.1 gX8_street_X8_seenGestures rfl rfl rfl hdX8_seenGestures (x_rm_ok (by omega) (by decide))) (by decide) m_c0 rfl rfl rfl (Nat.le_of_ble_eq_true rfl) ⟨Nat.zero_le _, Nat.zero_le _⟩ dX8_street_76 ?_
            obtain rfl := x_retP hf
            exact x_iret B hr dX8_street_79
          · replace hf := x_if h10 hf
            refine x_tableOut (tgt := 80) B dX8_street_12 (by have g0 := lv_neT (a := 0) h4 rfl; have g1 := lv_neT (a := 1) h6 rfl; have g2 := lv_neT (a := 2) h8 rfl; have g3 := lv_neT (a := 3) h10 rfl; omega) (by decide) ?_
            refine x_ldc (v := (-1000001)) B iX8_street_2 dX8_street_80 ?_
            obtain rfl := x_retP hf
            exact x_iret B hr dX8_street_82
  · replace hf := x_it h3 hf
    refine x_ldc (v := (-1000001)) B iX8_street_2 dX8_street_8 ?_
    obtain rfl := x_retP hf
    exact x_iret B hr dX8_street_10
theorem iX8_duty_0 : Cond.constant RX8 52 (-1000001) ∈ wsX8_duty := by decide +kernel
set_option maxRecDepth 100000 in
set_option maxHeartbeats 4000000 in
theorem mX8_duty {σ : x_S} {a1 : Int32} {a2 : Int32} (hdis : x_dis m_N ad) (hf : fX8_duty a1 a2 σ = some r0) : x_NI l yX8_duty wsX8_duty 4 D vwCl (s_tys cI cQ cC cZ) m_N (m_C cI cZ ad) ad m_St m_NW [.ref (ad 0), .int a1, .int a2] σ r0 σ := by
  refine x_met (cc := cX8_duty) (own := RX8) (maxL := 3) (ret := (some .int)) (by decide +kernel) rfl rfl (Nat.le_of_ble_eq_true rfl) hdis m_StOk m_NwOk (fun p e s m args below meth c B G hr => ?_)
  unfold fX8_duty at hf
  refine x_sub (lv' := [(0, .ref (ad 0)), (1, .int a1), (2, .int a2)]) [0, 1, 2] rfl ?_
  refine x_aload_n B dX8_duty_0 rfl 0 rfl ?_
  refine x_iload_n B dX8_duty_1 rfl 1 rfl ?_
  obtain ⟨r2, e1, hf⟩ := x_ps hf
  refine x_callV (As := [.int a1]) (st := []) B G (mX8_isGesture (l := l) G.1.2.1  e1) (cwV 1 B.2.2.2.2.1 gX8_duty_X8_isGesture rfl rfl rfl hdX8_isGesture (x_rm_ok (by omega) (by decide))) (by decide) m_c0 rfl rfl rfl (Nat.le_of_ble_eq_true rfl) ⟨Nat.zero_le _, Nat.zero_le _⟩ dX8_duty_2 ?_
  refine x_if_eq (tgt := 25) B dX8_duty_5 (by decide) (fun h3 => ?_) (fun h3 => ?_)
  · replace hf := x_it h3 hf
    refine x_ldc (v := (-1000001)) B iX8_duty_0 dX8_duty_25 ?_
    obtain rfl := x_retP hf
    exact x_iret B hr dX8_duty_27
  · replace hf := x_if h3 hf
    refine x_aload_n B dX8_duty_8 rfl 0 rfl ?_
    refine x_iload_n B dX8_duty_9 rfl 2 rfl ?_
    obtain ⟨r5, e4, hf⟩ := x_ps hf
    refine x_callV (As := [.int a2]) (st := []) B G (mX8_isStreet (l := l) G.1.2.1  e4) (cwV 1 B.2.2.2.2.1 gX8_duty_X8_isStreet rfl rfl rfl hdX8_isStreet (x_rm_ok (by omega) (by decide))) (by decide) m_c0 rfl rfl rfl (Nat.le_of_ble_eq_true rfl) ⟨Nat.zero_le _, Nat.zero_le _⟩ dX8_duty_10 ?_
    refine x_if_eq (tgt := 25) B dX8_duty_13 (by decide) (fun h6 => ?_) (fun h6 => ?_)
    · replace hf := x_it h6 hf
      refine x_ldc (v := (-1000001)) B iX8_duty_0 dX8_duty_25 ?_
      obtain rfl := x_retP hf
      exact x_iret B hr dX8_duty_27
    · replace hf := x_if h6 hf
      refine x_aload_n B dX8_duty_16 rfl 0 rfl ?_
      refine x_iload_n B dX8_duty_17 rfl 1 rfl ?_
      refine x_iload_n B dX8_duty_18 rfl 2 rfl ?_
      obtain ⟨r8, e7, hf⟩ := x_ps hf
      refine x_callV (As := [.int a1, .int a2]) (st := []) B G (mX8_dutyOf (l := l) G.1.2.1  e7) (cwV 2 B.2.2.2.2.1 gX8_duty_X8_dutyOf rfl rfl rfl hdX8_dutyOf (x_rm_ok (by omega) (by decide))) (by decide) m_c0 rfl rfl rfl (Nat.le_of_ble_eq_true rfl) ⟨Nat.zero_le _, Nat.zero_le _⟩ dX8_duty_19 ?_
      refine x_goto (tgt := 27) B dX8_duty_22 (by decide) ?_
      obtain rfl := x_retP hf
      exact x_iret B hr dX8_duty_27
theorem iX8_tells_0 : Cond.fieldLink RX8 7 "SignDutyModel" "row" "[I" ∈ wsX8_tells := by decide +kernel
theorem iX8_tells_cX8 : ∀ w ∈ u_ws RX8 TX8 17, w ∈ wsX8_tells := by decide +kernel
set_option maxRecDepth 100000 in
set_option maxHeartbeats 4000000 in
theorem mX8_tells {σ : x_S} {a1 : Int32} {a2 : Int32} {a3 : Int32} (hdis : x_dis m_N ad) (hf : fX8_tells a1 a2 a3 σ = some r0) : x_NI l yX8_tells wsX8_tells 1 D vwCl (s_tys cI cQ cC cZ) m_N (m_C cI cZ ad) ad m_St m_NW [.ref (ad 0), .int a1, .int a2, .int a3] σ r0 σ := by
  refine x_met (cc := cX8_tells) (own := RX8) (maxL := 4) (ret := (some .boolean)) (by decide +kernel) rfl rfl (Nat.le_of_ble_eq_true rfl) hdis m_StOk m_NwOk (fun p e s m args below meth c B G hr => ?_)
  unfold fX8_tells at hf
  refine x_sub (lv' := [(0, .ref (ad 0)), (1, .int a1), (2, .int a2), (3, .int a3)]) [0, 1, 2, 3] rfl ?_
  refine x_aload_n B dX8_tells_0 rfl 0 rfl ?_
  refine x_get (v := .ref (ad 1)) (kc := 0) (index := 7) B G.1 iX8_tells_cX8 rfl (by decide) m_c0 0 (by decide) iX8_tells_0 rfl dX8_tells_1 ?_
  refine x_bipush (v := 31) B dX8_tells_4 (by decide) ?_
  refine x_iload_n B dX8_tells_6 rfl 1 rfl ?_
  refine x_iadd B dX8_tells_7 ?_
  obtain ⟨h1, hf⟩ := x_gs hf
  refine x_iald (kc := 1) (t0 := 0) B G.1 (by decide) m_c1 rfl h1 dX8_tells_8 ?_
  refine x_iload_n B dX8_tells_9 rfl 2 rfl ?_
  refine x_icmp_ne (tgt := 26) B dX8_tells_10 (by decide) (fun h2 => ?_) (fun h2 => ?_)
  · replace hf := x_if h2 hf
    refine x_iconst (v := 0) B dX8_tells_26 (by decide) ?_
    obtain rfl := x_retP hf
    exact x_zret B hr (by decide) dX8_tells_27
  · replace hf := x_it h2 hf
    refine x_aload_n B dX8_tells_13 rfl 0 rfl ?_
    refine x_iload_n B dX8_tells_14 rfl 1 rfl ?_
    refine x_iload_n B dX8_tells_15 rfl 3 rfl ?_
    obtain ⟨r4, e3, hf⟩ := x_ps hf
    refine x_callV (As := [.int a1, .int a3]) (st := []) B G (mX8_isSeen (l := l) G.1.2.1  e3) (cwV 2 B.2.2.2.2.1 gX8_tells_X8_isSeen rfl rfl rfl hdX8_isSeen (x_rm_ok (by omega) (by decide))) (by decide) m_c0 rfl rfl rfl (Nat.le_of_ble_eq_true rfl) ⟨Nat.zero_le _, Nat.zero_le _⟩ dX8_tells_16 ?_
    refine x_if_eq (tgt := 26) B dX8_tells_19 (by decide) (fun h5 => ?_) (fun h5 => ?_)
    · replace hf := x_it h5 hf
      refine x_iconst (v := 0) B dX8_tells_26 (by decide) ?_
      obtain rfl := x_retP hf
      exact x_zret B hr (by decide) dX8_tells_27
    · replace hf := x_if h5 hf
      refine x_iconst (v := 1) B dX8_tells_22 (by decide) ?_
      refine x_goto (tgt := 27) B dX8_tells_23 (by decide) ?_
      obtain rfl := x_retP hf
      exact x_zret B hr (by decide) dX8_tells_27
theorem iX8_onBy_0 : Cond.constant RX8 177 1000000 ∈ wsX8_onBy := by decide +kernel
theorem iX8_onBy_1 : Cond.fieldLink RX8 32 "SignDutyModel" "costs" "[I" ∈ wsX8_onBy := by decide +kernel
theorem iX8_onBy_cX8 : ∀ w ∈ u_ws RX8 TX8 17, w ∈ wsX8_onBy := by decide +kernel
theorem iX8_onBy_3 : Cond.fieldLink RX8 7 "SignDutyModel" "row" "[I" ∈ wsX8_onBy := by decide +kernel
set_option maxRecDepth 100000 in
set_option maxHeartbeats 4000000 in
theorem kX8_onBy_29 {σ : x_S} {x1 : Int32} {x3 : Int32} {x4 : Int32} {y0 : Int32} (B : x_B p s m args meth c cX8_onBy 6 wsX8_onBy RX8) (G : x_H s D vwCl (s_tys cI cQ cC cZ) m_N ad (x_A m_N ad) m_St m_NW) (hr : meth.sig.returnType = (some .int)) (hf : bX8_onBy_29  x1 x3 x4 y0 σ = some r0) : x_J p l e (x_rm 4) s m args below meth c 0 0 (MQ below (x_Qi D vwCl m_N (m_C cI cZ ad) ad r0 σ) args s 0 0 (x_A m_N ad)) (x_A m_N ad) 6 (x_I D vwCl m_N (m_C cI cZ ad) ad σ) [(0, .ref (ad 0)), (1, .int x1), (3, .int x3), (4, .int x4)] [.int y0] 29 := by
  unfold bX8_onBy_29 at hf
  refine x_istore (lv' := [(5, .int y0), (0, .ref (ad 0)), (1, .int x1), (3, .int x3), (4, .int x4)]) B dX8_onBy_29 (by decide) rfl ?_
  refine x_iload B dX8_onBy_31 0 rfl ?_
  refine x_if_eq (tgt := 70) B dX8_onBy_33 (by decide) (fun h1 => ?_) (fun h1 => ?_)
  · replace hf := x_it h1 hf
    refine x_ldc (v := 1000000) B iX8_onBy_0 dX8_onBy_70 ?_
    obtain rfl := x_retP hf
    exact x_iret B hr dX8_onBy_72
  · replace hf := x_if h1 hf
    refine x_aload_n B dX8_onBy_36 rfl 1 rfl ?_
    refine x_iload_n B dX8_onBy_37 rfl 2 rfl ?_
    refine x_iload_n B dX8_onBy_38 rfl 3 rfl ?_
    obtain ⟨r3, e2, hf⟩ := x_ps hf
    refine x_callV (As := [.int x1, .int x3]) (st := []) B G (mX8_dutyOf (l := l) G.1.2.1  e2) (cwV 2 B.2.2.2.2.1 gX8_onBy_X8_dutyOf rfl rfl rfl hdX8_dutyOf (x_rm_ok (by omega) (by decide))) (by decide) m_c0 rfl rfl rfl (Nat.le_of_ble_eq_true rfl) ⟨Nat.zero_le _, Nat.zero_le _⟩ dX8_onBy_39 ?_
    refine x_aload_n B dX8_onBy_42 rfl 1 rfl ?_
    refine x_get (v := .ref (ad 8)) (kc := 0) (index := 32) B G.1 iX8_onBy_cX8 rfl (by decide) m_c0 16 (by decide) iX8_onBy_1 rfl dX8_onBy_43 ?_
    refine x_bipush (v := 100) B dX8_onBy_46 (by decide) ?_
    refine x_iload_n B dX8_onBy_48 rfl 3 rfl ?_
    refine x_iconst (v := 1) B dX8_onBy_49 (by decide) ?_
    refine x_iadd B dX8_onBy_50 ?_
    refine x_imul B dX8_onBy_51 ?_
    refine x_iload B dX8_onBy_52 4 rfl ?_
    refine x_iadd B dX8_onBy_54 ?_
    refine x_aload_n B dX8_onBy_55 rfl 1 rfl ?_
    refine x_get (v := .ref (ad 1)) (kc := 0) (index := 7) B G.1 iX8_onBy_cX8 rfl (by decide) m_c0 0 (by decide) iX8_onBy_3 rfl dX8_onBy_56 ?_
    refine x_bipush (v := 37) B dX8_onBy_59 (by decide) ?_
    refine x_iload_n B dX8_onBy_61 rfl 2 rfl ?_
    refine x_iadd B dX8_onBy_62 ?_
    obtain ⟨h4, hf⟩ := x_gs hf
    refine x_iald (kc := 1) (t0 := 0) B G.1 (by decide) m_c1 rfl h4 dX8_onBy_63 ?_
    refine x_isub B dX8_onBy_64 ?_
    obtain ⟨h5, hf⟩ := x_gs hf
    refine x_iald (kc := 8) (t0 := 0) B G.1 (by decide) m_c8 rfl h5 dX8_onBy_65 ?_
    refine x_iadd B dX8_onBy_66 ?_
    refine x_goto (tgt := 72) B dX8_onBy_67 (by decide) ?_
    obtain rfl := x_retP hf
    exact x_iret B hr dX8_onBy_72
set_option maxRecDepth 100000 in
set_option maxHeartbeats 4000000 in
theorem kX8_onBy_28 {σ : x_S} {x1 : Int32} {x3 : Int32} {x4 : Int32} (B : x_B p s m args meth c cX8_onBy 6 wsX8_onBy RX8) (G : x_H s D vwCl (s_tys cI cQ cC cZ) m_N ad (x_A m_N ad) m_St m_NW) (hr : meth.sig.returnType = (some .int)) (hf : bX8_onBy_28  x1 x3 x4 σ = some r0) : x_J p l e (x_rm 4) s m args below meth c 0 0 (MQ below (x_Qi D vwCl m_N (m_C cI cZ ad) ad r0 σ) args s 0 0 (x_A m_N ad)) (x_A m_N ad) 6 (x_I D vwCl m_N (m_C cI cZ ad) ad σ) [(0, .ref (ad 0)), (1, .int x1), (3, .int x3), (4, .int x4)] [] 28 := by
  unfold bX8_onBy_28 at hf
  refine x_iconst (v := 0) B dX8_onBy_28 (by decide) ?_
  refine x_sub [0, 1, 2, 3] rfl ?_
  exact kX8_onBy_29 B G hr hf
set_option maxRecDepth 100000 in
set_option maxHeartbeats 4000000 in
theorem mX8_onBy {σ : x_S} {a1 : Int32} {a2 : Int32} {a3 : Int32} {a4 : Int32} (hdis : x_dis m_N ad) (hf : fX8_onBy a1 a2 a3 a4 σ = some r0) : x_NI l yX8_onBy wsX8_onBy 4 D vwCl (s_tys cI cQ cC cZ) m_N (m_C cI cZ ad) ad m_St m_NW [.ref (ad 0), .int a1, .int a2, .int a3, .int a4] σ r0 σ := by
  refine x_met (cc := cX8_onBy) (own := RX8) (maxL := 6) (ret := (some .int)) (by decide +kernel) rfl rfl (Nat.le_of_ble_eq_true rfl) hdis m_StOk m_NwOk (fun p e s m args below meth c B G hr => ?_)
  unfold fX8_onBy at hf
  refine x_sub (lv' := [(0, .ref (ad 0)), (1, .int a1), (2, .int a2), (3, .int a3), (4, .int a4)]) [0, 1, 2, 3, 4] rfl ?_
  refine x_aload_n B dX8_onBy_0 rfl 0 rfl ?_
  refine x_iload_n B dX8_onBy_1 rfl 1 rfl ?_
  refine x_iload_n B dX8_onBy_2 rfl 2 rfl ?_
  refine x_iload_n B dX8_onBy_3 rfl 3 rfl ?_
  obtain ⟨r2, e1, hf⟩ := x_ps hf
  refine x_callV (As := [.int a1, .int a2, .int a3]) (st := []) B G (mX8_tells (l := l) G.1.2.1  e1) (cwV 3 B.2.2.2.2.1 gX8_onBy_X8_tells rfl rfl rfl hdX8_tells (x_rm_ok (by omega) (by decide))) (by decide) m_c0 rfl rfl rfl (Nat.le_of_ble_eq_true rfl) ⟨Nat.zero_le _, Nat.zero_le _⟩ dX8_onBy_4 ?_
  refine x_if_eq (tgt := 28) B dX8_onBy_7 (by decide) (fun h3 => ?_) (fun h3 => ?_)
  · replace hf := x_it h3 hf
    refine x_sub [0, 1, 3, 4] rfl ?_
    exact kX8_onBy_28 B G hr hf
  · replace hf := x_if h3 hf
    refine x_aload_n B dX8_onBy_10 rfl 0 rfl ?_
    refine x_get (v := .ref (ad 1)) (kc := 0) (index := 7) B G.1 iX8_onBy_cX8 rfl (by decide) m_c0 0 (by decide) iX8_onBy_3 rfl dX8_onBy_11 ?_
    refine x_bipush (v := 37) B dX8_onBy_14 (by decide) ?_
    refine x_iload_n B dX8_onBy_16 rfl 1 rfl ?_
    refine x_iadd B dX8_onBy_17 ?_
    obtain ⟨h4, hf⟩ := x_gs hf
    refine x_iald (kc := 1) (t0 := 0) B G.1 (by decide) m_c1 rfl h4 dX8_onBy_18 ?_
    refine x_iload B dX8_onBy_19 4 rfl ?_
    refine x_icmp_gt (tgt := 28) B dX8_onBy_21 (by decide) (fun h5 => ?_) (fun h5 => ?_)
    · replace hf := x_it h5 hf
      refine x_sub [0, 1, 3, 4] rfl ?_
      exact kX8_onBy_28 B G hr hf
    · replace hf := x_if h5 hf
      refine x_iconst (v := 1) B dX8_onBy_24 (by decide) ?_
      refine x_goto (tgt := 29) B dX8_onBy_25 (by decide) ?_
      refine x_sub [0, 1, 3, 4] rfl ?_
      exact kX8_onBy_29 B G hr hf
theorem iX8_layCosts_0 : Cond.fieldLink RX8 32 "SignDutyModel" "costs" "[I" ∈ wsX8_layCosts := by decide +kernel
theorem iX8_layCosts_cX8 : ∀ w ∈ u_ws RX8 TX8 17, w ∈ wsX8_layCosts := by decide +kernel
theorem iX8_layCosts_2 : Cond.constant RX8 177 1000000 ∈ wsX8_layCosts := by decide +kernel
theorem iX8_layCosts_3 : Cond.fieldLink RX8 7 "SignDutyModel" "row" "[I" ∈ wsX8_layCosts := by decide +kernel
set_option maxRecDepth 100000 in
set_option maxHeartbeats 4000000 in
theorem kX8_layCosts_140 {σ : x_S} {K34 : Int32 → x_S → Option x_S} {K43 : Int32 → x_S → Option x_S} {K68 : Int32 → x_S → Option x_S} {x1 : Int32} {x2 : Int32} {x4 : Int32} {x5 : Int32} {x6 : Int32} {y0 : Int32} {y1 : Int32} (B : x_B p s m args meth c cX8_layCosts 8 wsX8_layCosts RX8) (G : x_H s D vwCl (s_tys cI cQ cC cZ) m_N ad (x_A m_N ad) m_St m_NW) (hr : meth.sig.returnType = none) (hK34 : ∀ (x4 : Int32) (σ : x_S), K34 x4 σ = some σ0 → x_J p l e (x_rm 5) s m args below meth c 0 0 (MQ below (x_Qv D vwCl m_N (m_C cI cZ ad) ad σ0) args s 0 0 (x_A m_N ad)) (x_A m_N ad) 8 (x_I D vwCl m_N (m_C cI cZ ad) ad σ) [(0, .ref (ad 0)), (1, .int x1), (2, .int x2), (4, .int x4)] [] 34) (hK43 : ∀ (x5 : Int32) (σ : x_S), K43 x5 σ = some σ0 → x_J p l e (x_rm 5) s m args below meth c 0 0 (MQ below (x_Qv D vwCl m_N (m_C cI cZ ad) ad σ0) args s 0 0 (x_A m_N ad)) (x_A m_N ad) 8 (x_I D vwCl m_N (m_C cI cZ ad) ad σ) [(0, .ref (ad 0)), (1, .int x1), (2, .int x2), (4, .int x4), (5, .int x5)] [] 43) (hK68 : ∀ (x6 : Int32) (σ : x_S), K68 x6 σ = some σ0 → x_J p l e (x_rm 5) s m args below meth c 0 0 (MQ below (x_Qv D vwCl m_N (m_C cI cZ ad) ad σ0) args s 0 0 (x_A m_N ad)) (x_A m_N ad) 8 (x_I D vwCl m_N (m_C cI cZ ad) ad σ) [(0, .ref (ad 0)), (1, .int x1), (2, .int x2), (4, .int x4), (5, .int x5), (6, .int x6)] [] 68) (hf : bX8_layCosts_140 K34 K43 K68 x1 x2 x4 x5 x6 y0 y1 σ = some σ0) : x_J p l e (x_rm 5) s m args below meth c 0 0 (MQ below (x_Qv D vwCl m_N (m_C cI cZ ad) ad σ0) args s 0 0 (x_A m_N ad)) (x_A m_N ad) 8 (x_I D vwCl m_N (m_C cI cZ ad) ad σ) [(0, .ref (ad 0)), (1, .int x1), (2, .int x2), (4, .int x4), (5, .int x5), (6, .int x6)] [.int y0, .int y1, .ref (ad 8)] 140 := by
  unfold bX8_layCosts_140 at hf
  obtain ⟨h1, hf⟩ := x_gs hf
  obtain ⟨σ2, u3, hf⟩ := x_ws hf
  refine x_iast (kc := 8) (t0 := 0) B G.1 (by decide) m_c8 rfl h1 dX8_layCosts_140 ?_
  refine x_nm u3 ?_
  refine x_iinc (v := (x6 + 1)) (lv' := [(6, .int (x6 + 1)), (0, .ref (ad 0)), (1, .int x1), (2, .int x2), (4, .int x4), (5, .int x5)]) B dX8_layCosts_141 5 rfl rfl (by decide) rfl ?_
  refine x_goto (tgt := 68) B dX8_layCosts_144 (by decide) ?_
  refine x_sub [1, 2, 3, 4, 5, 0] rfl ?_
  exact hK68 _ _ hf
set_option maxRecDepth 100000 in
set_option maxHeartbeats 4000000 in
theorem qX8_layCosts_68 {σ : x_S} {K34 : Int32 → x_S → Option x_S} {K43 : Int32 → x_S → Option x_S} {x1 : Int32} {x2 : Int32} {x4 : Int32} {x5 : Int32} {x6 : Int32} {K68 : Int32 → x_S → Option x_S} (B : x_B p s m args meth c cX8_layCosts 8 wsX8_layCosts RX8) (G : x_H s D vwCl (s_tys cI cQ cC cZ) m_N ad (x_A m_N ad) m_St m_NW) (hr : meth.sig.returnType = none) (hK34 : ∀ (x4 : Int32) (σ : x_S), K34 x4 σ = some σ0 → x_J p l e (x_rm 5) s m args below meth c 0 0 (MQ below (x_Qv D vwCl m_N (m_C cI cZ ad) ad σ0) args s 0 0 (x_A m_N ad)) (x_A m_N ad) 8 (x_I D vwCl m_N (m_C cI cZ ad) ad σ) [(0, .ref (ad 0)), (1, .int x1), (2, .int x2), (4, .int x4)] [] 34) (hK43 : ∀ (x5 : Int32) (σ : x_S), K43 x5 σ = some σ0 → x_J p l e (x_rm 5) s m args below meth c 0 0 (MQ below (x_Qv D vwCl m_N (m_C cI cZ ad) ad σ0) args s 0 0 (x_A m_N ad)) (x_A m_N ad) 8 (x_I D vwCl m_N (m_C cI cZ ad) ad σ) [(0, .ref (ad 0)), (1, .int x1), (2, .int x2), (4, .int x4), (5, .int x5)] [] 43) (hK68 : ∀ (x6 : Int32) (σ : x_S), K68 x6 σ = some σ0 → x_J p l e (x_rm 5) s m args below meth c 0 0 (MQ below (x_Qv D vwCl m_N (m_C cI cZ ad) ad σ0) args s 0 0 (x_A m_N ad)) (x_A m_N ad) 8 (x_I D vwCl m_N (m_C cI cZ ad) ad σ) [(0, .ref (ad 0)), (1, .int x1), (2, .int x2), (4, .int x4), (5, .int x5), (6, .int x6)] [] 68) (hf : gX8_layCosts_68 K34 K43 x1 x2 x4 x5 K68 x6 σ = some σ0) : x_J p l e (x_rm 5) s m args below meth c 0 0 (MQ below (x_Qv D vwCl m_N (m_C cI cZ ad) ad σ0) args s 0 0 (x_A m_N ad)) (x_A m_N ad) 8 (x_I D vwCl m_N (m_C cI cZ ad) ad σ) [(0, .ref (ad 0)), (1, .int x1), (2, .int x2), (4, .int x4), (5, .int x5), (6, .int x6)] [] 68 := by
  unfold gX8_layCosts_68 at hf
  refine x_iload B dX8_layCosts_68 5 rfl ?_
  refine x_aload_n B dX8_layCosts_70 rfl 0 rfl ?_
  refine x_get (v := .ref (ad 1)) (kc := 0) (index := 7) B G.1 iX8_layCosts_cX8 rfl (by decide) m_c0 0 (by decide) iX8_layCosts_3 rfl dX8_layCosts_71 ?_
  refine x_iconst (v := 2) B dX8_layCosts_74 (by decide) ?_
  refine x_iald (kc := 1) (t0 := 0) B G.1 (by decide) m_c1 rfl (by decide) dX8_layCosts_75 ?_
  refine x_icmp_ge (tgt := 147) B dX8_layCosts_76 (by decide) (fun h2 => ?_) (fun h2 => ?_)
  · replace hf := x_it h2 hf
    refine x_iinc (v := (x5 + 1)) (lv' := [(5, .int (x5 + 1)), (0, .ref (ad 0)), (1, .int x1), (2, .int x2), (4, .int x4), (6, .int x6)]) B dX8_layCosts_147 4 rfl rfl (by decide) rfl ?_
    refine x_goto (tgt := 43) B dX8_layCosts_150 (by decide) ?_
    refine x_sub [1, 2, 3, 4, 0] rfl ?_
    exact hK43 _ _ hf
  · replace hf := x_if h2 hf
    refine x_aload_n B dX8_layCosts_79 rfl 0 rfl ?_
    refine x_iload B dX8_layCosts_80 5 rfl ?_
    refine x_iload_n B dX8_layCosts_82 rfl 1 rfl ?_
    refine x_iload B dX8_layCosts_83 3 rfl ?_
    refine x_iload B dX8_layCosts_85 4 rfl ?_
    obtain ⟨r4, e3, hf⟩ := x_ps hf
    refine x_callV (As := [.int x6, .int x1, .int x4, .int x5]) (st := []) B G (mX8_onBy (l := l) G.1.2.1  e3) (cwV 4 B.2.2.2.2.1 gX8_layCosts_X8_onBy rfl rfl rfl hdX8_onBy (x_rm_ok (by omega) (by decide))) (by decide) m_c0 rfl rfl rfl (Nat.le_of_ble_eq_true rfl) ⟨Nat.zero_le _, Nat.zero_le _⟩ dX8_layCosts_87 ?_
    refine x_istore (lv' := [(7, .int r4), (0, .ref (ad 0)), (1, .int x1), (2, .int x2), (4, .int x4), (5, .int x5), (6, .int x6)]) B dX8_layCosts_90 (by decide) rfl ?_
    refine x_aload_n B dX8_layCosts_92 rfl 1 rfl ?_
    refine x_get (v := .ref (ad 8)) (kc := 0) (index := 32) B G.1 iX8_layCosts_cX8 rfl (by decide) m_c0 16 (by decide) iX8_layCosts_0 rfl dX8_layCosts_93 ?_
    refine x_bipush (v := 100) B dX8_layCosts_96 (by decide) ?_
    refine x_iload B dX8_layCosts_98 4 rfl ?_
    refine x_imul B dX8_layCosts_100 ?_
    refine x_iload B dX8_layCosts_101 5 rfl ?_
    refine x_iadd B dX8_layCosts_103 ?_
    refine x_iload B dX8_layCosts_104 0 rfl ?_
    refine x_aload_n B dX8_layCosts_106 rfl 1 rfl ?_
    refine x_get (v := .ref (ad 8)) (kc := 0) (index := 32) B G.1 iX8_layCosts_cX8 rfl (by decide) m_c0 16 (by decide) iX8_layCosts_0 rfl dX8_layCosts_107 ?_
    refine x_bipush (v := 100) B dX8_layCosts_110 (by decide) ?_
    refine x_iload B dX8_layCosts_112 4 rfl ?_
    refine x_imul B dX8_layCosts_114 ?_
    refine x_iload B dX8_layCosts_115 5 rfl ?_
    refine x_iadd B dX8_layCosts_117 ?_
    obtain ⟨h5, hf⟩ := x_gs hf
    refine x_iald (kc := 8) (t0 := 0) B G.1 (by decide) m_c8 rfl h5 dX8_layCosts_118 ?_
    refine x_icmp_ge (tgt := 127) B dX8_layCosts_119 (by decide) (fun h6 => ?_) (fun h6 => ?_)
    · replace hf := x_it h6 hf
      refine x_aload_n B dX8_layCosts_127 rfl 1 rfl ?_
      refine x_get (v := .ref (ad 8)) (kc := 0) (index := 32) B G.1 iX8_layCosts_cX8 rfl (by decide) m_c0 16 (by decide) iX8_layCosts_0 rfl dX8_layCosts_128 ?_
      refine x_bipush (v := 100) B dX8_layCosts_131 (by decide) ?_
      refine x_iload B dX8_layCosts_133 4 rfl ?_
      refine x_imul B dX8_layCosts_135 ?_
      refine x_iload B dX8_layCosts_136 5 rfl ?_
      refine x_iadd B dX8_layCosts_138 ?_
      obtain ⟨h7, hf⟩ := x_gs hf
      refine x_iald (kc := 8) (t0 := 0) B G.1 (by decide) m_c8 rfl h7 dX8_layCosts_139 ?_
      refine x_sub [1, 2, 3, 4, 5, 6] rfl ?_
      exact kX8_layCosts_140 B G hr hK34 hK43 hK68 hf
    · replace hf := x_if h6 hf
      refine x_iload B dX8_layCosts_122 0 rfl ?_
      refine x_goto (tgt := 140) B dX8_layCosts_124 (by decide) ?_
      refine x_sub [1, 2, 3, 4, 5, 6] rfl ?_
      exact kX8_layCosts_140 B G hr hK34 hK43 hK68 hf
set_option maxRecDepth 100000 in
set_option maxHeartbeats 4000000 in
theorem kX8_layCosts_68 {σ : x_S} {K34 : Int32 → x_S → Option x_S} {K43 : Int32 → x_S → Option x_S} {x1 : Int32} {x2 : Int32} {x4 : Int32} {x5 : Int32} {x6 : Int32} (B : x_B p s m args meth c cX8_layCosts 8 wsX8_layCosts RX8) (G : x_H s D vwCl (s_tys cI cQ cC cZ) m_N ad (x_A m_N ad) m_St m_NW) (hr : meth.sig.returnType = none) (hK34 : ∀ (x4 : Int32) (σ : x_S), K34 x4 σ = some σ0 → x_J p l e (x_rm 5) s m args below meth c 0 0 (MQ below (x_Qv D vwCl m_N (m_C cI cZ ad) ad σ0) args s 0 0 (x_A m_N ad)) (x_A m_N ad) 8 (x_I D vwCl m_N (m_C cI cZ ad) ad σ) [(0, .ref (ad 0)), (1, .int x1), (2, .int x2), (4, .int x4)] [] 34) (hK43 : ∀ (x5 : Int32) (σ : x_S), K43 x5 σ = some σ0 → x_J p l e (x_rm 5) s m args below meth c 0 0 (MQ below (x_Qv D vwCl m_N (m_C cI cZ ad) ad σ0) args s 0 0 (x_A m_N ad)) (x_A m_N ad) 8 (x_I D vwCl m_N (m_C cI cZ ad) ad σ) [(0, .ref (ad 0)), (1, .int x1), (2, .int x2), (4, .int x4), (5, .int x5)] [] 43) (hf : bX8_layCosts_68 K34 K43 x1 x2 x4 x5 x6 σ = some σ0) : x_J p l e (x_rm 5) s m args below meth c 0 0 (MQ below (x_Qv D vwCl m_N (m_C cI cZ ad) ad σ0) args s 0 0 (x_A m_N ad)) (x_A m_N ad) 8 (x_I D vwCl m_N (m_C cI cZ ad) ad σ) [(0, .ref (ad 0)), (1, .int x1), (2, .int x2), (4, .int x4), (5, .int x5), (6, .int x6)] [] 68 := by
  have key : ∀ (n : Nat) (x6 : Int32) (σ : x_S), x_fx (α := Int32 → x_S → Option x_S) (fun _ _ => none) (fun K => fun x6 σ => gX8_layCosts_68 K34 K43 x1 x2 x4 x5 K x6 σ) n x6 σ = some σ0 → x_J p l e (x_rm 5) s m args below meth c 0 0 (MQ below (x_Qv D vwCl m_N (m_C cI cZ ad) ad σ0) args s 0 0 (x_A m_N ad)) (x_A m_N ad) 8 (x_I D vwCl m_N (m_C cI cZ ad) ad σ) [(0, .ref (ad 0)), (1, .int x1), (2, .int x2), (4, .int x4), (5, .int x5), (6, .int x6)] [] 68 := by
    intro n
    induction n with
    | zero => intro x6 σ h; cases h
    | succ n ih => intro x6 σ h; exact qX8_layCosts_68 B G hr hK34 hK43 ih  h
  exact key x_F x6 σ hf
set_option maxRecDepth 100000 in
set_option maxHeartbeats 4000000 in
theorem qX8_layCosts_43 {σ : x_S} {K34 : Int32 → x_S → Option x_S} {x1 : Int32} {x2 : Int32} {x4 : Int32} {x5 : Int32} {K43 : Int32 → x_S → Option x_S} (B : x_B p s m args meth c cX8_layCosts 8 wsX8_layCosts RX8) (G : x_H s D vwCl (s_tys cI cQ cC cZ) m_N ad (x_A m_N ad) m_St m_NW) (hr : meth.sig.returnType = none) (hK34 : ∀ (x4 : Int32) (σ : x_S), K34 x4 σ = some σ0 → x_J p l e (x_rm 5) s m args below meth c 0 0 (MQ below (x_Qv D vwCl m_N (m_C cI cZ ad) ad σ0) args s 0 0 (x_A m_N ad)) (x_A m_N ad) 8 (x_I D vwCl m_N (m_C cI cZ ad) ad σ) [(0, .ref (ad 0)), (1, .int x1), (2, .int x2), (4, .int x4)] [] 34) (hK43 : ∀ (x5 : Int32) (σ : x_S), K43 x5 σ = some σ0 → x_J p l e (x_rm 5) s m args below meth c 0 0 (MQ below (x_Qv D vwCl m_N (m_C cI cZ ad) ad σ0) args s 0 0 (x_A m_N ad)) (x_A m_N ad) 8 (x_I D vwCl m_N (m_C cI cZ ad) ad σ) [(0, .ref (ad 0)), (1, .int x1), (2, .int x2), (4, .int x4), (5, .int x5)] [] 43) (hf : gX8_layCosts_43 K34 x1 x2 x4 K43 x5 σ = some σ0) : x_J p l e (x_rm 5) s m args below meth c 0 0 (MQ below (x_Qv D vwCl m_N (m_C cI cZ ad) ad σ0) args s 0 0 (x_A m_N ad)) (x_A m_N ad) 8 (x_I D vwCl m_N (m_C cI cZ ad) ad σ) [(0, .ref (ad 0)), (1, .int x1), (2, .int x2), (4, .int x4), (5, .int x5)] [] 43 := by
  unfold gX8_layCosts_43 at hf
  refine x_iload B dX8_layCosts_43 4 rfl ?_
  refine x_bipush (v := 100) B dX8_layCosts_45 (by decide) ?_
  refine x_icmp_ge (tgt := 153) B dX8_layCosts_47 (by decide) (fun h1 => ?_) (fun h1 => ?_)
  · replace hf := x_it h1 hf
    refine x_iinc (v := (x4 + (-1))) (lv' := [(4, .int (x4 + (-1))), (0, .ref (ad 0)), (1, .int x1), (2, .int x2), (5, .int x5)]) B dX8_layCosts_153 3 rfl rfl (by decide) rfl ?_
    refine x_goto (tgt := 34) B dX8_layCosts_156 (by decide) ?_
    refine x_sub [1, 2, 3, 0] rfl ?_
    exact hK34 _ _ hf
  · replace hf := x_if h1 hf
    refine x_aload_n B dX8_layCosts_50 rfl 0 rfl ?_
    refine x_get (v := .ref (ad 8)) (kc := 0) (index := 32) B G.1 iX8_layCosts_cX8 rfl (by decide) m_c0 16 (by decide) iX8_layCosts_0 rfl dX8_layCosts_51 ?_
    refine x_bipush (v := 100) B dX8_layCosts_54 (by decide) ?_
    refine x_iload B dX8_layCosts_56 3 rfl ?_
    refine x_imul B dX8_layCosts_58 ?_
    refine x_iload B dX8_layCosts_59 4 rfl ?_
    refine x_iadd B dX8_layCosts_61 ?_
    refine x_ldc (v := 1000000) B iX8_layCosts_2 dX8_layCosts_62 ?_
    obtain ⟨h2, hf⟩ := x_gs hf
    obtain ⟨σ3, u4, hf⟩ := x_ws hf
    refine x_iast (kc := 8) (t0 := 0) B G.1 (by decide) m_c8 rfl h2 dX8_layCosts_64 ?_
    refine x_nm u4 ?_
    refine x_iconst (v := 0) B dX8_layCosts_65 (by decide) ?_
    refine x_istore (lv' := [(6, .int 0), (0, .ref (ad 0)), (1, .int x1), (2, .int x2), (4, .int x4), (5, .int x5)]) B dX8_layCosts_66 (by decide) rfl ?_
    refine x_sub [1, 2, 3, 4, 5, 0] rfl ?_
    exact kX8_layCosts_68 B G hr hK34 hK43 hf
set_option maxRecDepth 100000 in
set_option maxHeartbeats 4000000 in
theorem kX8_layCosts_43 {σ : x_S} {K34 : Int32 → x_S → Option x_S} {x1 : Int32} {x2 : Int32} {x4 : Int32} {x5 : Int32} (B : x_B p s m args meth c cX8_layCosts 8 wsX8_layCosts RX8) (G : x_H s D vwCl (s_tys cI cQ cC cZ) m_N ad (x_A m_N ad) m_St m_NW) (hr : meth.sig.returnType = none) (hK34 : ∀ (x4 : Int32) (σ : x_S), K34 x4 σ = some σ0 → x_J p l e (x_rm 5) s m args below meth c 0 0 (MQ below (x_Qv D vwCl m_N (m_C cI cZ ad) ad σ0) args s 0 0 (x_A m_N ad)) (x_A m_N ad) 8 (x_I D vwCl m_N (m_C cI cZ ad) ad σ) [(0, .ref (ad 0)), (1, .int x1), (2, .int x2), (4, .int x4)] [] 34) (hf : bX8_layCosts_43 K34 x1 x2 x4 x5 σ = some σ0) : x_J p l e (x_rm 5) s m args below meth c 0 0 (MQ below (x_Qv D vwCl m_N (m_C cI cZ ad) ad σ0) args s 0 0 (x_A m_N ad)) (x_A m_N ad) 8 (x_I D vwCl m_N (m_C cI cZ ad) ad σ) [(0, .ref (ad 0)), (1, .int x1), (2, .int x2), (4, .int x4), (5, .int x5)] [] 43 := by
  have key : ∀ (n : Nat) (x5 : Int32) (σ : x_S), x_fx (α := Int32 → x_S → Option x_S) (fun _ _ => none) (fun K => fun x5 σ => gX8_layCosts_43 K34 x1 x2 x4 K x5 σ) n x5 σ = some σ0 → x_J p l e (x_rm 5) s m args below meth c 0 0 (MQ below (x_Qv D vwCl m_N (m_C cI cZ ad) ad σ0) args s 0 0 (x_A m_N ad)) (x_A m_N ad) 8 (x_I D vwCl m_N (m_C cI cZ ad) ad σ) [(0, .ref (ad 0)), (1, .int x1), (2, .int x2), (4, .int x4), (5, .int x5)] [] 43 := by
    intro n
    induction n with
    | zero => intro x5 σ h; cases h
    | succ n ih => intro x5 σ h; exact qX8_layCosts_43 B G hr hK34 ih  h
  exact key x_F x5 σ hf
set_option maxRecDepth 100000 in
set_option maxHeartbeats 4000000 in
theorem qX8_layCosts_34 {σ : x_S} {x1 : Int32} {x2 : Int32} {x4 : Int32} {K34 : Int32 → x_S → Option x_S} (B : x_B p s m args meth c cX8_layCosts 8 wsX8_layCosts RX8) (G : x_H s D vwCl (s_tys cI cQ cC cZ) m_N ad (x_A m_N ad) m_St m_NW) (hr : meth.sig.returnType = none) (hK34 : ∀ (x4 : Int32) (σ : x_S), K34 x4 σ = some σ0 → x_J p l e (x_rm 5) s m args below meth c 0 0 (MQ below (x_Qv D vwCl m_N (m_C cI cZ ad) ad σ0) args s 0 0 (x_A m_N ad)) (x_A m_N ad) 8 (x_I D vwCl m_N (m_C cI cZ ad) ad σ) [(0, .ref (ad 0)), (1, .int x1), (2, .int x2), (4, .int x4)] [] 34) (hf : gX8_layCosts_34  x1 x2 K34 x4 σ = some σ0) : x_J p l e (x_rm 5) s m args below meth c 0 0 (MQ below (x_Qv D vwCl m_N (m_C cI cZ ad) ad σ0) args s 0 0 (x_A m_N ad)) (x_A m_N ad) 8 (x_I D vwCl m_N (m_C cI cZ ad) ad σ) [(0, .ref (ad 0)), (1, .int x1), (2, .int x2), (4, .int x4)] [] 34 := by
  unfold gX8_layCosts_34 at hf
  refine x_iload B dX8_layCosts_34 3 rfl ?_
  refine x_iload_n B dX8_layCosts_36 rfl 2 rfl ?_
  refine x_icmp_lt (tgt := 159) B dX8_layCosts_37 (by decide) (fun h1 => ?_) (fun h1 => ?_)
  · replace hf := x_it h1 hf
    obtain rfl := x_retV hf
    exact x_vret B hr dX8_layCosts_159
  · replace hf := x_if h1 hf
    refine x_iconst (v := 0) B dX8_layCosts_40 (by decide) ?_
    refine x_istore (lv' := [(5, .int 0), (0, .ref (ad 0)), (1, .int x1), (2, .int x2), (4, .int x4)]) B dX8_layCosts_41 (by decide) rfl ?_
    refine x_sub [1, 2, 3, 4, 0] rfl ?_
    exact kX8_layCosts_43 B G hr hK34 hf
set_option maxRecDepth 100000 in
set_option maxHeartbeats 4000000 in
theorem kX8_layCosts_34 {σ : x_S} {x1 : Int32} {x2 : Int32} {x4 : Int32} (B : x_B p s m args meth c cX8_layCosts 8 wsX8_layCosts RX8) (G : x_H s D vwCl (s_tys cI cQ cC cZ) m_N ad (x_A m_N ad) m_St m_NW) (hr : meth.sig.returnType = none) (hf : bX8_layCosts_34  x1 x2 x4 σ = some σ0) : x_J p l e (x_rm 5) s m args below meth c 0 0 (MQ below (x_Qv D vwCl m_N (m_C cI cZ ad) ad σ0) args s 0 0 (x_A m_N ad)) (x_A m_N ad) 8 (x_I D vwCl m_N (m_C cI cZ ad) ad σ) [(0, .ref (ad 0)), (1, .int x1), (2, .int x2), (4, .int x4)] [] 34 := by
  have key : ∀ (n : Nat) (x4 : Int32) (σ : x_S), x_fx (α := Int32 → x_S → Option x_S) (fun _ _ => none) (fun K => fun x4 σ => gX8_layCosts_34  x1 x2 K x4 σ) n x4 σ = some σ0 → x_J p l e (x_rm 5) s m args below meth c 0 0 (MQ below (x_Qv D vwCl m_N (m_C cI cZ ad) ad σ0) args s 0 0 (x_A m_N ad)) (x_A m_N ad) 8 (x_I D vwCl m_N (m_C cI cZ ad) ad σ) [(0, .ref (ad 0)), (1, .int x1), (2, .int x2), (4, .int x4)] [] 34 := by
    intro n
    induction n with
    | zero => intro x4 σ h; cases h
    | succ n ih => intro x4 σ h; exact qX8_layCosts_34 B G hr  ih  h
  exact key x_F x4 σ hf
set_option maxRecDepth 100000 in
set_option maxHeartbeats 4000000 in
theorem qX8_layCosts_3 {σ : x_S} {x1 : Int32} {x2 : Int32} {x3 : Int32} {x4 : Int32} {K3 : Int32 → x_S → Option x_S} (B : x_B p s m args meth c cX8_layCosts 8 wsX8_layCosts RX8) (G : x_H s D vwCl (s_tys cI cQ cC cZ) m_N ad (x_A m_N ad) m_St m_NW) (hr : meth.sig.returnType = none) (hK3 : ∀ (x4 : Int32) (σ : x_S), K3 x4 σ = some σ0 → x_J p l e (x_rm 5) s m args below meth c 0 0 (MQ below (x_Qv D vwCl m_N (m_C cI cZ ad) ad σ0) args s 0 0 (x_A m_N ad)) (x_A m_N ad) 8 (x_I D vwCl m_N (m_C cI cZ ad) ad σ) [(0, .ref (ad 0)), (1, .int x1), (2, .int x2), (3, .int x3), (4, .int x4)] [] 3) (hf : gX8_layCosts_3  x1 x2 x3 K3 x4 σ = some σ0) : x_J p l e (x_rm 5) s m args below meth c 0 0 (MQ below (x_Qv D vwCl m_N (m_C cI cZ ad) ad σ0) args s 0 0 (x_A m_N ad)) (x_A m_N ad) 8 (x_I D vwCl m_N (m_C cI cZ ad) ad σ) [(0, .ref (ad 0)), (1, .int x1), (2, .int x2), (3, .int x3), (4, .int x4)] [] 3 := by
  unfold gX8_layCosts_3 at hf
  refine x_iload B dX8_layCosts_3 4 rfl ?_
  refine x_bipush (v := 100) B dX8_layCosts_5 (by decide) ?_
  refine x_icmp_ge (tgt := 31) B dX8_layCosts_7 (by decide) (fun h1 => ?_) (fun h1 => ?_)
  · replace hf := x_it h1 hf
    refine x_iload_n B dX8_layCosts_31 rfl 3 rfl ?_
    refine x_istore (lv' := [(4, .int x3), (0, .ref (ad 0)), (1, .int x1), (2, .int x2), (3, .int x3)]) B dX8_layCosts_32 (by decide) rfl ?_
    refine x_sub [1, 2, 3, 0] rfl ?_
    exact kX8_layCosts_34 B G hr hf
  · replace hf := x_if h1 hf
    refine x_aload_n B dX8_layCosts_10 rfl 0 rfl ?_
    refine x_get (v := .ref (ad 8)) (kc := 0) (index := 32) B G.1 iX8_layCosts_cX8 rfl (by decide) m_c0 16 (by decide) iX8_layCosts_0 rfl dX8_layCosts_11 ?_
    refine x_bipush (v := 100) B dX8_layCosts_14 (by decide) ?_
    refine x_iload_n B dX8_layCosts_16 rfl 3 rfl ?_
    refine x_iconst (v := 1) B dX8_layCosts_17 (by decide) ?_
    refine x_iadd B dX8_layCosts_18 ?_
    refine x_imul B dX8_layCosts_19 ?_
    refine x_iload B dX8_layCosts_20 4 rfl ?_
    refine x_iadd B dX8_layCosts_22 ?_
    refine x_iconst (v := 0) B dX8_layCosts_23 (by decide) ?_
    obtain ⟨h2, hf⟩ := x_gs hf
    obtain ⟨σ3, u4, hf⟩ := x_ws hf
    refine x_iast (kc := 8) (t0 := 0) B G.1 (by decide) m_c8 rfl h2 dX8_layCosts_24 ?_
    refine x_nm u4 ?_
    refine x_iinc (v := (x4 + 1)) (lv' := [(4, .int (x4 + 1)), (0, .ref (ad 0)), (1, .int x1), (2, .int x2), (3, .int x3)]) B dX8_layCosts_25 4 rfl rfl (by decide) rfl ?_
    refine x_goto (tgt := 3) B dX8_layCosts_28 (by decide) ?_
    refine x_sub [1, 2, 3, 4, 0] rfl ?_
    exact hK3 _ _ hf
set_option maxRecDepth 100000 in
set_option maxHeartbeats 4000000 in
theorem kX8_layCosts_3 {σ : x_S} {x1 : Int32} {x2 : Int32} {x3 : Int32} {x4 : Int32} (B : x_B p s m args meth c cX8_layCosts 8 wsX8_layCosts RX8) (G : x_H s D vwCl (s_tys cI cQ cC cZ) m_N ad (x_A m_N ad) m_St m_NW) (hr : meth.sig.returnType = none) (hf : bX8_layCosts_3  x1 x2 x3 x4 σ = some σ0) : x_J p l e (x_rm 5) s m args below meth c 0 0 (MQ below (x_Qv D vwCl m_N (m_C cI cZ ad) ad σ0) args s 0 0 (x_A m_N ad)) (x_A m_N ad) 8 (x_I D vwCl m_N (m_C cI cZ ad) ad σ) [(0, .ref (ad 0)), (1, .int x1), (2, .int x2), (3, .int x3), (4, .int x4)] [] 3 := by
  have key : ∀ (n : Nat) (x4 : Int32) (σ : x_S), x_fx (α := Int32 → x_S → Option x_S) (fun _ _ => none) (fun K => fun x4 σ => gX8_layCosts_3  x1 x2 x3 K x4 σ) n x4 σ = some σ0 → x_J p l e (x_rm 5) s m args below meth c 0 0 (MQ below (x_Qv D vwCl m_N (m_C cI cZ ad) ad σ0) args s 0 0 (x_A m_N ad)) (x_A m_N ad) 8 (x_I D vwCl m_N (m_C cI cZ ad) ad σ) [(0, .ref (ad 0)), (1, .int x1), (2, .int x2), (3, .int x3), (4, .int x4)] [] 3 := by
    intro n
    induction n with
    | zero => intro x4 σ h; cases h
    | succ n ih => intro x4 σ h; exact qX8_layCosts_3 B G hr  ih  h
  exact key x_F x4 σ hf
set_option maxRecDepth 100000 in
set_option maxHeartbeats 4000000 in
theorem mX8_layCosts {σ : x_S} {a1 : Int32} {a2 : Int32} {a3 : Int32} (hdis : x_dis m_N ad) (hf : fX8_layCosts a1 a2 a3 σ = some σ0) : x_NV l yX8_layCosts wsX8_layCosts 5 D vwCl (s_tys cI cQ cC cZ) m_N (m_C cI cZ ad) ad m_St m_NW [.ref (ad 0), .int a1, .int a2, .int a3] σ σ0 := by
  refine x_met (cc := cX8_layCosts) (own := RX8) (maxL := 8) (ret := none) (by decide +kernel) rfl rfl (Nat.le_of_ble_eq_true rfl) hdis m_StOk m_NwOk (fun p e s m args below meth c B G hr => ?_)
  unfold fX8_layCosts at hf
  refine x_sub (lv' := [(0, .ref (ad 0)), (1, .int a1), (2, .int a2), (3, .int a3)]) [0, 1, 2, 3] rfl ?_
  refine x_iconst (v := 0) B dX8_layCosts_0 (by decide) ?_
  refine x_istore (lv' := [(4, .int 0), (0, .ref (ad 0)), (1, .int a1), (2, .int a2), (3, .int a3)]) B dX8_layCosts_1 (by decide) rfl ?_
  refine x_sub [1, 2, 3, 4, 0] rfl ?_
  exact kX8_layCosts_3 B G hr hf
theorem iX8_isMeans_0 : Cond.constantLong RX8 182 3 ∈ wsX8_isMeans := by decide +kernel
set_option maxRecDepth 100000 in
set_option maxHeartbeats 4000000 in
theorem mX8_isMeans {σ : x_S} {a0 : Int32} (hdis : x_dis m_N ad) (hf : fX8_isMeans a0 σ = some r0) : x_NI l yX8_isMeans wsX8_isMeans 1 D vwCl (s_tys cI cQ cC cZ) m_N (m_C cI cZ ad) ad m_St m_NW [.int a0] σ r0 σ := by
  refine x_met (cc := cX8_isMeans) (own := RX8) (maxL := 1) (ret := (some .boolean)) (by decide +kernel) rfl rfl (Nat.le_of_ble_eq_true rfl) hdis m_StOk m_NwOk (fun p e s m args below meth c B G hr => ?_)
  unfold fX8_isMeans at hf
  refine x_sub (lv' := [(0, .int a0)]) [0] rfl ?_
  refine x_iload_n B dX8_isMeans_0 rfl 0 rfl ?_
  refine x_i2l B dX8_isMeans_1 ?_
  refine x_lconst (v := 0) B dX8_isMeans_2 (by decide) ?_
  refine x_ldc2 (v := 3) B iX8_isMeans_0 dX8_isMeans_3 ?_
  obtain ⟨r2, e1, hf⟩ := x_ps hf
  refine x_callS (As := [.long a0.toInt64, .long 0, .long 3]) (st := []) B G (mX8_in (l := l) G.1.2.1  e1) (va_cwS 3 B.2.2.2.2.1 gX8_isMeans_X8_in rfl rfl rfl hdX8_in (x_rm_ok (by omega) (by decide))) rfl rfl (Nat.le_of_ble_eq_true rfl) ⟨Nat.zero_le _, Nat.zero_le _⟩ dX8_isMeans_6 ?_
  obtain ⟨h3, hf⟩ := x_gs hf
  obtain rfl := x_retP hf
  exact x_zret B hr h3 dX8_isMeans_9
set_option maxRecDepth 100000 in
set_option maxHeartbeats 4000000 in
theorem mX8_areStreets {σ : x_S} {a1 : Int32} {a2 : Int32} (hdis : x_dis m_N ad) (hf : fX8_areStreets a1 a2 σ = some r0) : x_NI l yX8_areStreets wsX8_areStreets 2 D vwCl (s_tys cI cQ cC cZ) m_N (m_C cI cZ ad) ad m_St m_NW [.ref (ad 0), .int a1, .int a2] σ r0 σ := by
  refine x_met (cc := cX8_areStreets) (own := RX8) (maxL := 3) (ret := (some .boolean)) (by decide +kernel) rfl rfl (Nat.le_of_ble_eq_true rfl) hdis m_StOk m_NwOk (fun p e s m args below meth c B G hr => ?_)
  unfold fX8_areStreets at hf
  refine x_sub (lv' := [(0, .ref (ad 0)), (1, .int a1), (2, .int a2)]) [0, 1, 2] rfl ?_
  refine x_aload_n B dX8_areStreets_0 rfl 0 rfl ?_
  refine x_iload_n B dX8_areStreets_1 rfl 1 rfl ?_
  obtain ⟨r2, e1, hf⟩ := x_ps hf
  refine x_callV (As := [.int a1]) (st := []) B G (mX8_isStreet (l := l) G.1.2.1  e1) (cwV 1 B.2.2.2.2.1 gX8_areStreets_X8_isStreet rfl rfl rfl hdX8_isStreet (x_rm_ok (by omega) (by decide))) (by decide) m_c0 rfl rfl rfl (Nat.le_of_ble_eq_true rfl) ⟨Nat.zero_le _, Nat.zero_le _⟩ dX8_areStreets_2 ?_
  refine x_if_eq (tgt := 25) B dX8_areStreets_5 (by decide) (fun h3 => ?_) (fun h3 => ?_)
  · replace hf := x_it h3 hf
    refine x_iconst (v := 0) B dX8_areStreets_25 (by decide) ?_
    obtain rfl := x_retP hf
    exact x_zret B hr (by decide) dX8_areStreets_26
  · replace hf := x_if h3 hf
    refine x_aload_n B dX8_areStreets_8 rfl 0 rfl ?_
    refine x_iload_n B dX8_areStreets_9 rfl 2 rfl ?_
    obtain ⟨r5, e4, hf⟩ := x_ps hf
    refine x_callV (As := [.int a2]) (st := []) B G (mX8_isStreet (l := l) G.1.2.1  e4) (cwV 1 B.2.2.2.2.1 gX8_areStreets_X8_isStreet rfl rfl rfl hdX8_isStreet (x_rm_ok (by omega) (by decide))) (by decide) m_c0 rfl rfl rfl (Nat.le_of_ble_eq_true rfl) ⟨Nat.zero_le _, Nat.zero_le _⟩ dX8_areStreets_10 ?_
    refine x_if_eq (tgt := 25) B dX8_areStreets_13 (by decide) (fun h6 => ?_) (fun h6 => ?_)
    · replace hf := x_it h6 hf
      refine x_iconst (v := 0) B dX8_areStreets_25 (by decide) ?_
      obtain rfl := x_retP hf
      exact x_zret B hr (by decide) dX8_areStreets_26
    · replace hf := x_if h6 hf
      refine x_iload_n B dX8_areStreets_16 rfl 1 rfl ?_
      refine x_iload_n B dX8_areStreets_17 rfl 2 rfl ?_
      refine x_icmp_gt (tgt := 25) B dX8_areStreets_18 (by decide) (fun h7 => ?_) (fun h7 => ?_)
      · replace hf := x_it h7 hf
        refine x_iconst (v := 0) B dX8_areStreets_25 (by decide) ?_
        obtain rfl := x_retP hf
        exact x_zret B hr (by decide) dX8_areStreets_26
      · replace hf := x_if h7 hf
        refine x_iconst (v := 1) B dX8_areStreets_21 (by decide) ?_
        refine x_goto (tgt := 26) B dX8_areStreets_22 (by decide) ?_
        obtain rfl := x_retP hf
        exact x_zret B hr (by decide) dX8_areStreets_26
theorem iX8_tell_0 : Cond.constant RX8 52 (-1000001) ∈ wsX8_tell := by decide +kernel
theorem iX8_tell_1 : Cond.constantLong RX8 190 99 ∈ wsX8_tell := by decide +kernel
theorem iX8_tell_2 : Cond.constantLong RX8 192 (-1) ∈ wsX8_tell := by decide +kernel
theorem iX8_tell_3 : Cond.constantLong RX8 194 6 ∈ wsX8_tell := by decide +kernel
theorem iX8_tell_4 : Cond.fieldLink RX8 32 "SignDutyModel" "costs" "[I" ∈ wsX8_tell := by decide +kernel
theorem iX8_tell_cX8 : ∀ w ∈ u_ws RX8 TX8 17, w ∈ wsX8_tell := by decide +kernel
theorem iX8_tell_6 : Cond.constant RX8 177 1000000 ∈ wsX8_tell := by decide +kernel
theorem iX8_tell_7 : Cond.constant RX8 200 (-1000000) ∈ wsX8_tell := by decide +kernel
theorem iX8_tell_8 : Cond.fieldLink RX8 7 "SignDutyModel" "row" "[I" ∈ wsX8_tell := by decide +kernel
set_option maxRecDepth 100000 in
set_option maxHeartbeats 4000000 in
theorem qX8_tell_109 {σ : x_S} {K97 : Int32 → Int32 → Int32 → x_S → Option (Int32 × x_S)} {x1 : Int32} {x2 : Int32} {x5 : Int32} {x6 : Int32} {x7 : Int32} {x9 : Int32} {x8 : Int32} {K109 : Int32 → x_S → Option (Int32 × x_S)} (B : x_B p s m args meth c cX8_tell 10 wsX8_tell RX8) (G : x_H s D vwCl (s_tys cI cQ cC cZ) m_N ad (x_A m_N ad) m_St m_NW) (hr : meth.sig.returnType = (some .int)) (hK97 : ∀ (x7 : Int32) (x8 : Int32) (x9 : Int32) (σ : x_S), K97 x7 x8 x9 σ = some (r0, σ0) → x_J p l e (x_rm 6) s m args below meth c 0 0 (MQ below (x_Qi D vwCl m_N (m_C cI cZ ad) ad r0 σ0) args s 0 0 (x_A m_N ad)) (x_A m_N ad) 10 (x_I D vwCl m_N (m_C cI cZ ad) ad σ) [(0, .ref (ad 0)), (1, .int x1), (2, .int x2), (5, .int x5), (6, .int x6), (7, .int x7), (8, .int x8), (9, .int x9)] [] 97) (hK109 : ∀ (x8 : Int32) (σ : x_S), K109 x8 σ = some (r0, σ0) → x_J p l e (x_rm 6) s m args below meth c 0 0 (MQ below (x_Qi D vwCl m_N (m_C cI cZ ad) ad r0 σ0) args s 0 0 (x_A m_N ad)) (x_A m_N ad) 10 (x_I D vwCl m_N (m_C cI cZ ad) ad σ) [(0, .ref (ad 0)), (1, .int x1), (2, .int x2), (5, .int x5), (6, .int x6), (7, .int x7), (8, .int x8), (9, .int x9)] [] 109) (hf : gX8_tell_109 K97 x1 x2 x5 x6 x7 x9 K109 x8 σ = some (r0, σ0)) : x_J p l e (x_rm 6) s m args below meth c 0 0 (MQ below (x_Qi D vwCl m_N (m_C cI cZ ad) ad r0 σ0) args s 0 0 (x_A m_N ad)) (x_A m_N ad) 10 (x_I D vwCl m_N (m_C cI cZ ad) ad σ) [(0, .ref (ad 0)), (1, .int x1), (2, .int x2), (5, .int x5), (6, .int x6), (7, .int x7), (8, .int x8), (9, .int x9)] [] 109 := by
  unfold gX8_tell_109 at hf
  refine x_aload_n B dX8_tell_109 rfl 0 rfl ?_
  refine x_iload B dX8_tell_110 6 rfl ?_
  refine x_iload_n B dX8_tell_112 rfl 1 rfl ?_
  refine x_iload B dX8_tell_113 7 rfl ?_
  refine x_iload B dX8_tell_115 5 rfl ?_
  obtain ⟨r2, e1, hf⟩ := x_ps hf
  refine x_callV (As := [.int x8, .int x1, .int x9, .int x7]) (st := []) B G (mX8_onBy (l := l) G.1.2.1  e1) (cwV 4 B.2.2.2.2.1 gX8_tell_X8_onBy rfl rfl rfl hdX8_onBy (x_rm_ok (by omega) (by decide))) (by decide) m_c0 rfl rfl rfl (Nat.le_of_ble_eq_true rfl) ⟨Nat.zero_le _, Nat.zero_le _⟩ dX8_tell_117 ?_
  refine x_aload_n B dX8_tell_120 rfl 0 rfl ?_
  refine x_get (v := .ref (ad 8)) (kc := 0) (index := 32) B G.1 iX8_tell_cX8 rfl (by decide) m_c0 16 (by decide) iX8_tell_4 rfl dX8_tell_121 ?_
  refine x_bipush (v := 100) B dX8_tell_124 (by decide) ?_
  refine x_iload B dX8_tell_126 7 rfl ?_
  refine x_imul B dX8_tell_128 ?_
  refine x_iload B dX8_tell_129 5 rfl ?_
  refine x_iadd B dX8_tell_131 ?_
  obtain ⟨h3, hf⟩ := x_gs hf
  refine x_iald (kc := 8) (t0 := 0) B G.1 (by decide) m_c8 rfl h3 dX8_tell_132 ?_
  refine x_icmp_eq (tgt := 142) B dX8_tell_133 (by decide) (fun h4 => ?_) (fun h4 => ?_)
  · replace hf := x_it h4 hf
    refine x_iload B dX8_tell_142 5 rfl ?_
    refine x_aload_n B dX8_tell_144 rfl 0 rfl ?_
    refine x_get (v := .ref (ad 1)) (kc := 0) (index := 7) B G.1 iX8_tell_cX8 rfl (by decide) m_c0 0 (by decide) iX8_tell_8 rfl dX8_tell_145 ?_
    refine x_bipush (v := 37) B dX8_tell_148 (by decide) ?_
    refine x_iload B dX8_tell_150 6 rfl ?_
    refine x_iadd B dX8_tell_152 ?_
    obtain ⟨h5, hf⟩ := x_gs hf
    refine x_iald (kc := 1) (t0 := 0) B G.1 (by decide) m_c1 rfl h5 dX8_tell_153 ?_
    refine x_isub B dX8_tell_154 ?_
    refine x_istore (lv' := [(7, .int (x7 - (σ 1 (37 + x8).toNatClampNeg))), (0, .ref (ad 0)), (1, .int x1), (2, .int x2), (5, .int x5), (6, .int x6), (8, .int x8), (9, .int x9)]) B dX8_tell_155 (by decide) rfl ?_
    refine x_iinc (v := (x9 + 1)) (lv' := [(9, .int (x9 + 1)), (7, .int (x7 - (σ 1 (37 + x8).toNatClampNeg))), (0, .ref (ad 0)), (1, .int x1), (2, .int x2), (5, .int x5), (6, .int x6), (8, .int x8)]) B dX8_tell_157 7 rfl rfl (by decide) rfl ?_
    refine x_goto (tgt := 97) B dX8_tell_160 (by decide) ?_
    refine x_sub [2, 3, 4, 5, 6, 1, 7, 0] rfl ?_
    exact hK97 _ _ _ _ hf
  · replace hf := x_if h4 hf
    refine x_iinc (v := (x8 + 1)) (lv' := [(8, .int (x8 + 1)), (0, .ref (ad 0)), (1, .int x1), (2, .int x2), (5, .int x5), (6, .int x6), (7, .int x7), (9, .int x9)]) B dX8_tell_136 6 rfl rfl (by decide) rfl ?_
    refine x_goto (tgt := 109) B dX8_tell_139 (by decide) ?_
    refine x_sub [1, 2, 3, 4, 5, 6, 0, 7] rfl ?_
    exact hK109 _ _ hf
set_option maxRecDepth 100000 in
set_option maxHeartbeats 4000000 in
theorem kX8_tell_109 {σ : x_S} {K97 : Int32 → Int32 → Int32 → x_S → Option (Int32 × x_S)} {x1 : Int32} {x2 : Int32} {x5 : Int32} {x6 : Int32} {x7 : Int32} {x9 : Int32} {x8 : Int32} (B : x_B p s m args meth c cX8_tell 10 wsX8_tell RX8) (G : x_H s D vwCl (s_tys cI cQ cC cZ) m_N ad (x_A m_N ad) m_St m_NW) (hr : meth.sig.returnType = (some .int)) (hK97 : ∀ (x7 : Int32) (x8 : Int32) (x9 : Int32) (σ : x_S), K97 x7 x8 x9 σ = some (r0, σ0) → x_J p l e (x_rm 6) s m args below meth c 0 0 (MQ below (x_Qi D vwCl m_N (m_C cI cZ ad) ad r0 σ0) args s 0 0 (x_A m_N ad)) (x_A m_N ad) 10 (x_I D vwCl m_N (m_C cI cZ ad) ad σ) [(0, .ref (ad 0)), (1, .int x1), (2, .int x2), (5, .int x5), (6, .int x6), (7, .int x7), (8, .int x8), (9, .int x9)] [] 97) (hf : bX8_tell_109 K97 x1 x2 x5 x6 x7 x9 x8 σ = some (r0, σ0)) : x_J p l e (x_rm 6) s m args below meth c 0 0 (MQ below (x_Qi D vwCl m_N (m_C cI cZ ad) ad r0 σ0) args s 0 0 (x_A m_N ad)) (x_A m_N ad) 10 (x_I D vwCl m_N (m_C cI cZ ad) ad σ) [(0, .ref (ad 0)), (1, .int x1), (2, .int x2), (5, .int x5), (6, .int x6), (7, .int x7), (8, .int x8), (9, .int x9)] [] 109 := by
  have key : ∀ (n : Nat) (x8 : Int32) (σ : x_S), x_fx (α := Int32 → x_S → Option (Int32 × x_S)) (fun _ _ => none) (fun K => fun x8 σ => gX8_tell_109 K97 x1 x2 x5 x6 x7 x9 K x8 σ) n x8 σ = some (r0, σ0) → x_J p l e (x_rm 6) s m args below meth c 0 0 (MQ below (x_Qi D vwCl m_N (m_C cI cZ ad) ad r0 σ0) args s 0 0 (x_A m_N ad)) (x_A m_N ad) 10 (x_I D vwCl m_N (m_C cI cZ ad) ad σ) [(0, .ref (ad 0)), (1, .int x1), (2, .int x2), (5, .int x5), (6, .int x6), (7, .int x7), (8, .int x8), (9, .int x9)] [] 109 := by
    intro n
    induction n with
    | zero => intro x8 σ h; cases h
    | succ n ih => intro x8 σ h; exact qX8_tell_109 B G hr hK97 ih  h
  exact key x_F x8 σ hf
set_option maxRecDepth 100000 in
set_option maxHeartbeats 4000000 in
theorem qX8_tell_97 {σ : x_S} {x1 : Int32} {x2 : Int32} {x5 : Int32} {x6 : Int32} {x7 : Int32} {x8 : Int32} {x9 : Int32} {K97 : Int32 → Int32 → Int32 → x_S → Option (Int32 × x_S)} (B : x_B p s m args meth c cX8_tell 10 wsX8_tell RX8) (G : x_H s D vwCl (s_tys cI cQ cC cZ) m_N ad (x_A m_N ad) m_St m_NW) (hr : meth.sig.returnType = (some .int)) (hK97 : ∀ (x7 : Int32) (x8 : Int32) (x9 : Int32) (σ : x_S), K97 x7 x8 x9 σ = some (r0, σ0) → x_J p l e (x_rm 6) s m args below meth c 0 0 (MQ below (x_Qi D vwCl m_N (m_C cI cZ ad) ad r0 σ0) args s 0 0 (x_A m_N ad)) (x_A m_N ad) 10 (x_I D vwCl m_N (m_C cI cZ ad) ad σ) [(0, .ref (ad 0)), (1, .int x1), (2, .int x2), (5, .int x5), (6, .int x6), (7, .int x7), (8, .int x8), (9, .int x9)] [] 97) (hf : gX8_tell_97  x1 x2 x5 x6 K97 x7 x8 x9 σ = some (r0, σ0)) : x_J p l e (x_rm 6) s m args below meth c 0 0 (MQ below (x_Qi D vwCl m_N (m_C cI cZ ad) ad r0 σ0) args s 0 0 (x_A m_N ad)) (x_A m_N ad) 10 (x_I D vwCl m_N (m_C cI cZ ad) ad σ) [(0, .ref (ad 0)), (1, .int x1), (2, .int x2), (5, .int x5), (6, .int x6), (7, .int x7), (8, .int x8), (9, .int x9)] [] 97 := by
  unfold gX8_tell_97 at hf
  refine x_iload B dX8_tell_97 7 rfl ?_
  refine x_iload_n B dX8_tell_99 rfl 2 rfl ?_
  refine x_iload B dX8_tell_100 3 rfl ?_
  refine x_iadd B dX8_tell_102 ?_
  refine x_icmp_gt (tgt := 163) B dX8_tell_103 (by decide) (fun h1 => ?_) (fun h1 => ?_)
  · replace hf := x_it h1 hf
    refine x_iload B dX8_tell_163 3 rfl ?_
    refine x_if_ge (tgt := 173) B dX8_tell_165 (by decide) (fun h2 => ?_) (fun h2 => ?_)
    · replace hf := x_it h2 hf
      refine x_iload B dX8_tell_173 6 rfl ?_
      obtain ⟨rfl, rfl⟩ := x_retI hf
      exact x_iret B hr dX8_tell_175
    · replace hf := x_if h2 hf
      refine x_iload B dX8_tell_168 4 rfl ?_
      refine x_goto (tgt := 175) B dX8_tell_170 (by decide) ?_
      obtain ⟨rfl, rfl⟩ := x_retI hf
      exact x_iret B hr dX8_tell_175
  · replace hf := x_if h1 hf
    refine x_iconst (v := 0) B dX8_tell_106 (by decide) ?_
    refine x_istore (lv' := [(8, .int 0), (0, .ref (ad 0)), (1, .int x1), (2, .int x2), (5, .int x5), (6, .int x6), (7, .int x7), (9, .int x9)]) B dX8_tell_107 (by decide) rfl ?_
    refine x_sub [1, 2, 3, 4, 5, 6, 0, 7] rfl ?_
    exact kX8_tell_109 B G hr hK97 hf
set_option maxRecDepth 100000 in
set_option maxHeartbeats 4000000 in
theorem kX8_tell_97 {σ : x_S} {x1 : Int32} {x2 : Int32} {x5 : Int32} {x6 : Int32} {x7 : Int32} {x8 : Int32} {x9 : Int32} (B : x_B p s m args meth c cX8_tell 10 wsX8_tell RX8) (G : x_H s D vwCl (s_tys cI cQ cC cZ) m_N ad (x_A m_N ad) m_St m_NW) (hr : meth.sig.returnType = (some .int)) (hf : bX8_tell_97  x1 x2 x5 x6 x7 x8 x9 σ = some (r0, σ0)) : x_J p l e (x_rm 6) s m args below meth c 0 0 (MQ below (x_Qi D vwCl m_N (m_C cI cZ ad) ad r0 σ0) args s 0 0 (x_A m_N ad)) (x_A m_N ad) 10 (x_I D vwCl m_N (m_C cI cZ ad) ad σ) [(0, .ref (ad 0)), (1, .int x1), (2, .int x2), (5, .int x5), (6, .int x6), (7, .int x7), (8, .int x8), (9, .int x9)] [] 97 := by
  have key : ∀ (n : Nat) (x7 : Int32) (x8 : Int32) (x9 : Int32) (σ : x_S), x_fx (α := Int32 → Int32 → Int32 → x_S → Option (Int32 × x_S)) (fun _ _ _ _ => none) (fun K => fun x7 x8 x9 σ => gX8_tell_97  x1 x2 x5 x6 K x7 x8 x9 σ) n x7 x8 x9 σ = some (r0, σ0) → x_J p l e (x_rm 6) s m args below meth c 0 0 (MQ below (x_Qi D vwCl m_N (m_C cI cZ ad) ad r0 σ0) args s 0 0 (x_A m_N ad)) (x_A m_N ad) 10 (x_I D vwCl m_N (m_C cI cZ ad) ad σ) [(0, .ref (ad 0)), (1, .int x1), (2, .int x2), (5, .int x5), (6, .int x6), (7, .int x7), (8, .int x8), (9, .int x9)] [] 97 := by
    intro n
    induction n with
    | zero => intro x7 x8 x9 σ h; cases h
    | succ n ih => intro x7 x8 x9 σ h; exact qX8_tell_97 B G hr  ih  h
  exact key x_F x7 x8 x9 σ hf
set_option maxRecDepth 100000 in
set_option maxHeartbeats 4000000 in
theorem mX8_tell {σ : x_S} {a1 : Int32} {a2 : Int32} {a3 : Int32} {a4 : Int32} {a5 : Int32} (hdis : x_dis m_N ad) (hf : fX8_tell a1 a2 a3 a4 a5 σ = some (r0, σ0)) : x_NI l yX8_tell wsX8_tell 6 D vwCl (s_tys cI cQ cC cZ) m_N (m_C cI cZ ad) ad m_St m_NW [.ref (ad 0), .int a1, .int a2, .int a3, .int a4, .int a5] σ r0 σ0 := by
  refine x_met (cc := cX8_tell) (own := RX8) (maxL := 10) (ret := (some .int)) (by decide +kernel) rfl rfl (Nat.le_of_ble_eq_true rfl) hdis m_StOk m_NwOk (fun p e s m args below meth c B G hr => ?_)
  unfold fX8_tell at hf
  refine x_sub (lv' := [(0, .ref (ad 0)), (1, .int a1), (2, .int a2), (3, .int a3), (4, .int a4), (5, .int a5)]) [0, 1, 2, 3, 4, 5] rfl ?_
  refine x_iload_n B dX8_tell_0 rfl 1 rfl ?_
  obtain ⟨r2, e1, hf⟩ := x_ps hf
  refine x_callS (As := [.int a1]) (st := []) B G (mX8_isMeans (l := l) G.1.2.1  e1) (va_cwS 1 B.2.2.2.2.1 gX8_tell_X8_isMeans rfl rfl rfl hdX8_isMeans (x_rm_ok (by omega) (by decide))) rfl rfl (Nat.le_of_ble_eq_true rfl) ⟨Nat.zero_le _, Nat.zero_le _⟩ dX8_tell_1 ?_
  refine x_if_eq (tgt := 44) B dX8_tell_4 (by decide) (fun h3 => ?_) (fun h3 => ?_)
  · replace hf := x_it h3 hf
    refine x_ldc (v := (-1000001)) B iX8_tell_0 dX8_tell_44 ?_
    obtain ⟨rfl, rfl⟩ := x_retI hf
    exact x_iret B hr dX8_tell_46
  · replace hf := x_if h3 hf
    refine x_aload_n B dX8_tell_7 rfl 0 rfl ?_
    refine x_iload_n B dX8_tell_8 rfl 2 rfl ?_
    refine x_iload_n B dX8_tell_9 rfl 3 rfl ?_
    obtain ⟨r5, e4, hf⟩ := x_ps hf
    refine x_callV (As := [.int a2, .int a3]) (st := []) B G (mX8_areStreets (l := l) G.1.2.1  e4) (cwV 2 B.2.2.2.2.1 gX8_tell_X8_areStreets rfl rfl rfl hdX8_areStreets (x_rm_ok (by omega) (by decide))) (by decide) m_c0 rfl rfl rfl (Nat.le_of_ble_eq_true rfl) ⟨Nat.zero_le _, Nat.zero_le _⟩ dX8_tell_10 ?_
    refine x_if_eq (tgt := 44) B dX8_tell_13 (by decide) (fun h6 => ?_) (fun h6 => ?_)
    · replace hf := x_it h6 hf
      refine x_ldc (v := (-1000001)) B iX8_tell_0 dX8_tell_44 ?_
      obtain ⟨rfl, rfl⟩ := x_retI hf
      exact x_iret B hr dX8_tell_46
    · replace hf := x_if h6 hf
      refine x_iload B dX8_tell_16 4 rfl ?_
      refine x_i2l B dX8_tell_18 ?_
      refine x_lconst (v := 0) B dX8_tell_19 (by decide) ?_
      refine x_ldc2 (v := 99) B iX8_tell_1 dX8_tell_20 ?_
      obtain ⟨r8, e7, hf⟩ := x_ps hf
      refine x_callS (As := [.long a4.toInt64, .long 0, .long 99]) (st := []) B G (mX8_in (l := l) G.1.2.1  e7) (va_cwS 3 B.2.2.2.2.1 gX8_tell_X8_in rfl rfl rfl hdX8_in (x_rm_ok (by omega) (by decide))) rfl rfl (Nat.le_of_ble_eq_true rfl) ⟨Nat.zero_le _, Nat.zero_le _⟩ dX8_tell_23 ?_
      refine x_if_eq (tgt := 44) B dX8_tell_26 (by decide) (fun h9 => ?_) (fun h9 => ?_)
      · replace hf := x_it h9 hf
        refine x_ldc (v := (-1000001)) B iX8_tell_0 dX8_tell_44 ?_
        obtain ⟨rfl, rfl⟩ := x_retI hf
        exact x_iret B hr dX8_tell_46
      · replace hf := x_if h9 hf
        refine x_iload B dX8_tell_29 5 rfl ?_
        refine x_i2l B dX8_tell_31 ?_
        refine x_ldc2 (v := (-1)) B iX8_tell_2 dX8_tell_32 ?_
        refine x_ldc2 (v := 6) B iX8_tell_3 dX8_tell_35 ?_
        obtain ⟨r11, e10, hf⟩ := x_ps hf
        refine x_callS (As := [.long a5.toInt64, .long (-1), .long 6]) (st := []) B G (mX8_in (l := l) G.1.2.1  e10) (va_cwS 3 B.2.2.2.2.1 gX8_tell_X8_in rfl rfl rfl hdX8_in (x_rm_ok (by omega) (by decide))) rfl rfl (Nat.le_of_ble_eq_true rfl) ⟨Nat.zero_le _, Nat.zero_le _⟩ dX8_tell_38 ?_
        refine x_if_ne (tgt := 47) B dX8_tell_41 (by decide) (fun h12 => ?_) (fun h12 => ?_)
        · replace hf := x_if h12 hf
          refine x_aload_n B dX8_tell_47 rfl 0 rfl ?_
          refine x_iload_n B dX8_tell_48 rfl 1 rfl ?_
          refine x_iload_n B dX8_tell_49 rfl 2 rfl ?_
          refine x_iload_n B dX8_tell_50 rfl 3 rfl ?_
          obtain ⟨σ14, e13, hf⟩ := x_vs hf
          refine x_callVv (As := [.int a1, .int a2, .int a3]) (st := []) B G (mX8_layCosts (l := l) G.1.2.1  e13) (cwV 3 B.2.2.2.2.1 gX8_tell_X8_layCosts rfl rfl rfl hdX8_layCosts (x_rm_ok (by omega) (by decide))) (by decide) m_c0 rfl rfl rfl (Nat.le_of_ble_eq_true rfl) ⟨Nat.zero_le _, Nat.zero_le _⟩ dX8_tell_51 ?_
          refine x_aload_n B dX8_tell_54 rfl 0 rfl ?_
          refine x_get (v := .ref (ad 8)) (kc := 0) (index := 32) B G.1 iX8_tell_cX8 rfl (by decide) m_c0 16 (by decide) iX8_tell_4 rfl dX8_tell_55 ?_
          refine x_bipush (v := 100) B dX8_tell_58 (by decide) ?_
          refine x_iload_n B dX8_tell_60 rfl 2 rfl ?_
          refine x_imul B dX8_tell_61 ?_
          refine x_iload B dX8_tell_62 4 rfl ?_
          refine x_iadd B dX8_tell_64 ?_
          obtain ⟨h15, hf⟩ := x_gs hf
          refine x_iald (kc := 8) (t0 := 0) B G.1 (by decide) m_c8 rfl h15 dX8_tell_65 ?_
          refine x_istore (lv' := [(6, .int (σ14 8 ((100 * a2) + a4).toNatClampNeg)), (0, .ref (ad 0)), (1, .int a1), (2, .int a2), (3, .int a3), (4, .int a4), (5, .int a5)]) B dX8_tell_66 (by decide) rfl ?_
          refine x_iload B dX8_tell_68 0 rfl ?_
          refine x_ldc (v := 1000000) B iX8_tell_6 dX8_tell_70 ?_
          refine x_icmp_ge (tgt := 83) B dX8_tell_72 (by decide) (fun h16 => ?_) (fun h16 => ?_)
          · replace hf := x_it h16 hf
            refine x_ldc (v := (-1000000)) B iX8_tell_7 dX8_tell_83 ?_
            obtain ⟨rfl, rfl⟩ := x_retI hf
            exact x_iret B hr dX8_tell_85
          · replace hf := x_if h16 hf
            refine x_iload B dX8_tell_75 6 rfl ?_
            refine x_iload_n B dX8_tell_77 rfl 4 rfl ?_
            refine x_iload_n B dX8_tell_78 rfl 3 rfl ?_
            refine x_isub B dX8_tell_79 ?_
            refine x_icmp_le (tgt := 86) B dX8_tell_80 (by decide) (fun h17 => ?_) (fun h17 => ?_)
            · replace hf := x_it h17 hf
              refine x_iload B dX8_tell_86 5 rfl ?_
              refine x_istore (lv' := [(7, .int a4), (6, .int (σ14 8 ((100 * a2) + a4).toNatClampNeg)), (0, .ref (ad 0)), (1, .int a1), (2, .int a2), (3, .int a3), (4, .int a4), (5, .int a5)]) B dX8_tell_88 (by decide) rfl ?_
              refine x_ldc (v := (-1000000)) B iX8_tell_7 dX8_tell_90 ?_
              refine x_istore (lv' := [(8, .int (-1000000)), (7, .int a4), (6, .int (σ14 8 ((100 * a2) + a4).toNatClampNeg)), (0, .ref (ad 0)), (1, .int a1), (2, .int a2), (3, .int a3), (4, .int a4), (5, .int a5)]) B dX8_tell_92 (by decide) rfl ?_
              refine x_iload_n B dX8_tell_94 rfl 5 rfl ?_
              refine x_istore (lv' := [(9, .int a2), (8, .int (-1000000)), (7, .int a4), (6, .int (σ14 8 ((100 * a2) + a4).toNatClampNeg)), (0, .ref (ad 0)), (1, .int a1), (2, .int a2), (3, .int a3), (4, .int a4), (5, .int a5)]) B dX8_tell_95 (by decide) rfl ?_
              refine x_sub [4, 5, 6, 9, 3, 2, 1, 0] rfl ?_
              exact kX8_tell_97 B G hr hf
            · replace hf := x_if h17 hf
              refine x_ldc (v := (-1000000)) B iX8_tell_7 dX8_tell_83 ?_
              obtain ⟨rfl, rfl⟩ := x_retI hf
              exact x_iret B hr dX8_tell_85
        · replace hf := x_it h12 hf
          refine x_ldc (v := (-1000001)) B iX8_tell_0 dX8_tell_44 ?_
          obtain ⟨rfl, rfl⟩ := x_retI hf
          exact x_iret B hr dX8_tell_46
theorem iX8_soonest_0 : Cond.constant RX8 200 (-1000000) ∈ wsX8_soonest := by decide +kernel
theorem iX8_soonest_1 : Cond.fieldLink RX8 7 "SignDutyModel" "row" "[I" ∈ wsX8_soonest := by decide +kernel
theorem iX8_soonest_cX8 : ∀ w ∈ u_ws RX8 TX8 17, w ∈ wsX8_soonest := by decide +kernel
set_option maxRecDepth 100000 in
set_option maxHeartbeats 4000000 in
theorem kX8_soonest_53 {σ : x_S} {K6 : Int32 → Int32 → Option Int32} {x1 : Int32} {x2 : Int32} {x3 : Int32} {x4 : Int32} {y0 : Int32} (B : x_B p s m args meth c cX8_soonest 6 wsX8_soonest RX8) (G : x_H s D vwCl (s_tys cI cQ cC cZ) m_N ad (x_A m_N ad) m_St m_NW) (hr : meth.sig.returnType = (some .int)) (hK6 : ∀ (x3 : Int32) (x4 : Int32), K6 x3 x4 = some r0 → x_J p l e (x_rm 2) s m args below meth c 0 0 (MQ below (x_Qi D vwCl m_N (m_C cI cZ ad) ad r0 σ) args s 0 0 (x_A m_N ad)) (x_A m_N ad) 6 (x_I D vwCl m_N (m_C cI cZ ad) ad σ) [(0, .ref (ad 0)), (1, .int x1), (2, .int x2), (3, .int x3), (4, .int x4)] [] 6) (hf : bX8_soonest_53 K6 x1 x2 x3 x4 y0 σ = some r0) : x_J p l e (x_rm 2) s m args below meth c 0 0 (MQ below (x_Qi D vwCl m_N (m_C cI cZ ad) ad r0 σ) args s 0 0 (x_A m_N ad)) (x_A m_N ad) 6 (x_I D vwCl m_N (m_C cI cZ ad) ad σ) [(0, .ref (ad 0)), (1, .int x1), (2, .int x2), (3, .int x3), (4, .int x4)] [.int y0] 53 := by
  unfold bX8_soonest_53 at hf
  refine x_istore (lv' := [(5, .int y0), (0, .ref (ad 0)), (1, .int x1), (2, .int x2), (3, .int x3), (4, .int x4)]) B dX8_soonest_53 (by decide) rfl ?_
  refine x_iload B dX8_soonest_55 0 rfl ?_
  refine x_if_eq (tgt := 73) B dX8_soonest_57 (by decide) (fun h1 => ?_) (fun h1 => ?_)
  · replace hf := x_it h1 hf
    refine x_iload_n B dX8_soonest_73 rfl 4 rfl ?_
    refine x_istore_n (lv' := [(3, .int x3), (5, .int y0), (0, .ref (ad 0)), (1, .int x1), (2, .int x2), (4, .int x4)]) B dX8_soonest_74 rfl (by decide) rfl ?_
    refine x_iinc (v := (x4 + 1)) (lv' := [(4, .int (x4 + 1)), (3, .int x3), (5, .int y0), (0, .ref (ad 0)), (1, .int x1), (2, .int x2)]) B dX8_soonest_75 5 rfl rfl (by decide) rfl ?_
    refine x_goto (tgt := 6) B dX8_soonest_78 (by decide) ?_
    refine x_sub [3, 4, 5, 1, 0] rfl ?_
    exact hK6 _ _ hf
  · replace hf := x_if h1 hf
    refine x_aload_n B dX8_soonest_60 rfl 1 rfl ?_
    refine x_get (v := .ref (ad 1)) (kc := 0) (index := 7) B G.1 iX8_soonest_cX8 rfl (by decide) m_c0 0 (by decide) iX8_soonest_1 rfl dX8_soonest_61 ?_
    refine x_bipush (v := 37) B dX8_soonest_64 (by decide) ?_
    refine x_iload B dX8_soonest_66 5 rfl ?_
    refine x_iadd B dX8_soonest_68 ?_
    obtain ⟨h2, hf⟩ := x_gs hf
    refine x_iald (kc := 1) (t0 := 0) B G.1 (by decide) m_c1 rfl h2 dX8_soonest_69 ?_
    refine x_goto (tgt := 74) B dX8_soonest_70 (by decide) ?_
    refine x_istore_n (lv' := [(3, .int (σ 1 (37 + x4).toNatClampNeg)), (5, .int y0), (0, .ref (ad 0)), (1, .int x1), (2, .int x2), (4, .int x4)]) B dX8_soonest_74 rfl (by decide) rfl ?_
    refine x_iinc (v := (x4 + 1)) (lv' := [(4, .int (x4 + 1)), (3, .int (σ 1 (37 + x4).toNatClampNeg)), (5, .int y0), (0, .ref (ad 0)), (1, .int x1), (2, .int x2)]) B dX8_soonest_75 5 rfl rfl (by decide) rfl ?_
    refine x_goto (tgt := 6) B dX8_soonest_78 (by decide) ?_
    refine x_sub [3, 4, 5, 1, 0] rfl ?_
    exact hK6 _ _ hf
set_option maxRecDepth 100000 in
set_option maxHeartbeats 4000000 in
theorem kX8_soonest_52 {σ : x_S} {K6 : Int32 → Int32 → Option Int32} {x1 : Int32} {x2 : Int32} {x3 : Int32} {x4 : Int32} (B : x_B p s m args meth c cX8_soonest 6 wsX8_soonest RX8) (G : x_H s D vwCl (s_tys cI cQ cC cZ) m_N ad (x_A m_N ad) m_St m_NW) (hr : meth.sig.returnType = (some .int)) (hK6 : ∀ (x3 : Int32) (x4 : Int32), K6 x3 x4 = some r0 → x_J p l e (x_rm 2) s m args below meth c 0 0 (MQ below (x_Qi D vwCl m_N (m_C cI cZ ad) ad r0 σ) args s 0 0 (x_A m_N ad)) (x_A m_N ad) 6 (x_I D vwCl m_N (m_C cI cZ ad) ad σ) [(0, .ref (ad 0)), (1, .int x1), (2, .int x2), (3, .int x3), (4, .int x4)] [] 6) (hf : bX8_soonest_52 K6 x1 x2 x3 x4 σ = some r0) : x_J p l e (x_rm 2) s m args below meth c 0 0 (MQ below (x_Qi D vwCl m_N (m_C cI cZ ad) ad r0 σ) args s 0 0 (x_A m_N ad)) (x_A m_N ad) 6 (x_I D vwCl m_N (m_C cI cZ ad) ad σ) [(0, .ref (ad 0)), (1, .int x1), (2, .int x2), (3, .int x3), (4, .int x4)] [] 52 := by
  unfold bX8_soonest_52 at hf
  refine x_iconst (v := 0) B dX8_soonest_52 (by decide) ?_
  refine x_sub [0, 1, 2, 3, 4] rfl ?_
  exact kX8_soonest_53 B G hr hK6 hf
set_option maxRecDepth 100000 in
set_option maxHeartbeats 4000000 in
theorem qX8_soonest_6 {σ : x_S} {x1 : Int32} {x2 : Int32} {x3 : Int32} {x4 : Int32} {K6 : Int32 → Int32 → Option Int32} (B : x_B p s m args meth c cX8_soonest 6 wsX8_soonest RX8) (G : x_H s D vwCl (s_tys cI cQ cC cZ) m_N ad (x_A m_N ad) m_St m_NW) (hr : meth.sig.returnType = (some .int)) (hK6 : ∀ (x3 : Int32) (x4 : Int32), K6 x3 x4 = some r0 → x_J p l e (x_rm 2) s m args below meth c 0 0 (MQ below (x_Qi D vwCl m_N (m_C cI cZ ad) ad r0 σ) args s 0 0 (x_A m_N ad)) (x_A m_N ad) 6 (x_I D vwCl m_N (m_C cI cZ ad) ad σ) [(0, .ref (ad 0)), (1, .int x1), (2, .int x2), (3, .int x3), (4, .int x4)] [] 6) (hf : gX8_soonest_6  x1 x2 K6 x3 x4 σ = some r0) : x_J p l e (x_rm 2) s m args below meth c 0 0 (MQ below (x_Qi D vwCl m_N (m_C cI cZ ad) ad r0 σ) args s 0 0 (x_A m_N ad)) (x_A m_N ad) 6 (x_I D vwCl m_N (m_C cI cZ ad) ad σ) [(0, .ref (ad 0)), (1, .int x1), (2, .int x2), (3, .int x3), (4, .int x4)] [] 6 := by
  unfold gX8_soonest_6 at hf
  refine x_iload B dX8_soonest_6 4 rfl ?_
  refine x_aload_n B dX8_soonest_8 rfl 0 rfl ?_
  refine x_get (v := .ref (ad 1)) (kc := 0) (index := 7) B G.1 iX8_soonest_cX8 rfl (by decide) m_c0 0 (by decide) iX8_soonest_1 rfl dX8_soonest_9 ?_
  refine x_iconst (v := 2) B dX8_soonest_12 (by decide) ?_
  refine x_iald (kc := 1) (t0 := 0) B G.1 (by decide) m_c1 rfl (by decide) dX8_soonest_13 ?_
  refine x_icmp_ge (tgt := 81) B dX8_soonest_14 (by decide) (fun h2 => ?_) (fun h2 => ?_)
  · replace hf := x_it h2 hf
    refine x_iload_n B dX8_soonest_81 rfl 3 rfl ?_
    obtain rfl := x_retP hf
    exact x_iret B hr dX8_soonest_82
  · replace hf := x_if h2 hf
    refine x_aload_n B dX8_soonest_17 rfl 0 rfl ?_
    refine x_iload B dX8_soonest_18 4 rfl ?_
    refine x_iload_n B dX8_soonest_20 rfl 1 rfl ?_
    refine x_iload_n B dX8_soonest_21 rfl 2 rfl ?_
    obtain ⟨r4, e3, hf⟩ := x_ps hf
    refine x_callV (As := [.int x4, .int x1, .int x2]) (st := []) B G (mX8_tells (l := l) G.1.2.1  e3) (cwV 3 B.2.2.2.2.1 gX8_soonest_X8_tells rfl rfl rfl hdX8_tells (x_rm_ok (by omega) (by decide))) (by decide) m_c0 rfl rfl rfl (Nat.le_of_ble_eq_true rfl) ⟨Nat.zero_le _, Nat.zero_le _⟩ dX8_soonest_22 ?_
    refine x_if_eq (tgt := 52) B dX8_soonest_25 (by decide) (fun h5 => ?_) (fun h5 => ?_)
    · replace hf := x_it h5 hf
      refine x_sub [0, 1, 2, 3, 4] rfl ?_
      exact kX8_soonest_52 B G hr hK6 hf
    · replace hf := x_if h5 hf
      refine x_iload_n B dX8_soonest_28 rfl 3 rfl ?_
      refine x_ldc (v := (-1000000)) B iX8_soonest_0 dX8_soonest_29 ?_
      refine x_icmp_eq (tgt := 48) B dX8_soonest_31 (by decide) (fun h6 => ?_) (fun h6 => ?_)
      · replace hf := x_it h6 hf
        refine x_iconst (v := 1) B dX8_soonest_48 (by decide) ?_
        refine x_goto (tgt := 53) B dX8_soonest_49 (by decide) ?_
        refine x_sub [0, 1, 2, 3, 4] rfl ?_
        exact kX8_soonest_53 B G hr hK6 hf
      · replace hf := x_if h6 hf
        refine x_aload_n B dX8_soonest_34 rfl 0 rfl ?_
        refine x_get (v := .ref (ad 1)) (kc := 0) (index := 7) B G.1 iX8_soonest_cX8 rfl (by decide) m_c0 0 (by decide) iX8_soonest_1 rfl dX8_soonest_35 ?_
        refine x_bipush (v := 37) B dX8_soonest_38 (by decide) ?_
        refine x_iload B dX8_soonest_40 4 rfl ?_
        refine x_iadd B dX8_soonest_42 ?_
        obtain ⟨h7, hf⟩ := x_gs hf
        refine x_iald (kc := 1) (t0 := 0) B G.1 (by decide) m_c1 rfl h7 dX8_soonest_43 ?_
        refine x_iload_n B dX8_soonest_44 rfl 3 rfl ?_
        refine x_icmp_ge (tgt := 52) B dX8_soonest_45 (by decide) (fun h8 => ?_) (fun h8 => ?_)
        · replace hf := x_it h8 hf
          refine x_sub [0, 1, 2, 3, 4] rfl ?_
          exact kX8_soonest_52 B G hr hK6 hf
        · replace hf := x_if h8 hf
          refine x_iconst (v := 1) B dX8_soonest_48 (by decide) ?_
          refine x_goto (tgt := 53) B dX8_soonest_49 (by decide) ?_
          refine x_sub [0, 1, 2, 3, 4] rfl ?_
          exact kX8_soonest_53 B G hr hK6 hf
set_option maxRecDepth 100000 in
set_option maxHeartbeats 4000000 in
theorem kX8_soonest_6 {σ : x_S} {x1 : Int32} {x2 : Int32} {x3 : Int32} {x4 : Int32} (B : x_B p s m args meth c cX8_soonest 6 wsX8_soonest RX8) (G : x_H s D vwCl (s_tys cI cQ cC cZ) m_N ad (x_A m_N ad) m_St m_NW) (hr : meth.sig.returnType = (some .int)) (hf : bX8_soonest_6  x1 x2 x3 x4 σ = some r0) : x_J p l e (x_rm 2) s m args below meth c 0 0 (MQ below (x_Qi D vwCl m_N (m_C cI cZ ad) ad r0 σ) args s 0 0 (x_A m_N ad)) (x_A m_N ad) 6 (x_I D vwCl m_N (m_C cI cZ ad) ad σ) [(0, .ref (ad 0)), (1, .int x1), (2, .int x2), (3, .int x3), (4, .int x4)] [] 6 := by
  have key : ∀ (n : Nat) (x3 : Int32) (x4 : Int32), x_fx (α := Int32 → Int32 → Option Int32) (fun _ _ => none) (fun K => fun x3 x4 => gX8_soonest_6  x1 x2 K x3 x4 σ) n x3 x4 = some r0 → x_J p l e (x_rm 2) s m args below meth c 0 0 (MQ below (x_Qi D vwCl m_N (m_C cI cZ ad) ad r0 σ) args s 0 0 (x_A m_N ad)) (x_A m_N ad) 6 (x_I D vwCl m_N (m_C cI cZ ad) ad σ) [(0, .ref (ad 0)), (1, .int x1), (2, .int x2), (3, .int x3), (4, .int x4)] [] 6 := by
    intro n
    induction n with
    | zero => intro x3 x4 h; cases h
    | succ n ih => intro x3 x4 h; exact qX8_soonest_6 B G hr  ih  h
  exact key x_F x3 x4 hf
set_option maxRecDepth 100000 in
set_option maxHeartbeats 4000000 in
theorem mX8_soonest {σ : x_S} {a1 : Int32} {a2 : Int32} (hdis : x_dis m_N ad) (hf : fX8_soonest a1 a2 σ = some r0) : x_NI l yX8_soonest wsX8_soonest 2 D vwCl (s_tys cI cQ cC cZ) m_N (m_C cI cZ ad) ad m_St m_NW [.ref (ad 0), .int a1, .int a2] σ r0 σ := by
  refine x_met (cc := cX8_soonest) (own := RX8) (maxL := 6) (ret := (some .int)) (by decide +kernel) rfl rfl (Nat.le_of_ble_eq_true rfl) hdis m_StOk m_NwOk (fun p e s m args below meth c B G hr => ?_)
  unfold fX8_soonest at hf
  refine x_sub (lv' := [(0, .ref (ad 0)), (1, .int a1), (2, .int a2)]) [0, 1, 2] rfl ?_
  refine x_ldc (v := (-1000000)) B iX8_soonest_0 dX8_soonest_0 ?_
  refine x_istore_n (lv' := [(3, .int (-1000000)), (0, .ref (ad 0)), (1, .int a1), (2, .int a2)]) B dX8_soonest_2 rfl (by decide) rfl ?_
  refine x_iconst (v := 0) B dX8_soonest_3 (by decide) ?_
  refine x_istore (lv' := [(4, .int 0), (3, .int (-1000000)), (0, .ref (ad 0)), (1, .int a1), (2, .int a2)]) B dX8_soonest_4 (by decide) rfl ?_
  refine x_sub [2, 3, 4, 1, 0] rfl ?_
  exact kX8_soonest_6 B G hr hf
theorem iX8_shut_0 : Cond.fieldLink RX8 127 "SignDutyModel" "isCity" "Z" ∈ wsX8_shut := by decide +kernel
theorem iX8_shut_cX8 : ∀ w ∈ u_ws RX8 TX8 17, w ∈ wsX8_shut := by decide +kernel
theorem iX8_shut_2 : Cond.fieldLink RX8 7 "SignDutyModel" "row" "[I" ∈ wsX8_shut := by decide +kernel
theorem iX8_shut_3 : Cond.constant RX8 200 (-1000000) ∈ wsX8_shut := by decide +kernel
theorem iX8_shut_4 : Cond.constant RX8 52 (-1000001) ∈ wsX8_shut := by decide +kernel
theorem iX8_shut_5 : Cond.constant RX8 134 (-1000002) ∈ wsX8_shut := by decide +kernel
set_option maxRecDepth 100000 in
set_option maxHeartbeats 4000000 in
theorem qX8_shut_24 {σ : x_S} {x1 : Int32} {x2 : Int32} {x3 : Int32} {K24 : Int32 → Int32 → Option Int32} (B : x_B p s m args meth c cX8_shut 4 wsX8_shut RX8) (G : x_H s D vwCl (s_tys cI cQ cC cZ) m_N ad (x_A m_N ad) m_St m_NW) (hr : meth.sig.returnType = (some .int)) (hK24 : ∀ (x2 : Int32) (x3 : Int32), K24 x2 x3 = some r0 → x_J p l e (x_rm 3) s m args below meth c 0 0 (MQ below (x_Qi D vwCl m_N (m_C cI cZ ad) ad r0 σ) args s 0 0 (x_A m_N ad)) (x_A m_N ad) 4 (x_I D vwCl m_N (m_C cI cZ ad) ad σ) [(0, .ref (ad 0)), (1, .int x1), (2, .int x2), (3, .int x3)] [] 24) (hf : gX8_shut_24  x1 K24 x2 x3 σ = some r0) : x_J p l e (x_rm 3) s m args below meth c 0 0 (MQ below (x_Qi D vwCl m_N (m_C cI cZ ad) ad r0 σ) args s 0 0 (x_A m_N ad)) (x_A m_N ad) 4 (x_I D vwCl m_N (m_C cI cZ ad) ad σ) [(0, .ref (ad 0)), (1, .int x1), (2, .int x2), (3, .int x3)] [] 24 := by
  unfold gX8_shut_24 at hf
  refine x_iload_n B dX8_shut_24 rfl 3 rfl ?_
  refine x_aload_n B dX8_shut_25 rfl 0 rfl ?_
  refine x_get (v := .ref (ad 1)) (kc := 0) (index := 7) B G.1 iX8_shut_cX8 rfl (by decide) m_c0 0 (by decide) iX8_shut_2 rfl dX8_shut_26 ?_
  refine x_iconst (v := 1) B dX8_shut_29 (by decide) ?_
  refine x_iald (kc := 1) (t0 := 0) B G.1 (by decide) m_c1 rfl (by decide) dX8_shut_30 ?_
  refine x_icmp_ge (tgt := 61) B dX8_shut_31 (by decide) (fun h2 => ?_) (fun h2 => ?_)
  · replace hf := x_it h2 hf
    refine x_iload_n B dX8_shut_61 rfl 2 rfl ?_
    obtain rfl := x_retP hf
    exact x_iret B hr dX8_shut_62
  · replace hf := x_if h2 hf
    refine x_iload_n B dX8_shut_34 rfl 2 rfl ?_
    refine x_aload_n B dX8_shut_35 rfl 0 rfl ?_
    refine x_iload_n B dX8_shut_36 rfl 1 rfl ?_
    refine x_iload_n B dX8_shut_37 rfl 3 rfl ?_
    obtain ⟨r4, e3, hf⟩ := x_ps hf
    refine x_callV (As := [.int x1, .int x3]) (st := [.int x2]) B G (mX8_soonest (l := l) G.1.2.1  e3) (cwV 2 B.2.2.2.2.1 gX8_shut_X8_soonest rfl rfl rfl hdX8_soonest (x_rm_ok (by omega) (by decide))) (by decide) m_c0 rfl rfl rfl (Nat.le_of_ble_eq_true rfl) ⟨Nat.zero_le _, Nat.zero_le _⟩ dX8_shut_38 ?_
    refine x_ldc (v := (-1000000)) B iX8_shut_3 dX8_shut_41 ?_
    refine x_icmp_ne (tgt := 52) B dX8_shut_43 (by decide) (fun h5 => ?_) (fun h5 => ?_)
    · replace hf := x_if h5 hf
      refine x_iconst (v := 0) B dX8_shut_52 (by decide) ?_
      refine x_ior B dX8_shut_53 ?_
      refine x_istore_n (lv' := [(2, .int (x2 ||| 0)), (0, .ref (ad 0)), (1, .int x1), (3, .int x3)]) B dX8_shut_54 rfl (by decide) rfl ?_
      refine x_iinc (v := (x3 + 1)) (lv' := [(3, .int (x3 + 1)), (2, .int (x2 ||| 0)), (0, .ref (ad 0)), (1, .int x1)]) B dX8_shut_55 3 rfl rfl (by decide) rfl ?_
      refine x_goto (tgt := 24) B dX8_shut_58 (by decide) ?_
      refine x_sub [2, 3, 1, 0] rfl ?_
      exact hK24 _ _ hf
    · replace hf := x_it h5 hf
      refine x_iconst (v := 1) B dX8_shut_46 (by decide) ?_
      refine x_iload_n B dX8_shut_47 rfl 3 rfl ?_
      refine x_ishl B dX8_shut_48 ?_
      refine x_goto (tgt := 53) B dX8_shut_49 (by decide) ?_
      refine x_ior B dX8_shut_53 ?_
      refine x_istore_n (lv' := [(2, .int (x2 ||| (1 <<< (x3 &&& 31)))), (0, .ref (ad 0)), (1, .int x1), (3, .int x3)]) B dX8_shut_54 rfl (by decide) rfl ?_
      refine x_iinc (v := (x3 + 1)) (lv' := [(3, .int (x3 + 1)), (2, .int (x2 ||| (1 <<< (x3 &&& 31)))), (0, .ref (ad 0)), (1, .int x1)]) B dX8_shut_55 3 rfl rfl (by decide) rfl ?_
      refine x_goto (tgt := 24) B dX8_shut_58 (by decide) ?_
      refine x_sub [2, 3, 1, 0] rfl ?_
      exact hK24 _ _ hf
set_option maxRecDepth 100000 in
set_option maxHeartbeats 4000000 in
theorem kX8_shut_24 {σ : x_S} {x1 : Int32} {x2 : Int32} {x3 : Int32} (B : x_B p s m args meth c cX8_shut 4 wsX8_shut RX8) (G : x_H s D vwCl (s_tys cI cQ cC cZ) m_N ad (x_A m_N ad) m_St m_NW) (hr : meth.sig.returnType = (some .int)) (hf : bX8_shut_24  x1 x2 x3 σ = some r0) : x_J p l e (x_rm 3) s m args below meth c 0 0 (MQ below (x_Qi D vwCl m_N (m_C cI cZ ad) ad r0 σ) args s 0 0 (x_A m_N ad)) (x_A m_N ad) 4 (x_I D vwCl m_N (m_C cI cZ ad) ad σ) [(0, .ref (ad 0)), (1, .int x1), (2, .int x2), (3, .int x3)] [] 24 := by
  have key : ∀ (n : Nat) (x2 : Int32) (x3 : Int32), x_fx (α := Int32 → Int32 → Option Int32) (fun _ _ => none) (fun K => fun x2 x3 => gX8_shut_24  x1 K x2 x3 σ) n x2 x3 = some r0 → x_J p l e (x_rm 3) s m args below meth c 0 0 (MQ below (x_Qi D vwCl m_N (m_C cI cZ ad) ad r0 σ) args s 0 0 (x_A m_N ad)) (x_A m_N ad) 4 (x_I D vwCl m_N (m_C cI cZ ad) ad σ) [(0, .ref (ad 0)), (1, .int x1), (2, .int x2), (3, .int x3)] [] 24 := by
    intro n
    induction n with
    | zero => intro x2 x3 h; cases h
    | succ n ih => intro x2 x3 h; exact qX8_shut_24 B G hr  ih  h
  exact key x_F x2 x3 hf
set_option maxRecDepth 100000 in
set_option maxHeartbeats 4000000 in
theorem mX8_shut {σ : x_S} {a1 : Int32} (hdis : x_dis m_N ad) (hf : fX8_shut a1 σ = some r0) : x_NI l yX8_shut wsX8_shut 3 D vwCl (s_tys cI cQ cC cZ) m_N (m_C cI cZ ad) ad m_St m_NW [.ref (ad 0), .int a1] σ r0 σ := by
  refine x_met (cc := cX8_shut) (own := RX8) (maxL := 4) (ret := (some .int)) (by decide +kernel) rfl rfl (Nat.le_of_ble_eq_true rfl) hdis m_StOk m_NwOk (fun p e s m args below meth c B G hr => ?_)
  unfold fX8_shut at hf
  refine x_sub (lv' := [(0, .ref (ad 0)), (1, .int a1)]) [0, 1] rfl ?_
  refine x_aload_n B dX8_shut_0 rfl 0 rfl ?_
  refine x_get (v := .int (σ 0 1)) (kc := 0) (index := 127) B G.1 iX8_shut_cX8 rfl (by decide) m_c0 1 (by decide) iX8_shut_0 rfl dX8_shut_1 ?_
  refine x_if_ne (tgt := 10) B dX8_shut_4 (by decide) (fun h1 => ?_) (fun h1 => ?_)
  · replace hf := x_if h1 hf
    refine x_iload_n B dX8_shut_10 rfl 1 rfl ?_
    obtain ⟨r3, e2, hf⟩ := x_ps hf
    refine x_callS (As := [.int a1]) (st := []) B G (mX8_isMeans (l := l) G.1.2.1  e2) (va_cwS 1 B.2.2.2.2.1 gX8_shut_X8_isMeans rfl rfl rfl hdX8_isMeans (x_rm_ok (by omega) (by decide))) rfl rfl (Nat.le_of_ble_eq_true rfl) ⟨Nat.zero_le _, Nat.zero_le _⟩ dX8_shut_11 ?_
    refine x_if_ne (tgt := 20) B dX8_shut_14 (by decide) (fun h4 => ?_) (fun h4 => ?_)
    · replace hf := x_if h4 hf
      refine x_iconst (v := 0) B dX8_shut_20 (by decide) ?_
      refine x_istore_n (lv' := [(2, .int 0), (0, .ref (ad 0)), (1, .int a1)]) B dX8_shut_21 rfl (by decide) rfl ?_
      refine x_iconst (v := 0) B dX8_shut_22 (by decide) ?_
      refine x_istore_n (lv' := [(3, .int 0), (2, .int 0), (0, .ref (ad 0)), (1, .int a1)]) B dX8_shut_23 rfl (by decide) rfl ?_
      refine x_sub [2, 3, 1, 0] rfl ?_
      exact kX8_shut_24 B G hr hf
    · replace hf := x_it h4 hf
      refine x_ldc (v := (-1000001)) B iX8_shut_4 dX8_shut_17 ?_
      obtain rfl := x_retP hf
      exact x_iret B hr dX8_shut_19
  · replace hf := x_it h1 hf
    refine x_ldc (v := (-1000002)) B iX8_shut_5 dX8_shut_7 ?_
    obtain rfl := x_retP hf
    exact x_iret B hr dX8_shut_9
theorem iX8_quick_0 : Cond.constant RX8 52 (-1000001) ∈ wsX8_quick := by decide +kernel
theorem iX8_quick_1 : Cond.constant RX8 200 (-1000000) ∈ wsX8_quick := by decide +kernel
set_option maxRecDepth 100000 in
set_option maxHeartbeats 4000000 in
theorem qX8_quick_25 {σ : x_S} {x1 : Int32} {x3 : Int32} {x4 : Int32} {x5 : Int32} {K25 : Int32 → Int32 → Option Int32} (B : x_B p s m args meth c cX8_quick 6 wsX8_quick RX8) (G : x_H s D vwCl (s_tys cI cQ cC cZ) m_N ad (x_A m_N ad) m_St m_NW) (hr : meth.sig.returnType = (some .int)) (hK25 : ∀ (x4 : Int32) (x5 : Int32), K25 x4 x5 = some r0 → x_J p l e (x_rm 3) s m args below meth c 0 0 (MQ below (x_Qi D vwCl m_N (m_C cI cZ ad) ad r0 σ) args s 0 0 (x_A m_N ad)) (x_A m_N ad) 6 (x_I D vwCl m_N (m_C cI cZ ad) ad σ) [(0, .ref (ad 0)), (1, .int x1), (3, .int x3), (4, .int x4), (5, .int x5)] [] 25) (hf : gX8_quick_25  x1 x3 K25 x4 x5 σ = some r0) : x_J p l e (x_rm 3) s m args below meth c 0 0 (MQ below (x_Qi D vwCl m_N (m_C cI cZ ad) ad r0 σ) args s 0 0 (x_A m_N ad)) (x_A m_N ad) 6 (x_I D vwCl m_N (m_C cI cZ ad) ad σ) [(0, .ref (ad 0)), (1, .int x1), (3, .int x3), (4, .int x4), (5, .int x5)] [] 25 := by
  unfold gX8_quick_25 at hf
  refine x_iload B dX8_quick_25 4 rfl ?_
  refine x_iload_n B dX8_quick_27 rfl 2 rfl ?_
  refine x_icmp_gt (tgt := 64) B dX8_quick_28 (by decide) (fun h1 => ?_) (fun h1 => ?_)
  · replace hf := x_it h1 hf
    refine x_iload B dX8_quick_64 3 rfl ?_
    obtain rfl := x_retP hf
    exact x_iret B hr dX8_quick_66
  · replace hf := x_if h1 hf
    refine x_aload_n B dX8_quick_31 rfl 0 rfl ?_
    refine x_iload_n B dX8_quick_32 rfl 1 rfl ?_
    refine x_iload B dX8_quick_33 4 rfl ?_
    obtain ⟨r3, e2, hf⟩ := x_ps hf
    refine x_callV (As := [.int x1, .int x5]) (st := []) B G (mX8_soonest (l := l) G.1.2.1  e2) (cwV 2 B.2.2.2.2.1 gX8_quick_X8_soonest rfl rfl rfl hdX8_soonest (x_rm_ok (by omega) (by decide))) (by decide) m_c0 rfl rfl rfl (Nat.le_of_ble_eq_true rfl) ⟨Nat.zero_le _, Nat.zero_le _⟩ dX8_quick_35 ?_
    refine x_ldc (v := (-1000000)) B iX8_quick_1 dX8_quick_38 ?_
    refine x_icmp_ne (tgt := 46) B dX8_quick_40 (by decide) (fun h4 => ?_) (fun h4 => ?_)
    · replace hf := x_if h4 hf
      refine x_iload B dX8_quick_46 3 rfl ?_
      refine x_aload_n B dX8_quick_48 rfl 0 rfl ?_
      refine x_iload_n B dX8_quick_49 rfl 1 rfl ?_
      refine x_iload B dX8_quick_50 4 rfl ?_
      obtain ⟨r6, e5, hf⟩ := x_ps hf
      refine x_callV (As := [.int x1, .int x5]) (st := [.int x4]) B G (mX8_soonest (l := l) G.1.2.1  e5) (cwV 2 B.2.2.2.2.1 gX8_quick_X8_soonest rfl rfl rfl hdX8_soonest (x_rm_ok (by omega) (by decide))) (by decide) m_c0 rfl rfl rfl (Nat.le_of_ble_eq_true rfl) ⟨Nat.zero_le _, Nat.zero_le _⟩ dX8_quick_52 ?_
      refine x_iadd B dX8_quick_55 ?_
      refine x_istore (lv' := [(4, .int (x4 + r6)), (0, .ref (ad 0)), (1, .int x1), (3, .int x3), (5, .int x5)]) B dX8_quick_56 (by decide) rfl ?_
      refine x_iinc (v := (x5 + 1)) (lv' := [(5, .int (x5 + 1)), (4, .int (x4 + r6)), (0, .ref (ad 0)), (1, .int x1), (3, .int x3)]) B dX8_quick_58 4 rfl rfl (by decide) rfl ?_
      refine x_goto (tgt := 25) B dX8_quick_61 (by decide) ?_
      refine x_sub [2, 3, 4, 1, 0] rfl ?_
      exact hK25 _ _ hf
    · replace hf := x_it h4 hf
      refine x_ldc (v := (-1000000)) B iX8_quick_1 dX8_quick_43 ?_
      obtain rfl := x_retP hf
      exact x_iret B hr dX8_quick_45
set_option maxRecDepth 100000 in
set_option maxHeartbeats 4000000 in
theorem kX8_quick_25 {σ : x_S} {x1 : Int32} {x3 : Int32} {x4 : Int32} {x5 : Int32} (B : x_B p s m args meth c cX8_quick 6 wsX8_quick RX8) (G : x_H s D vwCl (s_tys cI cQ cC cZ) m_N ad (x_A m_N ad) m_St m_NW) (hr : meth.sig.returnType = (some .int)) (hf : bX8_quick_25  x1 x3 x4 x5 σ = some r0) : x_J p l e (x_rm 3) s m args below meth c 0 0 (MQ below (x_Qi D vwCl m_N (m_C cI cZ ad) ad r0 σ) args s 0 0 (x_A m_N ad)) (x_A m_N ad) 6 (x_I D vwCl m_N (m_C cI cZ ad) ad σ) [(0, .ref (ad 0)), (1, .int x1), (3, .int x3), (4, .int x4), (5, .int x5)] [] 25 := by
  have key : ∀ (n : Nat) (x4 : Int32) (x5 : Int32), x_fx (α := Int32 → Int32 → Option Int32) (fun _ _ => none) (fun K => fun x4 x5 => gX8_quick_25  x1 x3 K x4 x5 σ) n x4 x5 = some r0 → x_J p l e (x_rm 3) s m args below meth c 0 0 (MQ below (x_Qi D vwCl m_N (m_C cI cZ ad) ad r0 σ) args s 0 0 (x_A m_N ad)) (x_A m_N ad) 6 (x_I D vwCl m_N (m_C cI cZ ad) ad σ) [(0, .ref (ad 0)), (1, .int x1), (3, .int x3), (4, .int x4), (5, .int x5)] [] 25 := by
    intro n
    induction n with
    | zero => intro x4 x5 h; cases h
    | succ n ih => intro x4 x5 h; exact qX8_quick_25 B G hr  ih  h
  exact key x_F x4 x5 hf
set_option maxRecDepth 100000 in
set_option maxHeartbeats 4000000 in
theorem mX8_quick {σ : x_S} {a1 : Int32} {a2 : Int32} {a3 : Int32} (hdis : x_dis m_N ad) (hf : fX8_quick a1 a2 a3 σ = some r0) : x_NI l yX8_quick wsX8_quick 3 D vwCl (s_tys cI cQ cC cZ) m_N (m_C cI cZ ad) ad m_St m_NW [.ref (ad 0), .int a1, .int a2, .int a3] σ r0 σ := by
  refine x_met (cc := cX8_quick) (own := RX8) (maxL := 6) (ret := (some .int)) (by decide +kernel) rfl rfl (Nat.le_of_ble_eq_true rfl) hdis m_StOk m_NwOk (fun p e s m args below meth c B G hr => ?_)
  unfold fX8_quick at hf
  refine x_sub (lv' := [(0, .ref (ad 0)), (1, .int a1), (2, .int a2), (3, .int a3)]) [0, 1, 2, 3] rfl ?_
  refine x_iload_n B dX8_quick_0 rfl 1 rfl ?_
  obtain ⟨r2, e1, hf⟩ := x_ps hf
  refine x_callS (As := [.int a1]) (st := []) B G (mX8_isMeans (l := l) G.1.2.1  e1) (va_cwS 1 B.2.2.2.2.1 gX8_quick_X8_isMeans rfl rfl rfl hdX8_isMeans (x_rm_ok (by omega) (by decide))) rfl rfl (Nat.le_of_ble_eq_true rfl) ⟨Nat.zero_le _, Nat.zero_le _⟩ dX8_quick_1 ?_
  refine x_if_eq (tgt := 16) B dX8_quick_4 (by decide) (fun h3 => ?_) (fun h3 => ?_)
  · replace hf := x_it h3 hf
    refine x_ldc (v := (-1000001)) B iX8_quick_0 dX8_quick_16 ?_
    obtain rfl := x_retP hf
    exact x_iret B hr dX8_quick_18
  · replace hf := x_if h3 hf
    refine x_aload_n B dX8_quick_7 rfl 0 rfl ?_
    refine x_iload_n B dX8_quick_8 rfl 2 rfl ?_
    refine x_iload_n B dX8_quick_9 rfl 3 rfl ?_
    obtain ⟨r5, e4, hf⟩ := x_ps hf
    refine x_callV (As := [.int a2, .int a3]) (st := []) B G (mX8_areStreets (l := l) G.1.2.1  e4) (cwV 2 B.2.2.2.2.1 gX8_quick_X8_areStreets rfl rfl rfl hdX8_areStreets (x_rm_ok (by omega) (by decide))) (by decide) m_c0 rfl rfl rfl (Nat.le_of_ble_eq_true rfl) ⟨Nat.zero_le _, Nat.zero_le _⟩ dX8_quick_10 ?_
    refine x_if_ne (tgt := 19) B dX8_quick_13 (by decide) (fun h6 => ?_) (fun h6 => ?_)
    · replace hf := x_if h6 hf
      refine x_iconst (v := 0) B dX8_quick_19 (by decide) ?_
      refine x_istore (lv' := [(4, .int 0), (0, .ref (ad 0)), (1, .int a1), (2, .int a2), (3, .int a3)]) B dX8_quick_20 (by decide) rfl ?_
      refine x_iload_n B dX8_quick_22 rfl 3 rfl ?_
      refine x_istore (lv' := [(5, .int a2), (4, .int 0), (0, .ref (ad 0)), (1, .int a1), (2, .int a2), (3, .int a3)]) B dX8_quick_23 (by decide) rfl ?_
      refine x_sub [2, 3, 5, 1, 0] rfl ?_
      exact kX8_quick_25 B G hr hf
    · replace hf := x_it h6 hf
      refine x_ldc (v := (-1000001)) B iX8_quick_0 dX8_quick_16 ?_
      obtain rfl := x_retP hf
      exact x_iret B hr dX8_quick_18
theorem iX8_noPairs_0 : Cond.fieldLink RX8 20 "SignDutyModel" "sizes" "[I" ∈ wsX8_noPairs := by decide +kernel
theorem iX8_noPairs_cX8 : ∀ w ∈ u_ws RX8 TX8 17, w ∈ wsX8_noPairs := by decide +kernel
theorem iX8_noPairs_2 : Cond.constant RX8 52 (-1000001) ∈ wsX8_noPairs := by decide +kernel
theorem iX8_noPairs_3 : Cond.fieldLink RX8 23 "SignDutyModel" "items" "[I" ∈ wsX8_noPairs := by decide +kernel
set_option maxRecDepth 100000 in
set_option maxHeartbeats 4000000 in
theorem qX8_noPairs_39 {σ : x_S} {x1 : Int32} {x2 : Int32} {x3 : Int32} {x4 : Int32} {x5 : Int32} {K39 : Int32 → Int32 → x_S → Option (Int32 × x_S)} (B : x_B p s m args meth c cX8_noPairs 6 wsX8_noPairs RX8) (G : x_H s D vwCl (s_tys cI cQ cC cZ) m_N ad (x_A m_N ad) m_St m_NW) (hr : meth.sig.returnType = (some .int)) (hK39 : ∀ (x4 : Int32) (x5 : Int32) (σ : x_S), K39 x4 x5 σ = some (r0, σ0) → x_J p l e (x_rm 2) s m args below meth c 0 0 (MQ below (x_Qi D vwCl m_N (m_C cI cZ ad) ad r0 σ0) args s 0 0 (x_A m_N ad)) (x_A m_N ad) 6 (x_I D vwCl m_N (m_C cI cZ ad) ad σ) [(0, .ref (ad 0)), (1, .int x1), (2, .int x2), (3, .int x3), (4, .int x4), (5, .int x5)] [] 39) (hf : gX8_noPairs_39  x1 x2 x3 K39 x4 x5 σ = some (r0, σ0)) : x_J p l e (x_rm 2) s m args below meth c 0 0 (MQ below (x_Qi D vwCl m_N (m_C cI cZ ad) ad r0 σ0) args s 0 0 (x_A m_N ad)) (x_A m_N ad) 6 (x_I D vwCl m_N (m_C cI cZ ad) ad σ) [(0, .ref (ad 0)), (1, .int x1), (2, .int x2), (3, .int x3), (4, .int x4), (5, .int x5)] [] 39 := by
  unfold gX8_noPairs_39 at hf
  refine x_iload B dX8_noPairs_39 5 rfl ?_
  refine x_iload_n B dX8_noPairs_41 rfl 3 rfl ?_
  refine x_icmp_ge (tgt := 86) B dX8_noPairs_42 (by decide) (fun h1 => ?_) (fun h1 => ?_)
  · replace hf := x_it h1 hf
    refine x_iload B dX8_noPairs_86 4 rfl ?_
    refine x_if_eq (tgt := 95) B dX8_noPairs_88 (by decide) (fun h2 => ?_) (fun h2 => ?_)
    · replace hf := x_it h2 hf
      refine x_ldc (v := (-1000001)) B iX8_noPairs_2 dX8_noPairs_95 ?_
      obtain ⟨rfl, rfl⟩ := x_retI hf
      exact x_iret B hr dX8_noPairs_97
    · replace hf := x_if h2 hf
      refine x_iconst (v := 0) B dX8_noPairs_91 (by decide) ?_
      refine x_goto (tgt := 97) B dX8_noPairs_92 (by decide) ?_
      obtain ⟨rfl, rfl⟩ := x_retI hf
      exact x_iret B hr dX8_noPairs_97
  · replace hf := x_if h1 hf
    refine x_iload B dX8_noPairs_45 4 rfl ?_
    refine x_if_eq (tgt := 77) B dX8_noPairs_47 (by decide) (fun h3 => ?_) (fun h3 => ?_)
    · replace hf := x_it h3 hf
      refine x_iconst (v := 0) B dX8_noPairs_77 (by decide) ?_
      refine x_istore (lv' := [(4, .int 0), (0, .ref (ad 0)), (1, .int x1), (2, .int x2), (3, .int x3), (5, .int x5)]) B dX8_noPairs_78 (by decide) rfl ?_
      refine x_iinc (v := (x5 + 1)) (lv' := [(5, .int (x5 + 1)), (4, .int 0), (0, .ref (ad 0)), (1, .int x1), (2, .int x2), (3, .int x3)]) B dX8_noPairs_80 5 rfl rfl (by decide) rfl ?_
      refine x_goto (tgt := 39) B dX8_noPairs_83 (by decide) ?_
      refine x_sub [2, 3, 4, 5, 1, 0] rfl ?_
      exact hK39 _ _ _ hf
    · replace hf := x_if h3 hf
      refine x_aload_n B dX8_noPairs_50 rfl 0 rfl ?_
      refine x_aload_n B dX8_noPairs_51 rfl 0 rfl ?_
      refine x_get (v := .ref (ad 5)) (kc := 0) (index := 23) B G.1 iX8_noPairs_cX8 rfl (by decide) m_c0 6 (by decide) iX8_noPairs_3 rfl dX8_noPairs_52 ?_
      refine x_bipush (v := 40) B dX8_noPairs_55 (by decide) ?_
      refine x_iload_n B dX8_noPairs_57 rfl 1 rfl ?_
      refine x_imul B dX8_noPairs_58 ?_
      refine x_iload_n B dX8_noPairs_59 rfl 2 rfl ?_
      refine x_iadd B dX8_noPairs_60 ?_
      refine x_iconst (v := 2) B dX8_noPairs_61 (by decide) ?_
      refine x_iload B dX8_noPairs_62 5 rfl ?_
      refine x_imul B dX8_noPairs_64 ?_
      refine x_iadd B dX8_noPairs_65 ?_
      obtain ⟨h4, hf⟩ := x_gs hf
      refine x_iald (kc := 5) (t0 := 0) B G.1 (by decide) m_c5 rfl h4 dX8_noPairs_66 ?_
      obtain ⟨r6, e5, hf⟩ := x_ps hf
      refine x_callV (As := [.int (σ 5 (((40 * x1) + x2) + (2 * x5)).toNatClampNeg)]) (st := []) B G (mX8_isStreet (l := l) G.1.2.1  e5) (cwV 1 B.2.2.2.2.1 gX8_noPairs_X8_isStreet rfl rfl rfl hdX8_isStreet (x_rm_ok (by omega) (by decide))) (by decide) m_c0 rfl rfl rfl (Nat.le_of_ble_eq_true rfl) ⟨Nat.zero_le _, Nat.zero_le _⟩ dX8_noPairs_67 ?_
      refine x_if_eq (tgt := 77) B dX8_noPairs_70 (by decide) (fun h7 => ?_) (fun h7 => ?_)
      · replace hf := x_it h7 hf
        refine x_iconst (v := 0) B dX8_noPairs_77 (by decide) ?_
        refine x_istore (lv' := [(4, .int 0), (0, .ref (ad 0)), (1, .int x1), (2, .int x2), (3, .int x3), (5, .int x5)]) B dX8_noPairs_78 (by decide) rfl ?_
        refine x_iinc (v := (x5 + 1)) (lv' := [(5, .int (x5 + 1)), (4, .int 0), (0, .ref (ad 0)), (1, .int x1), (2, .int x2), (3, .int x3)]) B dX8_noPairs_80 5 rfl rfl (by decide) rfl ?_
        refine x_goto (tgt := 39) B dX8_noPairs_83 (by decide) ?_
        refine x_sub [2, 3, 4, 5, 1, 0] rfl ?_
        exact hK39 _ _ _ hf
      · replace hf := x_if h7 hf
        refine x_iconst (v := 1) B dX8_noPairs_73 (by decide) ?_
        refine x_goto (tgt := 78) B dX8_noPairs_74 (by decide) ?_
        refine x_istore (lv' := [(4, .int 1), (0, .ref (ad 0)), (1, .int x1), (2, .int x2), (3, .int x3), (5, .int x5)]) B dX8_noPairs_78 (by decide) rfl ?_
        refine x_iinc (v := (x5 + 1)) (lv' := [(5, .int (x5 + 1)), (4, .int 1), (0, .ref (ad 0)), (1, .int x1), (2, .int x2), (3, .int x3)]) B dX8_noPairs_80 5 rfl rfl (by decide) rfl ?_
        refine x_goto (tgt := 39) B dX8_noPairs_83 (by decide) ?_
        refine x_sub [2, 3, 4, 5, 1, 0] rfl ?_
        exact hK39 _ _ _ hf
set_option maxRecDepth 100000 in
set_option maxHeartbeats 4000000 in
theorem kX8_noPairs_39 {σ : x_S} {x1 : Int32} {x2 : Int32} {x3 : Int32} {x4 : Int32} {x5 : Int32} (B : x_B p s m args meth c cX8_noPairs 6 wsX8_noPairs RX8) (G : x_H s D vwCl (s_tys cI cQ cC cZ) m_N ad (x_A m_N ad) m_St m_NW) (hr : meth.sig.returnType = (some .int)) (hf : bX8_noPairs_39  x1 x2 x3 x4 x5 σ = some (r0, σ0)) : x_J p l e (x_rm 2) s m args below meth c 0 0 (MQ below (x_Qi D vwCl m_N (m_C cI cZ ad) ad r0 σ0) args s 0 0 (x_A m_N ad)) (x_A m_N ad) 6 (x_I D vwCl m_N (m_C cI cZ ad) ad σ) [(0, .ref (ad 0)), (1, .int x1), (2, .int x2), (3, .int x3), (4, .int x4), (5, .int x5)] [] 39 := by
  have key : ∀ (n : Nat) (x4 : Int32) (x5 : Int32) (σ : x_S), x_fx (α := Int32 → Int32 → x_S → Option (Int32 × x_S)) (fun _ _ _ => none) (fun K => fun x4 x5 σ => gX8_noPairs_39  x1 x2 x3 K x4 x5 σ) n x4 x5 σ = some (r0, σ0) → x_J p l e (x_rm 2) s m args below meth c 0 0 (MQ below (x_Qi D vwCl m_N (m_C cI cZ ad) ad r0 σ0) args s 0 0 (x_A m_N ad)) (x_A m_N ad) 6 (x_I D vwCl m_N (m_C cI cZ ad) ad σ) [(0, .ref (ad 0)), (1, .int x1), (2, .int x2), (3, .int x3), (4, .int x4), (5, .int x5)] [] 39 := by
    intro n
    induction n with
    | zero => intro x4 x5 σ h; cases h
    | succ n ih => intro x4 x5 σ h; exact qX8_noPairs_39 B G hr  ih  h
  exact key x_F x4 x5 σ hf
set_option maxRecDepth 100000 in
set_option maxHeartbeats 4000000 in
theorem mX8_noPairs {σ : x_S} {a1 : Int32} {a2 : Int32} {a3 : Int32} (hdis : x_dis m_N ad) (hf : fX8_noPairs a1 a2 a3 σ = some (r0, σ0)) : x_NI l yX8_noPairs wsX8_noPairs 2 D vwCl (s_tys cI cQ cC cZ) m_N (m_C cI cZ ad) ad m_St m_NW [.ref (ad 0), .int a1, .int a2, .int a3] σ r0 σ0 := by
  refine x_met (cc := cX8_noPairs) (own := RX8) (maxL := 6) (ret := (some .int)) (by decide +kernel) rfl rfl (Nat.le_of_ble_eq_true rfl) hdis m_StOk m_NwOk (fun p e s m args below meth c B G hr => ?_)
  unfold fX8_noPairs at hf
  refine x_sub (lv' := [(0, .ref (ad 0)), (1, .int a1), (2, .int a2), (3, .int a3)]) [0, 1, 2, 3] rfl ?_
  refine x_aload_n B dX8_noPairs_0 rfl 0 rfl ?_
  refine x_get (v := .ref (ad 4)) (kc := 0) (index := 20) B G.1 iX8_noPairs_cX8 rfl (by decide) m_c0 5 (by decide) iX8_noPairs_0 rfl dX8_noPairs_1 ?_
  refine x_iload_n B dX8_noPairs_4 rfl 1 rfl ?_
  obtain ⟨h1, hf⟩ := x_gs hf
  refine x_iald (kc := 4) (t0 := 0) B G.1 (by decide) m_c4 rfl h1 dX8_noPairs_5 ?_
  refine x_if_ge (tgt := 15) B dX8_noPairs_6 (by decide) (fun h2 => ?_) (fun h2 => ?_)
  · replace hf := x_it h2 hf
    refine x_aload_n B dX8_noPairs_15 rfl 0 rfl ?_
    refine x_iload_n B dX8_noPairs_16 rfl 1 rfl ?_
    refine x_iload_n B dX8_noPairs_17 rfl 2 rfl ?_
    refine x_iconst (v := 2) B dX8_noPairs_18 (by decide) ?_
    refine x_iload_n B dX8_noPairs_19 rfl 3 rfl ?_
    refine x_imul B dX8_noPairs_20 ?_
    obtain ⟨r4, e3, hf⟩ := x_ps hf
    refine x_callV (As := [.int a1, .int a2, .int (2 * a3)]) (st := []) B G (mX8_isSpan (l := l) G.1.2.1  e3) (cwV 3 B.2.2.2.2.1 gX8_noPairs_X8_isSpan rfl rfl rfl hdX8_isSpan (x_rm_ok (by omega) (by decide))) (by decide) m_c0 rfl rfl rfl (Nat.le_of_ble_eq_true rfl) ⟨Nat.zero_le _, Nat.zero_le _⟩ dX8_noPairs_21 ?_
    refine x_if_ne (tgt := 33) B dX8_noPairs_24 (by decide) (fun h5 => ?_) (fun h5 => ?_)
    · replace hf := x_if h5 hf
      refine x_iconst (v := 1) B dX8_noPairs_33 (by decide) ?_
      refine x_istore (lv' := [(4, .int 1), (0, .ref (ad 0)), (1, .int a1), (2, .int a2), (3, .int a3)]) B dX8_noPairs_34 (by decide) rfl ?_
      refine x_iconst (v := 0) B dX8_noPairs_36 (by decide) ?_
      refine x_istore (lv' := [(5, .int 0), (4, .int 1), (0, .ref (ad 0)), (1, .int a1), (2, .int a2), (3, .int a3)]) B dX8_noPairs_37 (by decide) rfl ?_
      refine x_sub [2, 3, 4, 5, 1, 0] rfl ?_
      exact kX8_noPairs_39 B G hr hf
    · replace hf := x_it h5 hf
      refine x_aload_n B dX8_noPairs_27 rfl 0 rfl ?_
      refine x_iconst (v := 2) B dX8_noPairs_28 (by decide) ?_
      obtain ⟨r7, σ8, e6, hf⟩ := x_bs hf
      refine x_callV (As := [.int 2]) (st := []) B G (mX8_find (l := l) G.1.2.1  e6) (cwV 1 B.2.2.2.2.1 gX8_noPairs_X8_find rfl rfl rfl hdX8_find (x_rm_ok (by omega) (by decide))) (by decide) m_c0 rfl rfl rfl (Nat.le_of_ble_eq_true rfl) ⟨Nat.zero_le _, Nat.zero_le _⟩ dX8_noPairs_29 ?_
      obtain ⟨rfl, rfl⟩ := x_retI hf
      exact x_iret B hr dX8_noPairs_32
  · replace hf := x_if h2 hf
    refine x_aload_n B dX8_noPairs_9 rfl 0 rfl ?_
    refine x_iconst (v := 1) B dX8_noPairs_10 (by decide) ?_
    obtain ⟨r10, σ11, e9, hf⟩ := x_bs hf
    refine x_callV (As := [.int 1]) (st := []) B G (mX8_find (l := l) G.1.2.1  e9) (cwV 1 B.2.2.2.2.1 gX8_noPairs_X8_find rfl rfl rfl hdX8_find (x_rm_ok (by omega) (by decide))) (by decide) m_c0 rfl rfl rfl (Nat.le_of_ble_eq_true rfl) ⟨Nat.zero_le _, Nat.zero_le _⟩ dX8_noPairs_11 ?_
    obtain ⟨rfl, rfl⟩ := x_retI hf
    exact x_iret B hr dX8_noPairs_14
theorem iX8_owesSo_0 : Cond.fieldLink RX8 23 "SignDutyModel" "items" "[I" ∈ wsX8_owesSo := by decide +kernel
theorem iX8_owesSo_cX8 : ∀ w ∈ u_ws RX8 TX8 17, w ∈ wsX8_owesSo := by decide +kernel
set_option maxRecDepth 100000 in
set_option maxHeartbeats 4000000 in
theorem qX8_owesSo_12 {σ : x_S} {x1 : Int32} {x2 : Int32} {x3 : Int32} {x4 : Int32} {x5 : Int32} {x6 : Int32} {x7 : Int32} {K12 : Int32 → Int32 → Option Int32} (B : x_B p s m args meth c cX8_owesSo 8 wsX8_owesSo RX8) (G : x_H s D vwCl (s_tys cI cQ cC cZ) m_N ad (x_A m_N ad) m_St m_NW) (hr : meth.sig.returnType = (some .boolean)) (hK12 : ∀ (x6 : Int32) (x7 : Int32), K12 x6 x7 = some r0 → x_J p l e (x_rm 3) s m args below meth c 0 0 (MQ below (x_Qi D vwCl m_N (m_C cI cZ ad) ad r0 σ) args s 0 0 (x_A m_N ad)) (x_A m_N ad) 8 (x_I D vwCl m_N (m_C cI cZ ad) ad σ) [(0, .ref (ad 0)), (1, .int x1), (2, .int x2), (3, .int x3), (4, .int x4), (5, .int x5), (6, .int x6), (7, .int x7)] [] 12) (hf : gX8_owesSo_12  x1 x2 x3 x4 x5 K12 x6 x7 σ = some r0) : x_J p l e (x_rm 3) s m args below meth c 0 0 (MQ below (x_Qi D vwCl m_N (m_C cI cZ ad) ad r0 σ) args s 0 0 (x_A m_N ad)) (x_A m_N ad) 8 (x_I D vwCl m_N (m_C cI cZ ad) ad σ) [(0, .ref (ad 0)), (1, .int x1), (2, .int x2), (3, .int x3), (4, .int x4), (5, .int x5), (6, .int x6), (7, .int x7)] [] 12 := by
  unfold gX8_owesSo_12 at hf
  refine x_iload B dX8_owesSo_12 7 rfl ?_
  refine x_bipush (v := 40) B dX8_owesSo_14 (by decide) ?_
  refine x_iload_n B dX8_owesSo_16 rfl 3 rfl ?_
  refine x_imul B dX8_owesSo_17 ?_
  refine x_iload B dX8_owesSo_18 4 rfl ?_
  refine x_iadd B dX8_owesSo_20 ?_
  refine x_iconst (v := 2) B dX8_owesSo_21 (by decide) ?_
  refine x_iload B dX8_owesSo_22 5 rfl ?_
  refine x_imul B dX8_owesSo_24 ?_
  refine x_iadd B dX8_owesSo_25 ?_
  refine x_icmp_ge (tgt := 72) B dX8_owesSo_26 (by decide) (fun h1 => ?_) (fun h1 => ?_)
  · replace hf := x_it h1 hf
    refine x_iload B dX8_owesSo_72 6 rfl ?_
    obtain ⟨h2, hf⟩ := x_gs hf
    obtain rfl := x_retP hf
    exact x_zret B hr h2 dX8_owesSo_74
  · replace hf := x_if h1 hf
    refine x_iload B dX8_owesSo_29 6 rfl ?_
    refine x_if_eq (tgt := 63) B dX8_owesSo_31 (by decide) (fun h3 => ?_) (fun h3 => ?_)
    · replace hf := x_it h3 hf
      refine x_iconst (v := 0) B dX8_owesSo_63 (by decide) ?_
      refine x_istore (lv' := [(6, .int 0), (0, .ref (ad 0)), (1, .int x1), (2, .int x2), (3, .int x3), (4, .int x4), (5, .int x5), (7, .int x7)]) B dX8_owesSo_64 (by decide) rfl ?_
      refine x_iinc (v := (x7 + 2)) (lv' := [(7, .int (x7 + 2)), (6, .int 0), (0, .ref (ad 0)), (1, .int x1), (2, .int x2), (3, .int x3), (4, .int x4), (5, .int x5)]) B dX8_owesSo_66 7 rfl rfl (by decide) rfl ?_
      refine x_goto (tgt := 12) B dX8_owesSo_69 (by decide) ?_
      refine x_sub [2, 3, 4, 5, 6, 7, 1, 0] rfl ?_
      exact hK12 _ _ hf
    · replace hf := x_if h3 hf
      refine x_aload_n B dX8_owesSo_34 rfl 0 rfl ?_
      refine x_iload_n B dX8_owesSo_35 rfl 1 rfl ?_
      refine x_iload_n B dX8_owesSo_36 rfl 2 rfl ?_
      refine x_aload_n B dX8_owesSo_37 rfl 0 rfl ?_
      refine x_get (v := .ref (ad 5)) (kc := 0) (index := 23) B G.1 iX8_owesSo_cX8 rfl (by decide) m_c0 6 (by decide) iX8_owesSo_0 rfl dX8_owesSo_38 ?_
      refine x_iload B dX8_owesSo_41 7 rfl ?_
      obtain ⟨h4, hf⟩ := x_gs hf
      refine x_iald (kc := 5) (t0 := 0) B G.1 (by decide) m_c5 rfl h4 dX8_owesSo_43 ?_
      obtain ⟨r6, e5, hf⟩ := x_ps hf
      refine x_callV (As := [.int x1, .int x2, .int (σ 5 x7.toNatClampNeg)]) (st := []) B G (mX8_owes (l := l) G.1.2.1  e5) (cwV 3 B.2.2.2.2.1 gX8_owesSo_X8_owes rfl rfl rfl hdX8_owes (x_rm_ok (by omega) (by decide))) (by decide) m_c0 rfl rfl rfl (Nat.le_of_ble_eq_true rfl) ⟨Nat.zero_le _, Nat.zero_le _⟩ dX8_owesSo_44 ?_
      refine x_aload_n B dX8_owesSo_47 rfl 0 rfl ?_
      refine x_get (v := .ref (ad 5)) (kc := 0) (index := 23) B G.1 iX8_owesSo_cX8 rfl (by decide) m_c0 6 (by decide) iX8_owesSo_0 rfl dX8_owesSo_48 ?_
      refine x_iload B dX8_owesSo_51 7 rfl ?_
      refine x_iconst (v := 1) B dX8_owesSo_53 (by decide) ?_
      refine x_iadd B dX8_owesSo_54 ?_
      obtain ⟨h7, hf⟩ := x_gs hf
      refine x_iald (kc := 5) (t0 := 0) B G.1 (by decide) m_c5 rfl h7 dX8_owesSo_55 ?_
      refine x_icmp_ne (tgt := 63) B dX8_owesSo_56 (by decide) (fun h8 => ?_) (fun h8 => ?_)
      · replace hf := x_if h8 hf
        refine x_iconst (v := 0) B dX8_owesSo_63 (by decide) ?_
        refine x_istore (lv' := [(6, .int 0), (0, .ref (ad 0)), (1, .int x1), (2, .int x2), (3, .int x3), (4, .int x4), (5, .int x5), (7, .int x7)]) B dX8_owesSo_64 (by decide) rfl ?_
        refine x_iinc (v := (x7 + 2)) (lv' := [(7, .int (x7 + 2)), (6, .int 0), (0, .ref (ad 0)), (1, .int x1), (2, .int x2), (3, .int x3), (4, .int x4), (5, .int x5)]) B dX8_owesSo_66 7 rfl rfl (by decide) rfl ?_
        refine x_goto (tgt := 12) B dX8_owesSo_69 (by decide) ?_
        refine x_sub [2, 3, 4, 5, 6, 7, 1, 0] rfl ?_
        exact hK12 _ _ hf
      · replace hf := x_it h8 hf
        refine x_iconst (v := 1) B dX8_owesSo_59 (by decide) ?_
        refine x_goto (tgt := 64) B dX8_owesSo_60 (by decide) ?_
        refine x_istore (lv' := [(6, .int 1), (0, .ref (ad 0)), (1, .int x1), (2, .int x2), (3, .int x3), (4, .int x4), (5, .int x5), (7, .int x7)]) B dX8_owesSo_64 (by decide) rfl ?_
        refine x_iinc (v := (x7 + 2)) (lv' := [(7, .int (x7 + 2)), (6, .int 1), (0, .ref (ad 0)), (1, .int x1), (2, .int x2), (3, .int x3), (4, .int x4), (5, .int x5)]) B dX8_owesSo_66 7 rfl rfl (by decide) rfl ?_
        refine x_goto (tgt := 12) B dX8_owesSo_69 (by decide) ?_
        refine x_sub [2, 3, 4, 5, 6, 7, 1, 0] rfl ?_
        exact hK12 _ _ hf
set_option maxRecDepth 100000 in
set_option maxHeartbeats 4000000 in
theorem kX8_owesSo_12 {σ : x_S} {x1 : Int32} {x2 : Int32} {x3 : Int32} {x4 : Int32} {x5 : Int32} {x6 : Int32} {x7 : Int32} (B : x_B p s m args meth c cX8_owesSo 8 wsX8_owesSo RX8) (G : x_H s D vwCl (s_tys cI cQ cC cZ) m_N ad (x_A m_N ad) m_St m_NW) (hr : meth.sig.returnType = (some .boolean)) (hf : bX8_owesSo_12  x1 x2 x3 x4 x5 x6 x7 σ = some r0) : x_J p l e (x_rm 3) s m args below meth c 0 0 (MQ below (x_Qi D vwCl m_N (m_C cI cZ ad) ad r0 σ) args s 0 0 (x_A m_N ad)) (x_A m_N ad) 8 (x_I D vwCl m_N (m_C cI cZ ad) ad σ) [(0, .ref (ad 0)), (1, .int x1), (2, .int x2), (3, .int x3), (4, .int x4), (5, .int x5), (6, .int x6), (7, .int x7)] [] 12 := by
  have key : ∀ (n : Nat) (x6 : Int32) (x7 : Int32), x_fx (α := Int32 → Int32 → Option Int32) (fun _ _ => none) (fun K => fun x6 x7 => gX8_owesSo_12  x1 x2 x3 x4 x5 K x6 x7 σ) n x6 x7 = some r0 → x_J p l e (x_rm 3) s m args below meth c 0 0 (MQ below (x_Qi D vwCl m_N (m_C cI cZ ad) ad r0 σ) args s 0 0 (x_A m_N ad)) (x_A m_N ad) 8 (x_I D vwCl m_N (m_C cI cZ ad) ad σ) [(0, .ref (ad 0)), (1, .int x1), (2, .int x2), (3, .int x3), (4, .int x4), (5, .int x5), (6, .int x6), (7, .int x7)] [] 12 := by
    intro n
    induction n with
    | zero => intro x6 x7 h; cases h
    | succ n ih => intro x6 x7 h; exact qX8_owesSo_12 B G hr  ih  h
  exact key x_F x6 x7 hf
set_option maxRecDepth 100000 in
set_option maxHeartbeats 4000000 in
theorem mX8_owesSo {σ : x_S} {a1 : Int32} {a2 : Int32} {a3 : Int32} {a4 : Int32} {a5 : Int32} (hdis : x_dis m_N ad) (hf : fX8_owesSo a1 a2 a3 a4 a5 σ = some r0) : x_NI l yX8_owesSo wsX8_owesSo 3 D vwCl (s_tys cI cQ cC cZ) m_N (m_C cI cZ ad) ad m_St m_NW [.ref (ad 0), .int a1, .int a2, .int a3, .int a4, .int a5] σ r0 σ := by
  refine x_met (cc := cX8_owesSo) (own := RX8) (maxL := 8) (ret := (some .boolean)) (by decide +kernel) rfl rfl (Nat.le_of_ble_eq_true rfl) hdis m_StOk m_NwOk (fun p e s m args below meth c B G hr => ?_)
  unfold fX8_owesSo at hf
  refine x_sub (lv' := [(0, .ref (ad 0)), (1, .int a1), (2, .int a2), (3, .int a3), (4, .int a4), (5, .int a5)]) [0, 1, 2, 3, 4, 5] rfl ?_
  refine x_iconst (v := 1) B dX8_owesSo_0 (by decide) ?_
  refine x_istore (lv' := [(6, .int 1), (0, .ref (ad 0)), (1, .int a1), (2, .int a2), (3, .int a3), (4, .int a4), (5, .int a5)]) B dX8_owesSo_1 (by decide) rfl ?_
  refine x_bipush (v := 40) B dX8_owesSo_3 (by decide) ?_
  refine x_iload_n B dX8_owesSo_5 rfl 4 rfl ?_
  refine x_imul B dX8_owesSo_6 ?_
  refine x_iload B dX8_owesSo_7 5 rfl ?_
  refine x_iadd B dX8_owesSo_9 ?_
  refine x_istore (lv' := [(7, .int ((40 * a3) + a4)), (6, .int 1), (0, .ref (ad 0)), (1, .int a1), (2, .int a2), (3, .int a3), (4, .int a4), (5, .int a5)]) B dX8_owesSo_10 (by decide) rfl ?_
  refine x_sub [2, 3, 4, 5, 6, 7, 1, 0] rfl ?_
  exact kX8_owesSo_12 B G hr hf
theorem iX8_isSeenSo_0 : Cond.fieldLink RX8 23 "SignDutyModel" "items" "[I" ∈ wsX8_isSeenSo := by decide +kernel
theorem iX8_isSeenSo_cX8 : ∀ w ∈ u_ws RX8 TX8 17, w ∈ wsX8_isSeenSo := by decide +kernel
set_option maxRecDepth 100000 in
set_option maxHeartbeats 4000000 in
theorem qX8_isSeenSo_11 {σ : x_S} {x1 : Int32} {x2 : Int32} {x3 : Int32} {x4 : Int32} {x5 : Int32} {x6 : Int32} {K11 : Int32 → Int32 → Option Int32} (B : x_B p s m args meth c cX8_isSeenSo 7 wsX8_isSeenSo RX8) (G : x_H s D vwCl (s_tys cI cQ cC cZ) m_N ad (x_A m_N ad) m_St m_NW) (hr : meth.sig.returnType = (some .boolean)) (hK11 : ∀ (x5 : Int32) (x6 : Int32), K11 x5 x6 = some r0 → x_J p l e (x_rm 1) s m args below meth c 0 0 (MQ below (x_Qi D vwCl m_N (m_C cI cZ ad) ad r0 σ) args s 0 0 (x_A m_N ad)) (x_A m_N ad) 7 (x_I D vwCl m_N (m_C cI cZ ad) ad σ) [(0, .ref (ad 0)), (1, .int x1), (2, .int x2), (3, .int x3), (4, .int x4), (5, .int x5), (6, .int x6)] [] 11) (hf : gX8_isSeenSo_11  x1 x2 x3 x4 K11 x5 x6 σ = some r0) : x_J p l e (x_rm 1) s m args below meth c 0 0 (MQ below (x_Qi D vwCl m_N (m_C cI cZ ad) ad r0 σ) args s 0 0 (x_A m_N ad)) (x_A m_N ad) 7 (x_I D vwCl m_N (m_C cI cZ ad) ad σ) [(0, .ref (ad 0)), (1, .int x1), (2, .int x2), (3, .int x3), (4, .int x4), (5, .int x5), (6, .int x6)] [] 11 := by
  unfold gX8_isSeenSo_11 at hf
  refine x_iload B dX8_isSeenSo_11 6 rfl ?_
  refine x_bipush (v := 40) B dX8_isSeenSo_13 (by decide) ?_
  refine x_iload_n B dX8_isSeenSo_15 rfl 2 rfl ?_
  refine x_imul B dX8_isSeenSo_16 ?_
  refine x_iload_n B dX8_isSeenSo_17 rfl 3 rfl ?_
  refine x_iadd B dX8_isSeenSo_18 ?_
  refine x_iconst (v := 2) B dX8_isSeenSo_19 (by decide) ?_
  refine x_iload B dX8_isSeenSo_20 4 rfl ?_
  refine x_imul B dX8_isSeenSo_22 ?_
  refine x_iadd B dX8_isSeenSo_23 ?_
  refine x_icmp_ge (tgt := 60) B dX8_isSeenSo_24 (by decide) (fun h1 => ?_) (fun h1 => ?_)
  · replace hf := x_it h1 hf
    refine x_iload B dX8_isSeenSo_60 5 rfl ?_
    obtain ⟨h2, hf⟩ := x_gs hf
    obtain rfl := x_retP hf
    exact x_zret B hr h2 dX8_isSeenSo_62
  · replace hf := x_if h1 hf
    refine x_iload B dX8_isSeenSo_27 5 rfl ?_
    refine x_if_eq (tgt := 51) B dX8_isSeenSo_29 (by decide) (fun h3 => ?_) (fun h3 => ?_)
    · replace hf := x_it h3 hf
      refine x_iconst (v := 0) B dX8_isSeenSo_51 (by decide) ?_
      refine x_istore (lv' := [(5, .int 0), (0, .ref (ad 0)), (1, .int x1), (2, .int x2), (3, .int x3), (4, .int x4), (6, .int x6)]) B dX8_isSeenSo_52 (by decide) rfl ?_
      refine x_iinc (v := (x6 + 2)) (lv' := [(6, .int (x6 + 2)), (5, .int 0), (0, .ref (ad 0)), (1, .int x1), (2, .int x2), (3, .int x3), (4, .int x4)]) B dX8_isSeenSo_54 6 rfl rfl (by decide) rfl ?_
      refine x_goto (tgt := 11) B dX8_isSeenSo_57 (by decide) ?_
      refine x_sub [2, 3, 4, 5, 6, 1, 0] rfl ?_
      exact hK11 _ _ hf
    · replace hf := x_if h3 hf
      refine x_aload_n B dX8_isSeenSo_32 rfl 0 rfl ?_
      refine x_iload_n B dX8_isSeenSo_33 rfl 1 rfl ?_
      refine x_aload_n B dX8_isSeenSo_34 rfl 0 rfl ?_
      refine x_get (v := .ref (ad 5)) (kc := 0) (index := 23) B G.1 iX8_isSeenSo_cX8 rfl (by decide) m_c0 6 (by decide) iX8_isSeenSo_0 rfl dX8_isSeenSo_35 ?_
      refine x_iload B dX8_isSeenSo_38 6 rfl ?_
      obtain ⟨h4, hf⟩ := x_gs hf
      refine x_iald (kc := 5) (t0 := 0) B G.1 (by decide) m_c5 rfl h4 dX8_isSeenSo_40 ?_
      obtain ⟨r6, e5, hf⟩ := x_ps hf
      refine x_callV (As := [.int x1, .int (σ 5 x6.toNatClampNeg)]) (st := []) B G (mX8_isSeen (l := l) G.1.2.1  e5) (cwV 2 B.2.2.2.2.1 gX8_isSeenSo_X8_isSeen rfl rfl rfl hdX8_isSeen (x_rm_ok (by omega) (by decide))) (by decide) m_c0 rfl rfl rfl (Nat.le_of_ble_eq_true rfl) ⟨Nat.zero_le _, Nat.zero_le _⟩ dX8_isSeenSo_41 ?_
      refine x_if_eq (tgt := 51) B dX8_isSeenSo_44 (by decide) (fun h7 => ?_) (fun h7 => ?_)
      · replace hf := x_it h7 hf
        refine x_iconst (v := 0) B dX8_isSeenSo_51 (by decide) ?_
        refine x_istore (lv' := [(5, .int 0), (0, .ref (ad 0)), (1, .int x1), (2, .int x2), (3, .int x3), (4, .int x4), (6, .int x6)]) B dX8_isSeenSo_52 (by decide) rfl ?_
        refine x_iinc (v := (x6 + 2)) (lv' := [(6, .int (x6 + 2)), (5, .int 0), (0, .ref (ad 0)), (1, .int x1), (2, .int x2), (3, .int x3), (4, .int x4)]) B dX8_isSeenSo_54 6 rfl rfl (by decide) rfl ?_
        refine x_goto (tgt := 11) B dX8_isSeenSo_57 (by decide) ?_
        refine x_sub [2, 3, 4, 5, 6, 1, 0] rfl ?_
        exact hK11 _ _ hf
      · replace hf := x_if h7 hf
        refine x_iconst (v := 1) B dX8_isSeenSo_47 (by decide) ?_
        refine x_goto (tgt := 52) B dX8_isSeenSo_48 (by decide) ?_
        refine x_istore (lv' := [(5, .int 1), (0, .ref (ad 0)), (1, .int x1), (2, .int x2), (3, .int x3), (4, .int x4), (6, .int x6)]) B dX8_isSeenSo_52 (by decide) rfl ?_
        refine x_iinc (v := (x6 + 2)) (lv' := [(6, .int (x6 + 2)), (5, .int 1), (0, .ref (ad 0)), (1, .int x1), (2, .int x2), (3, .int x3), (4, .int x4)]) B dX8_isSeenSo_54 6 rfl rfl (by decide) rfl ?_
        refine x_goto (tgt := 11) B dX8_isSeenSo_57 (by decide) ?_
        refine x_sub [2, 3, 4, 5, 6, 1, 0] rfl ?_
        exact hK11 _ _ hf
set_option maxRecDepth 100000 in
set_option maxHeartbeats 4000000 in
theorem kX8_isSeenSo_11 {σ : x_S} {x1 : Int32} {x2 : Int32} {x3 : Int32} {x4 : Int32} {x5 : Int32} {x6 : Int32} (B : x_B p s m args meth c cX8_isSeenSo 7 wsX8_isSeenSo RX8) (G : x_H s D vwCl (s_tys cI cQ cC cZ) m_N ad (x_A m_N ad) m_St m_NW) (hr : meth.sig.returnType = (some .boolean)) (hf : bX8_isSeenSo_11  x1 x2 x3 x4 x5 x6 σ = some r0) : x_J p l e (x_rm 1) s m args below meth c 0 0 (MQ below (x_Qi D vwCl m_N (m_C cI cZ ad) ad r0 σ) args s 0 0 (x_A m_N ad)) (x_A m_N ad) 7 (x_I D vwCl m_N (m_C cI cZ ad) ad σ) [(0, .ref (ad 0)), (1, .int x1), (2, .int x2), (3, .int x3), (4, .int x4), (5, .int x5), (6, .int x6)] [] 11 := by
  have key : ∀ (n : Nat) (x5 : Int32) (x6 : Int32), x_fx (α := Int32 → Int32 → Option Int32) (fun _ _ => none) (fun K => fun x5 x6 => gX8_isSeenSo_11  x1 x2 x3 x4 K x5 x6 σ) n x5 x6 = some r0 → x_J p l e (x_rm 1) s m args below meth c 0 0 (MQ below (x_Qi D vwCl m_N (m_C cI cZ ad) ad r0 σ) args s 0 0 (x_A m_N ad)) (x_A m_N ad) 7 (x_I D vwCl m_N (m_C cI cZ ad) ad σ) [(0, .ref (ad 0)), (1, .int x1), (2, .int x2), (3, .int x3), (4, .int x4), (5, .int x5), (6, .int x6)] [] 11 := by
    intro n
    induction n with
    | zero => intro x5 x6 h; cases h
    | succ n ih => intro x5 x6 h; exact qX8_isSeenSo_11 B G hr  ih  h
  exact key x_F x5 x6 hf
set_option maxRecDepth 100000 in
set_option maxHeartbeats 4000000 in
theorem mX8_isSeenSo {σ : x_S} {a1 : Int32} {a2 : Int32} {a3 : Int32} {a4 : Int32} (hdis : x_dis m_N ad) (hf : fX8_isSeenSo a1 a2 a3 a4 σ = some r0) : x_NI l yX8_isSeenSo wsX8_isSeenSo 1 D vwCl (s_tys cI cQ cC cZ) m_N (m_C cI cZ ad) ad m_St m_NW [.ref (ad 0), .int a1, .int a2, .int a3, .int a4] σ r0 σ := by
  refine x_met (cc := cX8_isSeenSo) (own := RX8) (maxL := 7) (ret := (some .boolean)) (by decide +kernel) rfl rfl (Nat.le_of_ble_eq_true rfl) hdis m_StOk m_NwOk (fun p e s m args below meth c B G hr => ?_)
  unfold fX8_isSeenSo at hf
  refine x_sub (lv' := [(0, .ref (ad 0)), (1, .int a1), (2, .int a2), (3, .int a3), (4, .int a4)]) [0, 1, 2, 3, 4] rfl ?_
  refine x_iconst (v := 1) B dX8_isSeenSo_0 (by decide) ?_
  refine x_istore (lv' := [(5, .int 1), (0, .ref (ad 0)), (1, .int a1), (2, .int a2), (3, .int a3), (4, .int a4)]) B dX8_isSeenSo_1 (by decide) rfl ?_
  refine x_bipush (v := 40) B dX8_isSeenSo_3 (by decide) ?_
  refine x_iload_n B dX8_isSeenSo_5 rfl 3 rfl ?_
  refine x_imul B dX8_isSeenSo_6 ?_
  refine x_iload_n B dX8_isSeenSo_7 rfl 4 rfl ?_
  refine x_iadd B dX8_isSeenSo_8 ?_
  refine x_istore (lv' := [(6, .int ((40 * a2) + a3)), (5, .int 1), (0, .ref (ad 0)), (1, .int a1), (2, .int a2), (3, .int a3), (4, .int a4)]) B dX8_isSeenSo_9 (by decide) rfl ?_
  refine x_sub [2, 3, 4, 5, 6, 1, 0] rfl ?_
  exact kX8_isSeenSo_11 B G hr hf
theorem iX8_thread_0 : Cond.fieldLink RX8 127 "SignDutyModel" "isCity" "Z" ∈ wsX8_thread := by decide +kernel
theorem iX8_thread_cX8 : ∀ w ∈ u_ws RX8 TX8 17, w ∈ wsX8_thread := by decide +kernel
theorem iX8_thread_2 : Cond.constant RX8 52 (-1000001) ∈ wsX8_thread := by decide +kernel
theorem iX8_thread_3 : Cond.constantLong RX8 204 12 ∈ wsX8_thread := by decide +kernel
theorem iX8_thread_4 : Cond.fieldLink RX8 7 "SignDutyModel" "row" "[I" ∈ wsX8_thread := by decide +kernel
theorem iX8_thread_5 : Cond.constant RX8 134 (-1000002) ∈ wsX8_thread := by decide +kernel
set_option maxRecDepth 100000 in
set_option maxHeartbeats 4000000 in
theorem qX8_thread_55 {σ : x_S} {x1 : Int32} {x2 : Int32} {x3 : Int32} {x5 : Int32} {x6 : Int32} {K55 : Int32 → Int32 → x_S → Option (Int32 × x_S)} (B : x_B p s m args meth c cX8_thread 7 wsX8_thread RX8) (G : x_H s D vwCl (s_tys cI cQ cC cZ) m_N ad (x_A m_N ad) m_St m_NW) (hr : meth.sig.returnType = (some .int)) (hK55 : ∀ (x5 : Int32) (x6 : Int32) (σ : x_S), K55 x5 x6 σ = some (r0, σ0) → x_J p l e (x_rm 4) s m args below meth c 0 0 (MQ below (x_Qi D vwCl m_N (m_C cI cZ ad) ad r0 σ0) args s 0 0 (x_A m_N ad)) (x_A m_N ad) 7 (x_I D vwCl m_N (m_C cI cZ ad) ad σ) [(0, .ref (ad 0)), (1, .int x1), (2, .int x2), (3, .int x3), (5, .int x5), (6, .int x6)] [] 55) (hf : gX8_thread_55  x1 x2 x3 K55 x5 x6 σ = some (r0, σ0)) : x_J p l e (x_rm 4) s m args below meth c 0 0 (MQ below (x_Qi D vwCl m_N (m_C cI cZ ad) ad r0 σ0) args s 0 0 (x_A m_N ad)) (x_A m_N ad) 7 (x_I D vwCl m_N (m_C cI cZ ad) ad σ) [(0, .ref (ad 0)), (1, .int x1), (2, .int x2), (3, .int x3), (5, .int x5), (6, .int x6)] [] 55 := by
  unfold gX8_thread_55 at hf
  refine x_iload B dX8_thread_55 5 rfl ?_
  refine x_aload_n B dX8_thread_57 rfl 0 rfl ?_
  refine x_get (v := .ref (ad 1)) (kc := 0) (index := 7) B G.1 iX8_thread_cX8 rfl (by decide) m_c0 0 (by decide) iX8_thread_4 rfl dX8_thread_58 ?_
  refine x_iconst (v := 2) B dX8_thread_61 (by decide) ?_
  refine x_iald (kc := 1) (t0 := 0) B G.1 (by decide) m_c1 rfl (by decide) dX8_thread_62 ?_
  refine x_icmp_ge (tgt := 127) B dX8_thread_63 (by decide) (fun h2 => ?_) (fun h2 => ?_)
  · replace hf := x_it h2 hf
    refine x_aload_n B dX8_thread_127 rfl 0 rfl ?_
    refine x_iload B dX8_thread_128 4 rfl ?_
    obtain ⟨r4, σ5, e3, hf⟩ := x_bs hf
    refine x_callV (As := [.int x5]) (st := []) B G (mX8_well (l := l) G.1.2.1  e3) (cwV 1 B.2.2.2.2.1 gX8_thread_X8_well rfl rfl rfl hdX8_well (x_rm_ok (by omega) (by decide))) (by decide) m_c0 rfl rfl rfl (Nat.le_of_ble_eq_true rfl) ⟨Nat.zero_le _, Nat.zero_le _⟩ dX8_thread_130 ?_
    obtain ⟨rfl, rfl⟩ := x_retI hf
    exact x_iret B hr dX8_thread_133
  · replace hf := x_if h2 hf
    refine x_iload B dX8_thread_66 4 rfl ?_
    refine x_aload_n B dX8_thread_68 rfl 0 rfl ?_
    refine x_iload B dX8_thread_69 5 rfl ?_
    refine x_iload_n B dX8_thread_71 rfl 1 rfl ?_
    refine x_iload_n B dX8_thread_72 rfl 2 rfl ?_
    refine x_iload_n B dX8_thread_73 rfl 3 rfl ?_
    obtain ⟨r7, e6, hf⟩ := x_ps hf
    refine x_callV (As := [.int x6, .int x1, .int x2, .int x3]) (st := [.int x5]) B G (mX8_isSeenSo (l := l) G.1.2.1  e6) (cwV 4 B.2.2.2.2.1 gX8_thread_X8_isSeenSo rfl rfl rfl hdX8_isSeenSo (x_rm_ok (by omega) (by decide))) (by decide) m_c0 rfl rfl rfl (Nat.le_of_ble_eq_true rfl) ⟨Nat.zero_le _, Nat.zero_le _⟩ dX8_thread_74 ?_
    refine x_if_eq (tgt := 117) B dX8_thread_77 (by decide) (fun h8 => ?_) (fun h8 => ?_)
    · replace hf := x_it h8 hf
      refine x_iconst (v := 0) B dX8_thread_117 (by decide) ?_
      refine x_ior B dX8_thread_118 ?_
      refine x_istore (lv' := [(5, .int (x5 ||| 0)), (0, .ref (ad 0)), (1, .int x1), (2, .int x2), (3, .int x3), (6, .int x6)]) B dX8_thread_119 (by decide) rfl ?_
      refine x_iinc (v := (x6 + 1)) (lv' := [(6, .int (x6 + 1)), (5, .int (x5 ||| 0)), (0, .ref (ad 0)), (1, .int x1), (2, .int x2), (3, .int x3)]) B dX8_thread_121 5 rfl rfl (by decide) rfl ?_
      refine x_goto (tgt := 55) B dX8_thread_124 (by decide) ?_
      refine x_sub [2, 3, 4, 5, 1, 0] rfl ?_
      exact hK55 _ _ _ hf
    · replace hf := x_if h8 hf
      refine x_aload_n B dX8_thread_80 rfl 0 rfl ?_
      refine x_aload_n B dX8_thread_81 rfl 0 rfl ?_
      refine x_get (v := .ref (ad 1)) (kc := 0) (index := 7) B G.1 iX8_thread_cX8 rfl (by decide) m_c0 0 (by decide) iX8_thread_4 rfl dX8_thread_82 ?_
      refine x_bipush (v := 19) B dX8_thread_85 (by decide) ?_
      refine x_iload B dX8_thread_87 5 rfl ?_
      refine x_iadd B dX8_thread_89 ?_
      obtain ⟨h9, hf⟩ := x_gs hf
      refine x_iald (kc := 1) (t0 := 0) B G.1 (by decide) m_c1 rfl h9 dX8_thread_90 ?_
      refine x_aload_n B dX8_thread_91 rfl 0 rfl ?_
      refine x_get (v := .ref (ad 1)) (kc := 0) (index := 7) B G.1 iX8_thread_cX8 rfl (by decide) m_c0 0 (by decide) iX8_thread_4 rfl dX8_thread_92 ?_
      refine x_bipush (v := 25) B dX8_thread_95 (by decide) ?_
      refine x_iload B dX8_thread_97 5 rfl ?_
      refine x_iadd B dX8_thread_99 ?_
      obtain ⟨h10, hf⟩ := x_gs hf
      refine x_iald (kc := 1) (t0 := 0) B G.1 (by decide) m_c1 rfl h10 dX8_thread_100 ?_
      refine x_iload_n B dX8_thread_101 rfl 1 rfl ?_
      refine x_iload_n B dX8_thread_102 rfl 2 rfl ?_
      refine x_iload_n B dX8_thread_103 rfl 3 rfl ?_
      obtain ⟨r12, e11, hf⟩ := x_ps hf
      refine x_callV (As := [.int (σ 1 (19 + x6).toNatClampNeg), .int (σ 1 (25 + x6).toNatClampNeg), .int x1, .int x2, .int x3]) (st := [.int x5]) B G (mX8_owesSo (l := l) G.1.2.1  e11) (cwV 5 B.2.2.2.2.1 gX8_thread_X8_owesSo rfl rfl rfl hdX8_owesSo (x_rm_ok (by omega) (by decide))) (by decide) m_c0 rfl rfl rfl (Nat.le_of_ble_eq_true rfl) ⟨Nat.zero_le _, Nat.zero_le _⟩ dX8_thread_104 ?_
      refine x_if_eq (tgt := 117) B dX8_thread_107 (by decide) (fun h13 => ?_) (fun h13 => ?_)
      · replace hf := x_it h13 hf
        refine x_iconst (v := 0) B dX8_thread_117 (by decide) ?_
        refine x_ior B dX8_thread_118 ?_
        refine x_istore (lv' := [(5, .int (x5 ||| 0)), (0, .ref (ad 0)), (1, .int x1), (2, .int x2), (3, .int x3), (6, .int x6)]) B dX8_thread_119 (by decide) rfl ?_
        refine x_iinc (v := (x6 + 1)) (lv' := [(6, .int (x6 + 1)), (5, .int (x5 ||| 0)), (0, .ref (ad 0)), (1, .int x1), (2, .int x2), (3, .int x3)]) B dX8_thread_121 5 rfl rfl (by decide) rfl ?_
        refine x_goto (tgt := 55) B dX8_thread_124 (by decide) ?_
        refine x_sub [2, 3, 4, 5, 1, 0] rfl ?_
        exact hK55 _ _ _ hf
      · replace hf := x_if h13 hf
        refine x_iconst (v := 1) B dX8_thread_110 (by decide) ?_
        refine x_iload B dX8_thread_111 5 rfl ?_
        refine x_ishl B dX8_thread_113 ?_
        refine x_goto (tgt := 118) B dX8_thread_114 (by decide) ?_
        refine x_ior B dX8_thread_118 ?_
        refine x_istore (lv' := [(5, .int (x5 ||| (1 <<< (x6 &&& 31)))), (0, .ref (ad 0)), (1, .int x1), (2, .int x2), (3, .int x3), (6, .int x6)]) B dX8_thread_119 (by decide) rfl ?_
        refine x_iinc (v := (x6 + 1)) (lv' := [(6, .int (x6 + 1)), (5, .int (x5 ||| (1 <<< (x6 &&& 31)))), (0, .ref (ad 0)), (1, .int x1), (2, .int x2), (3, .int x3)]) B dX8_thread_121 5 rfl rfl (by decide) rfl ?_
        refine x_goto (tgt := 55) B dX8_thread_124 (by decide) ?_
        refine x_sub [2, 3, 4, 5, 1, 0] rfl ?_
        exact hK55 _ _ _ hf
set_option maxRecDepth 100000 in
set_option maxHeartbeats 4000000 in
theorem kX8_thread_55 {σ : x_S} {x1 : Int32} {x2 : Int32} {x3 : Int32} {x5 : Int32} {x6 : Int32} (B : x_B p s m args meth c cX8_thread 7 wsX8_thread RX8) (G : x_H s D vwCl (s_tys cI cQ cC cZ) m_N ad (x_A m_N ad) m_St m_NW) (hr : meth.sig.returnType = (some .int)) (hf : bX8_thread_55  x1 x2 x3 x5 x6 σ = some (r0, σ0)) : x_J p l e (x_rm 4) s m args below meth c 0 0 (MQ below (x_Qi D vwCl m_N (m_C cI cZ ad) ad r0 σ0) args s 0 0 (x_A m_N ad)) (x_A m_N ad) 7 (x_I D vwCl m_N (m_C cI cZ ad) ad σ) [(0, .ref (ad 0)), (1, .int x1), (2, .int x2), (3, .int x3), (5, .int x5), (6, .int x6)] [] 55 := by
  have key : ∀ (n : Nat) (x5 : Int32) (x6 : Int32) (σ : x_S), x_fx (α := Int32 → Int32 → x_S → Option (Int32 × x_S)) (fun _ _ _ => none) (fun K => fun x5 x6 σ => gX8_thread_55  x1 x2 x3 K x5 x6 σ) n x5 x6 σ = some (r0, σ0) → x_J p l e (x_rm 4) s m args below meth c 0 0 (MQ below (x_Qi D vwCl m_N (m_C cI cZ ad) ad r0 σ0) args s 0 0 (x_A m_N ad)) (x_A m_N ad) 7 (x_I D vwCl m_N (m_C cI cZ ad) ad σ) [(0, .ref (ad 0)), (1, .int x1), (2, .int x2), (3, .int x3), (5, .int x5), (6, .int x6)] [] 55 := by
    intro n
    induction n with
    | zero => intro x5 x6 σ h; cases h
    | succ n ih => intro x5 x6 σ h; exact qX8_thread_55 B G hr  ih  h
  exact key x_F x5 x6 σ hf
set_option maxRecDepth 100000 in
set_option maxHeartbeats 4000000 in
theorem mX8_thread {σ : x_S} {a1 : Int32} {a2 : Int32} {a3 : Int32} (hdis : x_dis m_N ad) (hf : fX8_thread a1 a2 a3 σ = some (r0, σ0)) : x_NI l yX8_thread wsX8_thread 4 D vwCl (s_tys cI cQ cC cZ) m_N (m_C cI cZ ad) ad m_St m_NW [.ref (ad 0), .int a1, .int a2, .int a3] σ r0 σ0 := by
  refine x_met (cc := cX8_thread) (own := RX8) (maxL := 7) (ret := (some .int)) (by decide +kernel) rfl rfl (Nat.le_of_ble_eq_true rfl) hdis m_StOk m_NwOk (fun p e s m args below meth c B G hr => ?_)
  unfold fX8_thread at hf
  refine x_sub (lv' := [(0, .ref (ad 0)), (1, .int a1), (2, .int a2), (3, .int a3)]) [0, 1, 2, 3] rfl ?_
  refine x_aload_n B dX8_thread_0 rfl 0 rfl ?_
  refine x_get (v := .int (σ 0 1)) (kc := 0) (index := 127) B G.1 iX8_thread_cX8 rfl (by decide) m_c0 1 (by decide) iX8_thread_0 rfl dX8_thread_1 ?_
  refine x_if_ne (tgt := 10) B dX8_thread_4 (by decide) (fun h1 => ?_) (fun h1 => ?_)
  · replace hf := x_if h1 hf
    refine x_iload_n B dX8_thread_10 rfl 1 rfl ?_
    obtain ⟨r3, e2, hf⟩ := x_ps hf
    refine x_callS (As := [.int a1]) (st := []) B G (mX8_isRow (l := l) G.1.2.1  e2) (va_cwS 1 B.2.2.2.2.1 gX8_thread_X8_isRow rfl rfl rfl hdX8_isRow (x_rm_ok (by omega) (by decide))) rfl rfl (Nat.le_of_ble_eq_true rfl) ⟨Nat.zero_le _, Nat.zero_le _⟩ dX8_thread_11 ?_
    refine x_if_eq (tgt := 29) B dX8_thread_14 (by decide) (fun h4 => ?_) (fun h4 => ?_)
    · replace hf := x_it h4 hf
      refine x_ldc (v := (-1000001)) B iX8_thread_2 dX8_thread_29 ?_
      obtain ⟨rfl, rfl⟩ := x_retI hf
      exact x_iret B hr dX8_thread_31
    · replace hf := x_if h4 hf
      refine x_iload_n B dX8_thread_17 rfl 3 rfl ?_
      refine x_i2l B dX8_thread_18 ?_
      refine x_lconst (v := 1) B dX8_thread_19 (by decide) ?_
      refine x_ldc2 (v := 12) B iX8_thread_3 dX8_thread_20 ?_
      obtain ⟨r6, e5, hf⟩ := x_ps hf
      refine x_callS (As := [.long a3.toInt64, .long 1, .long 12]) (st := []) B G (mX8_in (l := l) G.1.2.1  e5) (va_cwS 3 B.2.2.2.2.1 gX8_thread_X8_in rfl rfl rfl hdX8_in (x_rm_ok (by omega) (by decide))) rfl rfl (Nat.le_of_ble_eq_true rfl) ⟨Nat.zero_le _, Nat.zero_le _⟩ dX8_thread_23 ?_
      refine x_if_ne (tgt := 32) B dX8_thread_26 (by decide) (fun h7 => ?_) (fun h7 => ?_)
      · replace hf := x_if h7 hf
        refine x_aload_n B dX8_thread_32 rfl 0 rfl ?_
        refine x_iload_n B dX8_thread_33 rfl 1 rfl ?_
        refine x_iload_n B dX8_thread_34 rfl 2 rfl ?_
        refine x_iload_n B dX8_thread_35 rfl 3 rfl ?_
        obtain ⟨r9, σ10, e8, hf⟩ := x_bs hf
        refine x_callV (As := [.int a1, .int a2, .int a3]) (st := []) B G (mX8_noPairs (l := l) G.1.2.1  e8) (cwV 3 B.2.2.2.2.1 gX8_thread_X8_noPairs rfl rfl rfl hdX8_noPairs (x_rm_ok (by omega) (by decide))) (by decide) m_c0 rfl rfl rfl (Nat.le_of_ble_eq_true rfl) ⟨Nat.zero_le _, Nat.zero_le _⟩ dX8_thread_36 ?_
        refine x_istore (lv' := [(4, .int r9), (0, .ref (ad 0)), (1, .int a1), (2, .int a2), (3, .int a3)]) B dX8_thread_39 (by decide) rfl ?_
        refine x_iload B dX8_thread_41 0 rfl ?_
        refine x_if_eq (tgt := 49) B dX8_thread_43 (by decide) (fun h11 => ?_) (fun h11 => ?_)
        · replace hf := x_it h11 hf
          refine x_iconst (v := 0) B dX8_thread_49 (by decide) ?_
          refine x_istore (lv' := [(5, .int 0), (4, .int r9), (0, .ref (ad 0)), (1, .int a1), (2, .int a2), (3, .int a3)]) B dX8_thread_50 (by decide) rfl ?_
          refine x_iconst (v := 0) B dX8_thread_52 (by decide) ?_
          refine x_istore (lv' := [(6, .int 0), (5, .int 0), (4, .int r9), (0, .ref (ad 0)), (1, .int a1), (2, .int a2), (3, .int a3)]) B dX8_thread_53 (by decide) rfl ?_
          refine x_sub [3, 4, 5, 6, 1, 0] rfl ?_
          exact kX8_thread_55 B G hr hf
        · replace hf := x_if h11 hf
          refine x_iload B dX8_thread_46 0 rfl ?_
          obtain ⟨rfl, rfl⟩ := x_retI hf
          exact x_iret B hr dX8_thread_48
      · replace hf := x_it h7 hf
        refine x_ldc (v := (-1000001)) B iX8_thread_2 dX8_thread_29 ?_
        obtain ⟨rfl, rfl⟩ := x_retI hf
        exact x_iret B hr dX8_thread_31
  · replace hf := x_it h1 hf
    refine x_ldc (v := (-1000002)) B iX8_thread_5 dX8_thread_7 ?_
    obtain ⟨rfl, rfl⟩ := x_retI hf
    exact x_iret B hr dX8_thread_9
theorem iX8_inches_0 : Cond.constant RX8 52 (-1000001) ∈ wsX8_inches := by decide +kernel
theorem iX8_inches_1 : Cond.constantLong RX8 204 12 ∈ wsX8_inches := by decide +kernel
theorem iX8_inches_2 : Cond.fieldLink RX8 7 "SignDutyModel" "row" "[I" ∈ wsX8_inches := by decide +kernel
theorem iX8_inches_cX8 : ∀ w ∈ u_ws RX8 TX8 17, w ∈ wsX8_inches := by decide +kernel
set_option maxRecDepth 100000 in
set_option maxHeartbeats 4000000 in
theorem qX8_inches_55 {σ : x_S} {x1 : Int32} {x2 : Int32} {x3 : Int32} {x4 : Int32} {x6 : Int32} {x7 : Int32} {K55 : Int32 → Int32 → x_S → Option (Int32 × x_S)} (B : x_B p s m args meth c cX8_inches 8 wsX8_inches RX8) (G : x_H s D vwCl (s_tys cI cQ cC cZ) m_N ad (x_A m_N ad) m_St m_NW) (hr : meth.sig.returnType = (some .int)) (hK55 : ∀ (x6 : Int32) (x7 : Int32) (σ : x_S), K55 x6 x7 σ = some (r0, σ0) → x_J p l e (x_rm 4) s m args below meth c 0 0 (MQ below (x_Qi D vwCl m_N (m_C cI cZ ad) ad r0 σ0) args s 0 0 (x_A m_N ad)) (x_A m_N ad) 8 (x_I D vwCl m_N (m_C cI cZ ad) ad σ) [(0, .ref (ad 0)), (1, .int x1), (2, .int x2), (3, .int x3), (4, .int x4), (6, .int x6), (7, .int x7)] [] 55) (hf : gX8_inches_55  x1 x2 x3 x4 K55 x6 x7 σ = some (r0, σ0)) : x_J p l e (x_rm 4) s m args below meth c 0 0 (MQ below (x_Qi D vwCl m_N (m_C cI cZ ad) ad r0 σ0) args s 0 0 (x_A m_N ad)) (x_A m_N ad) 8 (x_I D vwCl m_N (m_C cI cZ ad) ad σ) [(0, .ref (ad 0)), (1, .int x1), (2, .int x2), (3, .int x3), (4, .int x4), (6, .int x6), (7, .int x7)] [] 55 := by
  unfold gX8_inches_55 at hf
  refine x_iload B dX8_inches_55 6 rfl ?_
  refine x_bipush (v := 30) B dX8_inches_57 (by decide) ?_
  refine x_icmp_ge (tgt := 105) B dX8_inches_59 (by decide) (fun h1 => ?_) (fun h1 => ?_)
  · replace hf := x_it h1 hf
    refine x_aload_n B dX8_inches_105 rfl 0 rfl ?_
    refine x_iload B dX8_inches_106 5 rfl ?_
    obtain ⟨r3, σ4, e2, hf⟩ := x_bs hf
    refine x_callV (As := [.int x6]) (st := []) B G (mX8_well (l := l) G.1.2.1  e2) (cwV 1 B.2.2.2.2.1 gX8_inches_X8_well rfl rfl rfl hdX8_well (x_rm_ok (by omega) (by decide))) (by decide) m_c0 rfl rfl rfl (Nat.le_of_ble_eq_true rfl) ⟨Nat.zero_le _, Nat.zero_le _⟩ dX8_inches_108 ?_
    obtain ⟨rfl, rfl⟩ := x_retI hf
    exact x_iret B hr dX8_inches_111
  · replace hf := x_if h1 hf
    refine x_iload B dX8_inches_62 5 rfl ?_
    refine x_aload_n B dX8_inches_64 rfl 0 rfl ?_
    refine x_aload_n B dX8_inches_65 rfl 0 rfl ?_
    refine x_get (v := .ref (ad 1)) (kc := 0) (index := 7) B G.1 iX8_inches_cX8 rfl (by decide) m_c0 0 (by decide) iX8_inches_2 rfl dX8_inches_66 ?_
    refine x_bipush (v := 19) B dX8_inches_69 (by decide) ?_
    refine x_iload_n B dX8_inches_71 rfl 1 rfl ?_
    refine x_iadd B dX8_inches_72 ?_
    obtain ⟨h5, hf⟩ := x_gs hf
    refine x_iald (kc := 1) (t0 := 0) B G.1 (by decide) m_c1 rfl h5 dX8_inches_73 ?_
    refine x_iload B dX8_inches_74 6 rfl ?_
    refine x_iconst (v := 1) B dX8_inches_76 (by decide) ?_
    refine x_iadd B dX8_inches_77 ?_
    refine x_iload_n B dX8_inches_78 rfl 2 rfl ?_
    refine x_iload_n B dX8_inches_79 rfl 3 rfl ?_
    refine x_iload B dX8_inches_80 4 rfl ?_
    obtain ⟨r7, e6, hf⟩ := x_ps hf
    refine x_callV (As := [.int (σ 1 (19 + x1).toNatClampNeg), .int (x7 + 1), .int x2, .int x3, .int x4]) (st := [.int x6]) B G (mX8_owesSo (l := l) G.1.2.1  e6) (cwV 5 B.2.2.2.2.1 gX8_inches_X8_owesSo rfl rfl rfl hdX8_owesSo (x_rm_ok (by omega) (by decide))) (by decide) m_c0 rfl rfl rfl (Nat.le_of_ble_eq_true rfl) ⟨Nat.zero_le _, Nat.zero_le _⟩ dX8_inches_82 ?_
    refine x_if_eq (tgt := 95) B dX8_inches_85 (by decide) (fun h8 => ?_) (fun h8 => ?_)
    · replace hf := x_it h8 hf
      refine x_iconst (v := 0) B dX8_inches_95 (by decide) ?_
      refine x_ior B dX8_inches_96 ?_
      refine x_istore (lv' := [(6, .int (x6 ||| 0)), (0, .ref (ad 0)), (1, .int x1), (2, .int x2), (3, .int x3), (4, .int x4), (7, .int x7)]) B dX8_inches_97 (by decide) rfl ?_
      refine x_iinc (v := (x7 + 1)) (lv' := [(7, .int (x7 + 1)), (6, .int (x6 ||| 0)), (0, .ref (ad 0)), (1, .int x1), (2, .int x2), (3, .int x3), (4, .int x4)]) B dX8_inches_99 6 rfl rfl (by decide) rfl ?_
      refine x_goto (tgt := 55) B dX8_inches_102 (by decide) ?_
      refine x_sub [2, 3, 4, 5, 6, 1, 0] rfl ?_
      exact hK55 _ _ _ hf
    · replace hf := x_if h8 hf
      refine x_iconst (v := 1) B dX8_inches_88 (by decide) ?_
      refine x_iload B dX8_inches_89 6 rfl ?_
      refine x_ishl B dX8_inches_91 ?_
      refine x_goto (tgt := 96) B dX8_inches_92 (by decide) ?_
      refine x_ior B dX8_inches_96 ?_
      refine x_istore (lv' := [(6, .int (x6 ||| (1 <<< (x7 &&& 31)))), (0, .ref (ad 0)), (1, .int x1), (2, .int x2), (3, .int x3), (4, .int x4), (7, .int x7)]) B dX8_inches_97 (by decide) rfl ?_
      refine x_iinc (v := (x7 + 1)) (lv' := [(7, .int (x7 + 1)), (6, .int (x6 ||| (1 <<< (x7 &&& 31)))), (0, .ref (ad 0)), (1, .int x1), (2, .int x2), (3, .int x3), (4, .int x4)]) B dX8_inches_99 6 rfl rfl (by decide) rfl ?_
      refine x_goto (tgt := 55) B dX8_inches_102 (by decide) ?_
      refine x_sub [2, 3, 4, 5, 6, 1, 0] rfl ?_
      exact hK55 _ _ _ hf
set_option maxRecDepth 100000 in
set_option maxHeartbeats 4000000 in
theorem kX8_inches_55 {σ : x_S} {x1 : Int32} {x2 : Int32} {x3 : Int32} {x4 : Int32} {x6 : Int32} {x7 : Int32} (B : x_B p s m args meth c cX8_inches 8 wsX8_inches RX8) (G : x_H s D vwCl (s_tys cI cQ cC cZ) m_N ad (x_A m_N ad) m_St m_NW) (hr : meth.sig.returnType = (some .int)) (hf : bX8_inches_55  x1 x2 x3 x4 x6 x7 σ = some (r0, σ0)) : x_J p l e (x_rm 4) s m args below meth c 0 0 (MQ below (x_Qi D vwCl m_N (m_C cI cZ ad) ad r0 σ0) args s 0 0 (x_A m_N ad)) (x_A m_N ad) 8 (x_I D vwCl m_N (m_C cI cZ ad) ad σ) [(0, .ref (ad 0)), (1, .int x1), (2, .int x2), (3, .int x3), (4, .int x4), (6, .int x6), (7, .int x7)] [] 55 := by
  have key : ∀ (n : Nat) (x6 : Int32) (x7 : Int32) (σ : x_S), x_fx (α := Int32 → Int32 → x_S → Option (Int32 × x_S)) (fun _ _ _ => none) (fun K => fun x6 x7 σ => gX8_inches_55  x1 x2 x3 x4 K x6 x7 σ) n x6 x7 σ = some (r0, σ0) → x_J p l e (x_rm 4) s m args below meth c 0 0 (MQ below (x_Qi D vwCl m_N (m_C cI cZ ad) ad r0 σ0) args s 0 0 (x_A m_N ad)) (x_A m_N ad) 8 (x_I D vwCl m_N (m_C cI cZ ad) ad σ) [(0, .ref (ad 0)), (1, .int x1), (2, .int x2), (3, .int x3), (4, .int x4), (6, .int x6), (7, .int x7)] [] 55 := by
    intro n
    induction n with
    | zero => intro x6 x7 σ h; cases h
    | succ n ih => intro x6 x7 σ h; exact qX8_inches_55 B G hr  ih  h
  exact key x_F x6 x7 σ hf
set_option maxRecDepth 100000 in
set_option maxHeartbeats 4000000 in
theorem mX8_inches {σ : x_S} {a1 : Int32} {a2 : Int32} {a3 : Int32} {a4 : Int32} (hdis : x_dis m_N ad) (hf : fX8_inches a1 a2 a3 a4 σ = some (r0, σ0)) : x_NI l yX8_inches wsX8_inches 4 D vwCl (s_tys cI cQ cC cZ) m_N (m_C cI cZ ad) ad m_St m_NW [.ref (ad 0), .int a1, .int a2, .int a3, .int a4] σ r0 σ0 := by
  refine x_met (cc := cX8_inches) (own := RX8) (maxL := 8) (ret := (some .int)) (by decide +kernel) rfl rfl (Nat.le_of_ble_eq_true rfl) hdis m_StOk m_NwOk (fun p e s m args below meth c B G hr => ?_)
  unfold fX8_inches at hf
  refine x_sub (lv' := [(0, .ref (ad 0)), (1, .int a1), (2, .int a2), (3, .int a3), (4, .int a4)]) [0, 1, 2, 3, 4] rfl ?_
  refine x_aload_n B dX8_inches_0 rfl 0 rfl ?_
  refine x_iload_n B dX8_inches_1 rfl 1 rfl ?_
  obtain ⟨r2, e1, hf⟩ := x_ps hf
  refine x_callV (As := [.int a1]) (st := []) B G (mX8_isGesture (l := l) G.1.2.1  e1) (cwV 1 B.2.2.2.2.1 gX8_inches_X8_isGesture rfl rfl rfl hdX8_isGesture (x_rm_ok (by omega) (by decide))) (by decide) m_c0 rfl rfl rfl (Nat.le_of_ble_eq_true rfl) ⟨Nat.zero_le _, Nat.zero_le _⟩ dX8_inches_2 ?_
  refine x_if_eq (tgt := 28) B dX8_inches_5 (by decide) (fun h3 => ?_) (fun h3 => ?_)
  · replace hf := x_it h3 hf
    refine x_ldc (v := (-1000001)) B iX8_inches_0 dX8_inches_28 ?_
    obtain ⟨rfl, rfl⟩ := x_retI hf
    exact x_iret B hr dX8_inches_30
  · replace hf := x_if h3 hf
    refine x_iload_n B dX8_inches_8 rfl 2 rfl ?_
    obtain ⟨r5, e4, hf⟩ := x_ps hf
    refine x_callS (As := [.int a2]) (st := []) B G (mX8_isRow (l := l) G.1.2.1  e4) (va_cwS 1 B.2.2.2.2.1 gX8_inches_X8_isRow rfl rfl rfl hdX8_isRow (x_rm_ok (by omega) (by decide))) rfl rfl (Nat.le_of_ble_eq_true rfl) ⟨Nat.zero_le _, Nat.zero_le _⟩ dX8_inches_9 ?_
    refine x_if_eq (tgt := 28) B dX8_inches_12 (by decide) (fun h6 => ?_) (fun h6 => ?_)
    · replace hf := x_it h6 hf
      refine x_ldc (v := (-1000001)) B iX8_inches_0 dX8_inches_28 ?_
      obtain ⟨rfl, rfl⟩ := x_retI hf
      exact x_iret B hr dX8_inches_30
    · replace hf := x_if h6 hf
      refine x_iload B dX8_inches_15 4 rfl ?_
      refine x_i2l B dX8_inches_17 ?_
      refine x_lconst (v := 1) B dX8_inches_18 (by decide) ?_
      refine x_ldc2 (v := 12) B iX8_inches_1 dX8_inches_19 ?_
      obtain ⟨r8, e7, hf⟩ := x_ps hf
      refine x_callS (As := [.long a4.toInt64, .long 1, .long 12]) (st := []) B G (mX8_in (l := l) G.1.2.1  e7) (va_cwS 3 B.2.2.2.2.1 gX8_inches_X8_in rfl rfl rfl hdX8_in (x_rm_ok (by omega) (by decide))) rfl rfl (Nat.le_of_ble_eq_true rfl) ⟨Nat.zero_le _, Nat.zero_le _⟩ dX8_inches_22 ?_
      refine x_if_ne (tgt := 31) B dX8_inches_25 (by decide) (fun h9 => ?_) (fun h9 => ?_)
      · replace hf := x_if h9 hf
        refine x_aload_n B dX8_inches_31 rfl 0 rfl ?_
        refine x_iload_n B dX8_inches_32 rfl 2 rfl ?_
        refine x_iload_n B dX8_inches_33 rfl 3 rfl ?_
        refine x_iload B dX8_inches_34 4 rfl ?_
        obtain ⟨r11, σ12, e10, hf⟩ := x_bs hf
        refine x_callV (As := [.int a2, .int a3, .int a4]) (st := []) B G (mX8_noPairs (l := l) G.1.2.1  e10) (cwV 3 B.2.2.2.2.1 gX8_inches_X8_noPairs rfl rfl rfl hdX8_noPairs (x_rm_ok (by omega) (by decide))) (by decide) m_c0 rfl rfl rfl (Nat.le_of_ble_eq_true rfl) ⟨Nat.zero_le _, Nat.zero_le _⟩ dX8_inches_36 ?_
        refine x_istore (lv' := [(5, .int r11), (0, .ref (ad 0)), (1, .int a1), (2, .int a2), (3, .int a3), (4, .int a4)]) B dX8_inches_39 (by decide) rfl ?_
        refine x_iload B dX8_inches_41 0 rfl ?_
        refine x_if_eq (tgt := 49) B dX8_inches_43 (by decide) (fun h13 => ?_) (fun h13 => ?_)
        · replace hf := x_it h13 hf
          refine x_iconst (v := 0) B dX8_inches_49 (by decide) ?_
          refine x_istore (lv' := [(6, .int 0), (5, .int r11), (0, .ref (ad 0)), (1, .int a1), (2, .int a2), (3, .int a3), (4, .int a4)]) B dX8_inches_50 (by decide) rfl ?_
          refine x_iconst (v := 0) B dX8_inches_52 (by decide) ?_
          refine x_istore (lv' := [(7, .int 0), (6, .int 0), (5, .int r11), (0, .ref (ad 0)), (1, .int a1), (2, .int a2), (3, .int a3), (4, .int a4)]) B dX8_inches_53 (by decide) rfl ?_
          refine x_sub [3, 4, 5, 6, 7, 1, 0] rfl ?_
          exact kX8_inches_55 B G hr hf
        · replace hf := x_if h13 hf
          refine x_iload B dX8_inches_46 0 rfl ?_
          obtain ⟨rfl, rfl⟩ := x_retI hf
          exact x_iret B hr dX8_inches_48
      · replace hf := x_it h9 hf
        refine x_ldc (v := (-1000001)) B iX8_inches_0 dX8_inches_28 ?_
        obtain ⟨rfl, rfl⟩ := x_retI hf
        exact x_iret B hr dX8_inches_30
theorem iX8_sorts_0 : Cond.constant RX8 52 (-1000001) ∈ wsX8_sorts := by decide +kernel
theorem iX8_sorts_1 : Cond.constantLong RX8 204 12 ∈ wsX8_sorts := by decide +kernel
theorem iX8_sorts_2 : Cond.fieldLink RX8 7 "SignDutyModel" "row" "[I" ∈ wsX8_sorts := by decide +kernel
theorem iX8_sorts_cX8 : ∀ w ∈ u_ws RX8 TX8 17, w ∈ wsX8_sorts := by decide +kernel
set_option maxRecDepth 100000 in
set_option maxHeartbeats 4000000 in
theorem qX8_sorts_55 {σ : x_S} {x1 : Int32} {x2 : Int32} {x3 : Int32} {x4 : Int32} {x6 : Int32} {x7 : Int32} {K55 : Int32 → Int32 → x_S → Option (Int32 × x_S)} (B : x_B p s m args meth c cX8_sorts 8 wsX8_sorts RX8) (G : x_H s D vwCl (s_tys cI cQ cC cZ) m_N ad (x_A m_N ad) m_St m_NW) (hr : meth.sig.returnType = (some .int)) (hK55 : ∀ (x6 : Int32) (x7 : Int32) (σ : x_S), K55 x6 x7 σ = some (r0, σ0) → x_J p l e (x_rm 4) s m args below meth c 0 0 (MQ below (x_Qi D vwCl m_N (m_C cI cZ ad) ad r0 σ0) args s 0 0 (x_A m_N ad)) (x_A m_N ad) 8 (x_I D vwCl m_N (m_C cI cZ ad) ad σ) [(0, .ref (ad 0)), (1, .int x1), (2, .int x2), (3, .int x3), (4, .int x4), (6, .int x6), (7, .int x7)] [] 55) (hf : gX8_sorts_55  x1 x2 x3 x4 K55 x6 x7 σ = some (r0, σ0)) : x_J p l e (x_rm 4) s m args below meth c 0 0 (MQ below (x_Qi D vwCl m_N (m_C cI cZ ad) ad r0 σ0) args s 0 0 (x_A m_N ad)) (x_A m_N ad) 8 (x_I D vwCl m_N (m_C cI cZ ad) ad σ) [(0, .ref (ad 0)), (1, .int x1), (2, .int x2), (3, .int x3), (4, .int x4), (6, .int x6), (7, .int x7)] [] 55 := by
  unfold gX8_sorts_55 at hf
  refine x_iload B dX8_sorts_55 6 rfl ?_
  refine x_bipush (v := 6) B dX8_sorts_57 (by decide) ?_
  refine x_icmp_ge (tgt := 103) B dX8_sorts_59 (by decide) (fun h1 => ?_) (fun h1 => ?_)
  · replace hf := x_it h1 hf
    refine x_aload_n B dX8_sorts_103 rfl 0 rfl ?_
    refine x_iload B dX8_sorts_104 5 rfl ?_
    obtain ⟨r3, σ4, e2, hf⟩ := x_bs hf
    refine x_callV (As := [.int x6]) (st := []) B G (mX8_well (l := l) G.1.2.1  e2) (cwV 1 B.2.2.2.2.1 gX8_sorts_X8_well rfl rfl rfl hdX8_well (x_rm_ok (by omega) (by decide))) (by decide) m_c0 rfl rfl rfl (Nat.le_of_ble_eq_true rfl) ⟨Nat.zero_le _, Nat.zero_le _⟩ dX8_sorts_106 ?_
    obtain ⟨rfl, rfl⟩ := x_retI hf
    exact x_iret B hr dX8_sorts_109
  · replace hf := x_if h1 hf
    refine x_iload B dX8_sorts_62 5 rfl ?_
    refine x_aload_n B dX8_sorts_64 rfl 0 rfl ?_
    refine x_iload B dX8_sorts_65 6 rfl ?_
    refine x_aload_n B dX8_sorts_67 rfl 0 rfl ?_
    refine x_get (v := .ref (ad 1)) (kc := 0) (index := 7) B G.1 iX8_sorts_cX8 rfl (by decide) m_c0 0 (by decide) iX8_sorts_2 rfl dX8_sorts_68 ?_
    refine x_bipush (v := 25) B dX8_sorts_71 (by decide) ?_
    refine x_iload_n B dX8_sorts_73 rfl 1 rfl ?_
    refine x_iadd B dX8_sorts_74 ?_
    obtain ⟨h5, hf⟩ := x_gs hf
    refine x_iald (kc := 1) (t0 := 0) B G.1 (by decide) m_c1 rfl h5 dX8_sorts_75 ?_
    refine x_iload_n B dX8_sorts_76 rfl 2 rfl ?_
    refine x_iload_n B dX8_sorts_77 rfl 3 rfl ?_
    refine x_iload B dX8_sorts_78 4 rfl ?_
    obtain ⟨r7, e6, hf⟩ := x_ps hf
    refine x_callV (As := [.int x7, .int (σ 1 (25 + x1).toNatClampNeg), .int x2, .int x3, .int x4]) (st := [.int x6]) B G (mX8_owesSo (l := l) G.1.2.1  e6) (cwV 5 B.2.2.2.2.1 gX8_sorts_X8_owesSo rfl rfl rfl hdX8_owesSo (x_rm_ok (by omega) (by decide))) (by decide) m_c0 rfl rfl rfl (Nat.le_of_ble_eq_true rfl) ⟨Nat.zero_le _, Nat.zero_le _⟩ dX8_sorts_80 ?_
    refine x_if_eq (tgt := 93) B dX8_sorts_83 (by decide) (fun h8 => ?_) (fun h8 => ?_)
    · replace hf := x_it h8 hf
      refine x_iconst (v := 0) B dX8_sorts_93 (by decide) ?_
      refine x_ior B dX8_sorts_94 ?_
      refine x_istore (lv' := [(6, .int (x6 ||| 0)), (0, .ref (ad 0)), (1, .int x1), (2, .int x2), (3, .int x3), (4, .int x4), (7, .int x7)]) B dX8_sorts_95 (by decide) rfl ?_
      refine x_iinc (v := (x7 + 1)) (lv' := [(7, .int (x7 + 1)), (6, .int (x6 ||| 0)), (0, .ref (ad 0)), (1, .int x1), (2, .int x2), (3, .int x3), (4, .int x4)]) B dX8_sorts_97 6 rfl rfl (by decide) rfl ?_
      refine x_goto (tgt := 55) B dX8_sorts_100 (by decide) ?_
      refine x_sub [2, 3, 4, 5, 6, 1, 0] rfl ?_
      exact hK55 _ _ _ hf
    · replace hf := x_if h8 hf
      refine x_iconst (v := 1) B dX8_sorts_86 (by decide) ?_
      refine x_iload B dX8_sorts_87 6 rfl ?_
      refine x_ishl B dX8_sorts_89 ?_
      refine x_goto (tgt := 94) B dX8_sorts_90 (by decide) ?_
      refine x_ior B dX8_sorts_94 ?_
      refine x_istore (lv' := [(6, .int (x6 ||| (1 <<< (x7 &&& 31)))), (0, .ref (ad 0)), (1, .int x1), (2, .int x2), (3, .int x3), (4, .int x4), (7, .int x7)]) B dX8_sorts_95 (by decide) rfl ?_
      refine x_iinc (v := (x7 + 1)) (lv' := [(7, .int (x7 + 1)), (6, .int (x6 ||| (1 <<< (x7 &&& 31)))), (0, .ref (ad 0)), (1, .int x1), (2, .int x2), (3, .int x3), (4, .int x4)]) B dX8_sorts_97 6 rfl rfl (by decide) rfl ?_
      refine x_goto (tgt := 55) B dX8_sorts_100 (by decide) ?_
      refine x_sub [2, 3, 4, 5, 6, 1, 0] rfl ?_
      exact hK55 _ _ _ hf
set_option maxRecDepth 100000 in
set_option maxHeartbeats 4000000 in
theorem kX8_sorts_55 {σ : x_S} {x1 : Int32} {x2 : Int32} {x3 : Int32} {x4 : Int32} {x6 : Int32} {x7 : Int32} (B : x_B p s m args meth c cX8_sorts 8 wsX8_sorts RX8) (G : x_H s D vwCl (s_tys cI cQ cC cZ) m_N ad (x_A m_N ad) m_St m_NW) (hr : meth.sig.returnType = (some .int)) (hf : bX8_sorts_55  x1 x2 x3 x4 x6 x7 σ = some (r0, σ0)) : x_J p l e (x_rm 4) s m args below meth c 0 0 (MQ below (x_Qi D vwCl m_N (m_C cI cZ ad) ad r0 σ0) args s 0 0 (x_A m_N ad)) (x_A m_N ad) 8 (x_I D vwCl m_N (m_C cI cZ ad) ad σ) [(0, .ref (ad 0)), (1, .int x1), (2, .int x2), (3, .int x3), (4, .int x4), (6, .int x6), (7, .int x7)] [] 55 := by
  have key : ∀ (n : Nat) (x6 : Int32) (x7 : Int32) (σ : x_S), x_fx (α := Int32 → Int32 → x_S → Option (Int32 × x_S)) (fun _ _ _ => none) (fun K => fun x6 x7 σ => gX8_sorts_55  x1 x2 x3 x4 K x6 x7 σ) n x6 x7 σ = some (r0, σ0) → x_J p l e (x_rm 4) s m args below meth c 0 0 (MQ below (x_Qi D vwCl m_N (m_C cI cZ ad) ad r0 σ0) args s 0 0 (x_A m_N ad)) (x_A m_N ad) 8 (x_I D vwCl m_N (m_C cI cZ ad) ad σ) [(0, .ref (ad 0)), (1, .int x1), (2, .int x2), (3, .int x3), (4, .int x4), (6, .int x6), (7, .int x7)] [] 55 := by
    intro n
    induction n with
    | zero => intro x6 x7 σ h; cases h
    | succ n ih => intro x6 x7 σ h; exact qX8_sorts_55 B G hr  ih  h
  exact key x_F x6 x7 σ hf
set_option maxRecDepth 100000 in
set_option maxHeartbeats 4000000 in
theorem mX8_sorts {σ : x_S} {a1 : Int32} {a2 : Int32} {a3 : Int32} {a4 : Int32} (hdis : x_dis m_N ad) (hf : fX8_sorts a1 a2 a3 a4 σ = some (r0, σ0)) : x_NI l yX8_sorts wsX8_sorts 4 D vwCl (s_tys cI cQ cC cZ) m_N (m_C cI cZ ad) ad m_St m_NW [.ref (ad 0), .int a1, .int a2, .int a3, .int a4] σ r0 σ0 := by
  refine x_met (cc := cX8_sorts) (own := RX8) (maxL := 8) (ret := (some .int)) (by decide +kernel) rfl rfl (Nat.le_of_ble_eq_true rfl) hdis m_StOk m_NwOk (fun p e s m args below meth c B G hr => ?_)
  unfold fX8_sorts at hf
  refine x_sub (lv' := [(0, .ref (ad 0)), (1, .int a1), (2, .int a2), (3, .int a3), (4, .int a4)]) [0, 1, 2, 3, 4] rfl ?_
  refine x_aload_n B dX8_sorts_0 rfl 0 rfl ?_
  refine x_iload_n B dX8_sorts_1 rfl 1 rfl ?_
  obtain ⟨r2, e1, hf⟩ := x_ps hf
  refine x_callV (As := [.int a1]) (st := []) B G (mX8_isGesture (l := l) G.1.2.1  e1) (cwV 1 B.2.2.2.2.1 gX8_sorts_X8_isGesture rfl rfl rfl hdX8_isGesture (x_rm_ok (by omega) (by decide))) (by decide) m_c0 rfl rfl rfl (Nat.le_of_ble_eq_true rfl) ⟨Nat.zero_le _, Nat.zero_le _⟩ dX8_sorts_2 ?_
  refine x_if_eq (tgt := 28) B dX8_sorts_5 (by decide) (fun h3 => ?_) (fun h3 => ?_)
  · replace hf := x_it h3 hf
    refine x_ldc (v := (-1000001)) B iX8_sorts_0 dX8_sorts_28 ?_
    obtain ⟨rfl, rfl⟩ := x_retI hf
    exact x_iret B hr dX8_sorts_30
  · replace hf := x_if h3 hf
    refine x_iload_n B dX8_sorts_8 rfl 2 rfl ?_
    obtain ⟨r5, e4, hf⟩ := x_ps hf
    refine x_callS (As := [.int a2]) (st := []) B G (mX8_isRow (l := l) G.1.2.1  e4) (va_cwS 1 B.2.2.2.2.1 gX8_sorts_X8_isRow rfl rfl rfl hdX8_isRow (x_rm_ok (by omega) (by decide))) rfl rfl (Nat.le_of_ble_eq_true rfl) ⟨Nat.zero_le _, Nat.zero_le _⟩ dX8_sorts_9 ?_
    refine x_if_eq (tgt := 28) B dX8_sorts_12 (by decide) (fun h6 => ?_) (fun h6 => ?_)
    · replace hf := x_it h6 hf
      refine x_ldc (v := (-1000001)) B iX8_sorts_0 dX8_sorts_28 ?_
      obtain ⟨rfl, rfl⟩ := x_retI hf
      exact x_iret B hr dX8_sorts_30
    · replace hf := x_if h6 hf
      refine x_iload B dX8_sorts_15 4 rfl ?_
      refine x_i2l B dX8_sorts_17 ?_
      refine x_lconst (v := 1) B dX8_sorts_18 (by decide) ?_
      refine x_ldc2 (v := 12) B iX8_sorts_1 dX8_sorts_19 ?_
      obtain ⟨r8, e7, hf⟩ := x_ps hf
      refine x_callS (As := [.long a4.toInt64, .long 1, .long 12]) (st := []) B G (mX8_in (l := l) G.1.2.1  e7) (va_cwS 3 B.2.2.2.2.1 gX8_sorts_X8_in rfl rfl rfl hdX8_in (x_rm_ok (by omega) (by decide))) rfl rfl (Nat.le_of_ble_eq_true rfl) ⟨Nat.zero_le _, Nat.zero_le _⟩ dX8_sorts_22 ?_
      refine x_if_ne (tgt := 31) B dX8_sorts_25 (by decide) (fun h9 => ?_) (fun h9 => ?_)
      · replace hf := x_if h9 hf
        refine x_aload_n B dX8_sorts_31 rfl 0 rfl ?_
        refine x_iload_n B dX8_sorts_32 rfl 2 rfl ?_
        refine x_iload_n B dX8_sorts_33 rfl 3 rfl ?_
        refine x_iload B dX8_sorts_34 4 rfl ?_
        obtain ⟨r11, σ12, e10, hf⟩ := x_bs hf
        refine x_callV (As := [.int a2, .int a3, .int a4]) (st := []) B G (mX8_noPairs (l := l) G.1.2.1  e10) (cwV 3 B.2.2.2.2.1 gX8_sorts_X8_noPairs rfl rfl rfl hdX8_noPairs (x_rm_ok (by omega) (by decide))) (by decide) m_c0 rfl rfl rfl (Nat.le_of_ble_eq_true rfl) ⟨Nat.zero_le _, Nat.zero_le _⟩ dX8_sorts_36 ?_
        refine x_istore (lv' := [(5, .int r11), (0, .ref (ad 0)), (1, .int a1), (2, .int a2), (3, .int a3), (4, .int a4)]) B dX8_sorts_39 (by decide) rfl ?_
        refine x_iload B dX8_sorts_41 0 rfl ?_
        refine x_if_eq (tgt := 49) B dX8_sorts_43 (by decide) (fun h13 => ?_) (fun h13 => ?_)
        · replace hf := x_it h13 hf
          refine x_iconst (v := 0) B dX8_sorts_49 (by decide) ?_
          refine x_istore (lv' := [(6, .int 0), (5, .int r11), (0, .ref (ad 0)), (1, .int a1), (2, .int a2), (3, .int a3), (4, .int a4)]) B dX8_sorts_50 (by decide) rfl ?_
          refine x_iconst (v := 1) B dX8_sorts_52 (by decide) ?_
          refine x_istore (lv' := [(7, .int 1), (6, .int 0), (5, .int r11), (0, .ref (ad 0)), (1, .int a1), (2, .int a2), (3, .int a3), (4, .int a4)]) B dX8_sorts_53 (by decide) rfl ?_
          refine x_sub [3, 4, 5, 6, 7, 1, 0] rfl ?_
          exact kX8_sorts_55 B G hr hf
        · replace hf := x_if h13 hf
          refine x_iload B dX8_sorts_46 0 rfl ?_
          obtain ⟨rfl, rfl⟩ := x_retI hf
          exact x_iret B hr dX8_sorts_48
      · replace hf := x_it h9 hf
        refine x_ldc (v := (-1000001)) B iX8_sorts_0 dX8_sorts_28 ?_
        obtain ⟨rfl, rfl⟩ := x_retI hf
        exact x_iret B hr dX8_sorts_30
theorem iX8_saved_0 : Cond.fieldLink RX8 7 "SignDutyModel" "row" "[I" ∈ wsX8_saved := by decide +kernel
theorem iX8_saved_cX8 : ∀ w ∈ u_ws RX8 TX8 17, w ∈ wsX8_saved := by decide +kernel
theorem iX8_saved_2 : Cond.constant RX8 52 (-1000001) ∈ wsX8_saved := by decide +kernel
set_option maxRecDepth 100000 in
set_option maxHeartbeats 4000000 in
theorem qX8_saved_15 {σ : x_S} {x1 : Int32} {x2 : Int32} {x3 : Int32} {K15 : Int32 → Int32 → Option Int32} (B : x_B p s m args meth c cX8_saved 4 wsX8_saved RX8) (G : x_H s D vwCl (s_tys cI cQ cC cZ) m_N ad (x_A m_N ad) m_St m_NW) (hr : meth.sig.returnType = (some .int)) (hK15 : ∀ (x2 : Int32) (x3 : Int32), K15 x2 x3 = some r0 → x_J p l e (x_rm 4) s m args below meth c 0 0 (MQ below (x_Qi D vwCl m_N (m_C cI cZ ad) ad r0 σ) args s 0 0 (x_A m_N ad)) (x_A m_N ad) 4 (x_I D vwCl m_N (m_C cI cZ ad) ad σ) [(0, .ref (ad 0)), (1, .int x1), (2, .int x2), (3, .int x3)] [] 15) (hf : gX8_saved_15  x1 K15 x2 x3 σ = some r0) : x_J p l e (x_rm 4) s m args below meth c 0 0 (MQ below (x_Qi D vwCl m_N (m_C cI cZ ad) ad r0 σ) args s 0 0 (x_A m_N ad)) (x_A m_N ad) 4 (x_I D vwCl m_N (m_C cI cZ ad) ad σ) [(0, .ref (ad 0)), (1, .int x1), (2, .int x2), (3, .int x3)] [] 15 := by
  unfold gX8_saved_15 at hf
  refine x_iload_n B dX8_saved_15 rfl 3 rfl ?_
  refine x_aload_n B dX8_saved_16 rfl 0 rfl ?_
  refine x_get (v := .ref (ad 1)) (kc := 0) (index := 7) B G.1 iX8_saved_cX8 rfl (by decide) m_c0 0 (by decide) iX8_saved_0 rfl dX8_saved_17 ?_
  refine x_iconst (v := 1) B dX8_saved_20 (by decide) ?_
  refine x_iald (kc := 1) (t0 := 0) B G.1 (by decide) m_c1 rfl (by decide) dX8_saved_21 ?_
  refine x_icmp_ge (tgt := 66) B dX8_saved_22 (by decide) (fun h2 => ?_) (fun h2 => ?_)
  · replace hf := x_it h2 hf
    refine x_iload_n B dX8_saved_66 rfl 2 rfl ?_
    obtain rfl := x_retP hf
    exact x_iret B hr dX8_saved_67
  · replace hf := x_if h2 hf
    refine x_iload_n B dX8_saved_25 rfl 2 rfl ?_
    refine x_aload_n B dX8_saved_26 rfl 0 rfl ?_
    refine x_iload_n B dX8_saved_27 rfl 1 rfl ?_
    refine x_iload_n B dX8_saved_28 rfl 3 rfl ?_
    obtain ⟨r4, e3, hf⟩ := x_ps hf
    refine x_callV (As := [.int x1, .int x3]) (st := [.int x2]) B G (mX8_dutyOf (l := l) G.1.2.1  e3) (cwV 2 B.2.2.2.2.1 gX8_saved_X8_dutyOf rfl rfl rfl hdX8_dutyOf (x_rm_ok (by omega) (by decide))) (by decide) m_c0 rfl rfl rfl (Nat.le_of_ble_eq_true rfl) ⟨Nat.zero_le _, Nat.zero_le _⟩ dX8_saved_29 ?_
    refine x_aload_n B dX8_saved_32 rfl 0 rfl ?_
    refine x_aload_n B dX8_saved_33 rfl 0 rfl ?_
    refine x_get (v := .ref (ad 1)) (kc := 0) (index := 7) B G.1 iX8_saved_cX8 rfl (by decide) m_c0 0 (by decide) iX8_saved_0 rfl dX8_saved_34 ?_
    refine x_bipush (v := 19) B dX8_saved_37 (by decide) ?_
    refine x_iload_n B dX8_saved_39 rfl 1 rfl ?_
    refine x_iadd B dX8_saved_40 ?_
    obtain ⟨h5, hf⟩ := x_gs hf
    refine x_iald (kc := 1) (t0 := 0) B G.1 (by decide) m_c1 rfl h5 dX8_saved_41 ?_
    refine x_aload_n B dX8_saved_42 rfl 0 rfl ?_
    refine x_get (v := .ref (ad 1)) (kc := 0) (index := 7) B G.1 iX8_saved_cX8 rfl (by decide) m_c0 0 (by decide) iX8_saved_0 rfl dX8_saved_43 ?_
    refine x_bipush (v := 25) B dX8_saved_46 (by decide) ?_
    refine x_iload_n B dX8_saved_48 rfl 1 rfl ?_
    refine x_iadd B dX8_saved_49 ?_
    obtain ⟨h6, hf⟩ := x_gs hf
    refine x_iald (kc := 1) (t0 := 0) B G.1 (by decide) m_c1 rfl h6 dX8_saved_50 ?_
    refine x_iload_n B dX8_saved_51 rfl 3 rfl ?_
    obtain ⟨r8, e7, hf⟩ := x_ps hf
    refine x_callV (As := [.int (σ 1 (19 + x1).toNatClampNeg), .int (σ 1 (25 + x1).toNatClampNeg), .int x3]) (st := [.int r4, .int x2]) B G (mX8_plainDuty (l := l) G.1.2.1  e7) (cwV 3 B.2.2.2.2.1 gX8_saved_X8_plainDuty rfl rfl rfl hdX8_plainDuty (x_rm_ok (by omega) (by decide))) (by decide) m_c0 rfl rfl rfl (Nat.le_of_ble_eq_true rfl) ⟨Nat.zero_le _, Nat.zero_le _⟩ dX8_saved_52 ?_
    refine x_iconst (v := 2) B dX8_saved_55 (by decide) ?_
    refine x_idiv B dX8_saved_56 (by decide) ?_
    refine x_isub B dX8_saved_57 ?_
    refine x_iadd B dX8_saved_58 ?_
    refine x_istore_n (lv' := [(2, .int (x2 + (r4 - (r8 / 2)))), (0, .ref (ad 0)), (1, .int x1), (3, .int x3)]) B dX8_saved_59 rfl (by decide) rfl ?_
    refine x_iinc (v := (x3 + 1)) (lv' := [(3, .int (x3 + 1)), (2, .int (x2 + (r4 - (r8 / 2)))), (0, .ref (ad 0)), (1, .int x1)]) B dX8_saved_60 3 rfl rfl (by decide) rfl ?_
    refine x_goto (tgt := 15) B dX8_saved_63 (by decide) ?_
    refine x_sub [2, 3, 1, 0] rfl ?_
    exact hK15 _ _ hf
set_option maxRecDepth 100000 in
set_option maxHeartbeats 4000000 in
theorem kX8_saved_15 {σ : x_S} {x1 : Int32} {x2 : Int32} {x3 : Int32} (B : x_B p s m args meth c cX8_saved 4 wsX8_saved RX8) (G : x_H s D vwCl (s_tys cI cQ cC cZ) m_N ad (x_A m_N ad) m_St m_NW) (hr : meth.sig.returnType = (some .int)) (hf : bX8_saved_15  x1 x2 x3 σ = some r0) : x_J p l e (x_rm 4) s m args below meth c 0 0 (MQ below (x_Qi D vwCl m_N (m_C cI cZ ad) ad r0 σ) args s 0 0 (x_A m_N ad)) (x_A m_N ad) 4 (x_I D vwCl m_N (m_C cI cZ ad) ad σ) [(0, .ref (ad 0)), (1, .int x1), (2, .int x2), (3, .int x3)] [] 15 := by
  have key : ∀ (n : Nat) (x2 : Int32) (x3 : Int32), x_fx (α := Int32 → Int32 → Option Int32) (fun _ _ => none) (fun K => fun x2 x3 => gX8_saved_15  x1 K x2 x3 σ) n x2 x3 = some r0 → x_J p l e (x_rm 4) s m args below meth c 0 0 (MQ below (x_Qi D vwCl m_N (m_C cI cZ ad) ad r0 σ) args s 0 0 (x_A m_N ad)) (x_A m_N ad) 4 (x_I D vwCl m_N (m_C cI cZ ad) ad σ) [(0, .ref (ad 0)), (1, .int x1), (2, .int x2), (3, .int x3)] [] 15 := by
    intro n
    induction n with
    | zero => intro x2 x3 h; cases h
    | succ n ih => intro x2 x3 h; exact qX8_saved_15 B G hr  ih  h
  exact key x_F x2 x3 hf
set_option maxRecDepth 100000 in
set_option maxHeartbeats 4000000 in
theorem mX8_saved {σ : x_S} {a1 : Int32} (hdis : x_dis m_N ad) (hf : fX8_saved a1 σ = some r0) : x_NI l yX8_saved wsX8_saved 4 D vwCl (s_tys cI cQ cC cZ) m_N (m_C cI cZ ad) ad m_St m_NW [.ref (ad 0), .int a1] σ r0 σ := by
  refine x_met (cc := cX8_saved) (own := RX8) (maxL := 4) (ret := (some .int)) (by decide +kernel) rfl rfl (Nat.le_of_ble_eq_true rfl) hdis m_StOk m_NwOk (fun p e s m args below meth c B G hr => ?_)
  unfold fX8_saved at hf
  refine x_sub (lv' := [(0, .ref (ad 0)), (1, .int a1)]) [0, 1] rfl ?_
  refine x_aload_n B dX8_saved_0 rfl 0 rfl ?_
  refine x_iload_n B dX8_saved_1 rfl 1 rfl ?_
  obtain ⟨r2, e1, hf⟩ := x_ps hf
  refine x_callV (As := [.int a1]) (st := []) B G (mX8_isGesture (l := l) G.1.2.1  e1) (cwV 1 B.2.2.2.2.1 gX8_saved_X8_isGesture rfl rfl rfl hdX8_isGesture (x_rm_ok (by omega) (by decide))) (by decide) m_c0 rfl rfl rfl (Nat.le_of_ble_eq_true rfl) ⟨Nat.zero_le _, Nat.zero_le _⟩ dX8_saved_2 ?_
  refine x_if_ne (tgt := 11) B dX8_saved_5 (by decide) (fun h3 => ?_) (fun h3 => ?_)
  · replace hf := x_if h3 hf
    refine x_iconst (v := 0) B dX8_saved_11 (by decide) ?_
    refine x_istore_n (lv' := [(2, .int 0), (0, .ref (ad 0)), (1, .int a1)]) B dX8_saved_12 rfl (by decide) rfl ?_
    refine x_iconst (v := 0) B dX8_saved_13 (by decide) ?_
    refine x_istore_n (lv' := [(3, .int 0), (2, .int 0), (0, .ref (ad 0)), (1, .int a1)]) B dX8_saved_14 rfl (by decide) rfl ?_
    refine x_sub [2, 3, 1, 0] rfl ?_
    exact kX8_saved_15 B G hr hf
  · replace hf := x_it h3 hf
    refine x_ldc (v := (-1000001)) B iX8_saved_2 dX8_saved_8 ?_
    obtain rfl := x_retP hf
    exact x_iret B hr dX8_saved_10
theorem iX8_worst_0 : Cond.constant RX8 52 (-1000001) ∈ wsX8_worst := by decide +kernel
theorem iX8_worst_1 : Cond.constant RX8 200 (-1000000) ∈ wsX8_worst := by decide +kernel
theorem iX8_worst_2 : Cond.fieldLink RX8 7 "SignDutyModel" "row" "[I" ∈ wsX8_worst := by decide +kernel
theorem iX8_worst_cX8 : ∀ w ∈ u_ws RX8 TX8 17, w ∈ wsX8_worst := by decide +kernel
set_option maxRecDepth 100000 in
set_option maxHeartbeats 4000000 in
theorem kX8_worst_64 {σ : x_S} {K31 : Int32 → Int32 → Int32 → Option Int32} {x1 : Int32} {x2 : Int32} {x4 : Int32} {x5 : Int32} {x6 : Int32} {y0 : Int32} (B : x_B p s m args meth c cX8_worst 7 wsX8_worst RX8) (G : x_H s D vwCl (s_tys cI cQ cC cZ) m_N ad (x_A m_N ad) m_St m_NW) (hr : meth.sig.returnType = (some .int)) (hK31 : ∀ (x3 : Int32) (x4 : Int32) (x5 : Int32), K31 x3 x4 x5 = some r0 → x_J p l e (x_rm 4) s m args below meth c 0 0 (MQ below (x_Qi D vwCl m_N (m_C cI cZ ad) ad r0 σ) args s 0 0 (x_A m_N ad)) (x_A m_N ad) 7 (x_I D vwCl m_N (m_C cI cZ ad) ad σ) [(0, .ref (ad 0)), (1, .int x1), (2, .int x2), (3, .int x3), (4, .int x4), (5, .int x5)] [] 31) (hf : bX8_worst_64 K31 x1 x2 x4 x5 x6 y0 σ = some r0) : x_J p l e (x_rm 4) s m args below meth c 0 0 (MQ below (x_Qi D vwCl m_N (m_C cI cZ ad) ad r0 σ) args s 0 0 (x_A m_N ad)) (x_A m_N ad) 7 (x_I D vwCl m_N (m_C cI cZ ad) ad σ) [(0, .ref (ad 0)), (1, .int x1), (2, .int x2), (4, .int x4), (5, .int x5), (6, .int x6)] [.int y0] 64 := by
  unfold bX8_worst_64 at hf
  refine x_istore_n (lv' := [(3, .int y0), (0, .ref (ad 0)), (1, .int x1), (2, .int x2), (4, .int x4), (5, .int x5), (6, .int x6)]) B dX8_worst_64 rfl (by decide) rfl ?_
  refine x_iload B dX8_worst_65 6 rfl ?_
  refine x_iload B dX8_worst_67 4 rfl ?_
  refine x_icmp_le (tgt := 77) B dX8_worst_69 (by decide) (fun h1 => ?_) (fun h1 => ?_)
  · replace hf := x_it h1 hf
    refine x_iload B dX8_worst_77 4 rfl ?_
    refine x_istore (lv' := [(4, .int x4), (3, .int y0), (0, .ref (ad 0)), (1, .int x1), (2, .int x2), (5, .int x5), (6, .int x6)]) B dX8_worst_79 (by decide) rfl ?_
    refine x_iinc (v := (x5 + 1)) (lv' := [(5, .int (x5 + 1)), (4, .int x4), (3, .int y0), (0, .ref (ad 0)), (1, .int x1), (2, .int x2), (6, .int x6)]) B dX8_worst_81 5 rfl rfl (by decide) rfl ?_
    refine x_goto (tgt := 31) B dX8_worst_84 (by decide) ?_
    refine x_sub [3, 4, 5, 2, 1, 0] rfl ?_
    exact hK31 _ _ _ hf
  · replace hf := x_if h1 hf
    refine x_iload B dX8_worst_72 6 rfl ?_
    refine x_goto (tgt := 79) B dX8_worst_74 (by decide) ?_
    refine x_istore (lv' := [(4, .int x6), (3, .int y0), (0, .ref (ad 0)), (1, .int x1), (2, .int x2), (5, .int x5), (6, .int x6)]) B dX8_worst_79 (by decide) rfl ?_
    refine x_iinc (v := (x5 + 1)) (lv' := [(5, .int (x5 + 1)), (4, .int x6), (3, .int y0), (0, .ref (ad 0)), (1, .int x1), (2, .int x2), (6, .int x6)]) B dX8_worst_81 5 rfl rfl (by decide) rfl ?_
    refine x_goto (tgt := 31) B dX8_worst_84 (by decide) ?_
    refine x_sub [3, 4, 5, 2, 1, 0] rfl ?_
    exact hK31 _ _ _ hf
set_option maxRecDepth 100000 in
set_option maxHeartbeats 4000000 in
theorem qX8_worst_31 {σ : x_S} {x1 : Int32} {x2 : Int32} {x3 : Int32} {x4 : Int32} {x5 : Int32} {K31 : Int32 → Int32 → Int32 → Option Int32} (B : x_B p s m args meth c cX8_worst 7 wsX8_worst RX8) (G : x_H s D vwCl (s_tys cI cQ cC cZ) m_N ad (x_A m_N ad) m_St m_NW) (hr : meth.sig.returnType = (some .int)) (hK31 : ∀ (x3 : Int32) (x4 : Int32) (x5 : Int32), K31 x3 x4 x5 = some r0 → x_J p l e (x_rm 4) s m args below meth c 0 0 (MQ below (x_Qi D vwCl m_N (m_C cI cZ ad) ad r0 σ) args s 0 0 (x_A m_N ad)) (x_A m_N ad) 7 (x_I D vwCl m_N (m_C cI cZ ad) ad σ) [(0, .ref (ad 0)), (1, .int x1), (2, .int x2), (3, .int x3), (4, .int x4), (5, .int x5)] [] 31) (hf : gX8_worst_31  x1 x2 K31 x3 x4 x5 σ = some r0) : x_J p l e (x_rm 4) s m args below meth c 0 0 (MQ below (x_Qi D vwCl m_N (m_C cI cZ ad) ad r0 σ) args s 0 0 (x_A m_N ad)) (x_A m_N ad) 7 (x_I D vwCl m_N (m_C cI cZ ad) ad σ) [(0, .ref (ad 0)), (1, .int x1), (2, .int x2), (3, .int x3), (4, .int x4), (5, .int x5)] [] 31 := by
  unfold gX8_worst_31 at hf
  refine x_iload B dX8_worst_31 5 rfl ?_
  refine x_aload_n B dX8_worst_33 rfl 0 rfl ?_
  refine x_get (v := .ref (ad 1)) (kc := 0) (index := 7) B G.1 iX8_worst_cX8 rfl (by decide) m_c0 0 (by decide) iX8_worst_2 rfl dX8_worst_34 ?_
  refine x_iconst (v := 1) B dX8_worst_37 (by decide) ?_
  refine x_iald (kc := 1) (t0 := 0) B G.1 (by decide) m_c1 rfl (by decide) dX8_worst_38 ?_
  refine x_icmp_ge (tgt := 87) B dX8_worst_39 (by decide) (fun h2 => ?_) (fun h2 => ?_)
  · replace hf := x_it h2 hf
    refine x_iload_n B dX8_worst_87 rfl 2 rfl ?_
    refine x_if_ne (tgt := 95) B dX8_worst_88 (by decide) (fun h3 => ?_) (fun h3 => ?_)
    · replace hf := x_if h3 hf
      refine x_iload B dX8_worst_95 4 rfl ?_
      obtain rfl := x_retP hf
      exact x_iret B hr dX8_worst_97
    · replace hf := x_it h3 hf
      refine x_iload_n B dX8_worst_91 rfl 3 rfl ?_
      refine x_goto (tgt := 97) B dX8_worst_92 (by decide) ?_
      obtain rfl := x_retP hf
      exact x_iret B hr dX8_worst_97
  · replace hf := x_if h2 hf
    refine x_aload_n B dX8_worst_42 rfl 0 rfl ?_
    refine x_iload_n B dX8_worst_43 rfl 1 rfl ?_
    refine x_iload B dX8_worst_44 5 rfl ?_
    obtain ⟨r5, e4, hf⟩ := x_ps hf
    refine x_callV (As := [.int x1, .int x5]) (st := []) B G (mX8_dutyOf (l := l) G.1.2.1  e4) (cwV 2 B.2.2.2.2.1 gX8_worst_X8_dutyOf rfl rfl rfl hdX8_dutyOf (x_rm_ok (by omega) (by decide))) (by decide) m_c0 rfl rfl rfl (Nat.le_of_ble_eq_true rfl) ⟨Nat.zero_le _, Nat.zero_le _⟩ dX8_worst_46 ?_
    refine x_istore (lv' := [(6, .int r5), (0, .ref (ad 0)), (1, .int x1), (2, .int x2), (3, .int x3), (4, .int x4), (5, .int x5)]) B dX8_worst_49 (by decide) rfl ?_
    refine x_iload B dX8_worst_51 0 rfl ?_
    refine x_iload B dX8_worst_53 5 rfl ?_
    refine x_icmp_le (tgt := 63) B dX8_worst_55 (by decide) (fun h6 => ?_) (fun h6 => ?_)
    · replace hf := x_it h6 hf
      refine x_iload_n B dX8_worst_63 rfl 4 rfl ?_
      refine x_sub [1, 2, 3, 5, 6, 0] rfl ?_
      exact kX8_worst_64 B G hr hK31 hf
    · replace hf := x_if h6 hf
      refine x_iload B dX8_worst_58 6 rfl ?_
      refine x_goto (tgt := 64) B dX8_worst_60 (by decide) ?_
      refine x_sub [1, 2, 3, 5, 6, 0] rfl ?_
      exact kX8_worst_64 B G hr hK31 hf
set_option maxRecDepth 100000 in
set_option maxHeartbeats 4000000 in
theorem kX8_worst_31 {σ : x_S} {x1 : Int32} {x2 : Int32} {x3 : Int32} {x4 : Int32} {x5 : Int32} (B : x_B p s m args meth c cX8_worst 7 wsX8_worst RX8) (G : x_H s D vwCl (s_tys cI cQ cC cZ) m_N ad (x_A m_N ad) m_St m_NW) (hr : meth.sig.returnType = (some .int)) (hf : bX8_worst_31  x1 x2 x3 x4 x5 σ = some r0) : x_J p l e (x_rm 4) s m args below meth c 0 0 (MQ below (x_Qi D vwCl m_N (m_C cI cZ ad) ad r0 σ) args s 0 0 (x_A m_N ad)) (x_A m_N ad) 7 (x_I D vwCl m_N (m_C cI cZ ad) ad σ) [(0, .ref (ad 0)), (1, .int x1), (2, .int x2), (3, .int x3), (4, .int x4), (5, .int x5)] [] 31 := by
  have key : ∀ (n : Nat) (x3 : Int32) (x4 : Int32) (x5 : Int32), x_fx (α := Int32 → Int32 → Int32 → Option Int32) (fun _ _ _ => none) (fun K => fun x3 x4 x5 => gX8_worst_31  x1 x2 K x3 x4 x5 σ) n x3 x4 x5 = some r0 → x_J p l e (x_rm 4) s m args below meth c 0 0 (MQ below (x_Qi D vwCl m_N (m_C cI cZ ad) ad r0 σ) args s 0 0 (x_A m_N ad)) (x_A m_N ad) 7 (x_I D vwCl m_N (m_C cI cZ ad) ad σ) [(0, .ref (ad 0)), (1, .int x1), (2, .int x2), (3, .int x3), (4, .int x4), (5, .int x5)] [] 31 := by
    intro n
    induction n with
    | zero => intro x3 x4 x5 h; cases h
    | succ n ih => intro x3 x4 x5 h; exact qX8_worst_31 B G hr  ih  h
  exact key x_F x3 x4 x5 hf
set_option maxRecDepth 100000 in
set_option maxHeartbeats 4000000 in
theorem mX8_worst {σ : x_S} {a1 : Int32} {a2 : Int32} (hdis : x_dis m_N ad) (hf : fX8_worst a1 a2 σ = some r0) : x_NI l yX8_worst wsX8_worst 4 D vwCl (s_tys cI cQ cC cZ) m_N (m_C cI cZ ad) ad m_St m_NW [.ref (ad 0), .int a1, .int a2] σ r0 σ := by
  refine x_met (cc := cX8_worst) (own := RX8) (maxL := 7) (ret := (some .int)) (by decide +kernel) rfl rfl (Nat.le_of_ble_eq_true rfl) hdis m_StOk m_NwOk (fun p e s m args below meth c B G hr => ?_)
  unfold fX8_worst at hf
  refine x_sub (lv' := [(0, .ref (ad 0)), (1, .int a1), (2, .int a2)]) [0, 1, 2] rfl ?_
  refine x_aload_n B dX8_worst_0 rfl 0 rfl ?_
  refine x_iload_n B dX8_worst_1 rfl 1 rfl ?_
  obtain ⟨r2, e1, hf⟩ := x_ps hf
  refine x_callV (As := [.int a1]) (st := []) B G (mX8_isGesture (l := l) G.1.2.1  e1) (cwV 1 B.2.2.2.2.1 gX8_worst_X8_isGesture rfl rfl rfl hdX8_isGesture (x_rm_ok (by omega) (by decide))) (by decide) m_c0 rfl rfl rfl (Nat.le_of_ble_eq_true rfl) ⟨Nat.zero_le _, Nat.zero_le _⟩ dX8_worst_2 ?_
  refine x_if_eq (tgt := 18) B dX8_worst_5 (by decide) (fun h3 => ?_) (fun h3 => ?_)
  · replace hf := x_it h3 hf
    refine x_ldc (v := (-1000001)) B iX8_worst_0 dX8_worst_18 ?_
    obtain rfl := x_retP hf
    exact x_iret B hr dX8_worst_20
  · replace hf := x_if h3 hf
    refine x_iload_n B dX8_worst_8 rfl 2 rfl ?_
    refine x_i2l B dX8_worst_9 ?_
    refine x_lconst (v := 0) B dX8_worst_10 (by decide) ?_
    refine x_lconst (v := 1) B dX8_worst_11 (by decide) ?_
    obtain ⟨r5, e4, hf⟩ := x_ps hf
    refine x_callS (As := [.long a2.toInt64, .long 0, .long 1]) (st := []) B G (mX8_in (l := l) G.1.2.1  e4) (va_cwS 3 B.2.2.2.2.1 gX8_worst_X8_in rfl rfl rfl hdX8_in (x_rm_ok (by omega) (by decide))) rfl rfl (Nat.le_of_ble_eq_true rfl) ⟨Nat.zero_le _, Nat.zero_le _⟩ dX8_worst_12 ?_
    refine x_if_ne (tgt := 21) B dX8_worst_15 (by decide) (fun h6 => ?_) (fun h6 => ?_)
    · replace hf := x_if h6 hf
      refine x_ldc (v := (-1000000)) B iX8_worst_1 dX8_worst_21 ?_
      refine x_istore_n (lv' := [(3, .int (-1000000)), (0, .ref (ad 0)), (1, .int a1), (2, .int a2)]) B dX8_worst_23 rfl (by decide) rfl ?_
      refine x_ldc (v := (-1000000)) B iX8_worst_1 dX8_worst_24 ?_
      refine x_istore (lv' := [(4, .int (-1000000)), (3, .int (-1000000)), (0, .ref (ad 0)), (1, .int a1), (2, .int a2)]) B dX8_worst_26 (by decide) rfl ?_
      refine x_iconst (v := 0) B dX8_worst_28 (by decide) ?_
      refine x_istore (lv' := [(5, .int 0), (4, .int (-1000000)), (3, .int (-1000000)), (0, .ref (ad 0)), (1, .int a1), (2, .int a2)]) B dX8_worst_29 (by decide) rfl ?_
      refine x_sub [3, 4, 5, 2, 1, 0] rfl ?_
      exact kX8_worst_31 B G hr hf
    · replace hf := x_it h6 hf
      refine x_ldc (v := (-1000001)) B iX8_worst_0 dX8_worst_18 ?_
      obtain rfl := x_retP hf
      exact x_iret B hr dX8_worst_20
theorem iX8_tremble_0 : Cond.constant RX8 52 (-1000001) ∈ wsX8_tremble := by decide +kernel
theorem iX8_tremble_1 : Cond.constantLong RX8 217 9999 ∈ wsX8_tremble := by decide +kernel
theorem iX8_tremble_2 : Cond.constantLong RX8 219 10 ∈ wsX8_tremble := by decide +kernel
theorem iX8_tremble_3 : Cond.fieldLink RX8 7 "SignDutyModel" "row" "[I" ∈ wsX8_tremble := by decide +kernel
theorem iX8_tremble_cX8 : ∀ w ∈ u_ws RX8 TX8 17, w ∈ wsX8_tremble := by decide +kernel
set_option maxRecDepth 100000 in
set_option maxHeartbeats 4000000 in
theorem qX8_tremble_214 {σ : x_S} {x6 : Int32} {x8 : Int32} {x9 : Int32} {x10 : Int32} {x11 : Int32} {K214 : Int32 → Int32 → Option Int32} (B : x_B p s m args meth c cX8_tremble 15 wsX8_tremble RX8) (G : x_H s D vwCl (s_tys cI cQ cC cZ) m_N ad (x_A m_N ad) m_St m_NW) (hr : meth.sig.returnType = (some .int)) (hK214 : ∀ (x10 : Int32) (x11 : Int32), K214 x10 x11 = some r0 → x_J p l e (x_rm 3) s m args below meth c 0 0 (MQ below (x_Qi D vwCl m_N (m_C cI cZ ad) ad r0 σ) args s 0 0 (x_A m_N ad)) (x_A m_N ad) 15 (x_I D vwCl m_N (m_C cI cZ ad) ad σ) [(6, .int x6), (8, .int x8), (9, .int x9), (10, .int x10), (11, .int x11)] [] 214) (hf : gX8_tremble_214  x6 x8 x9 K214 x10 x11 σ = some r0) : x_J p l e (x_rm 3) s m args below meth c 0 0 (MQ below (x_Qi D vwCl m_N (m_C cI cZ ad) ad r0 σ) args s 0 0 (x_A m_N ad)) (x_A m_N ad) 15 (x_I D vwCl m_N (m_C cI cZ ad) ad σ) [(6, .int x6), (8, .int x8), (9, .int x9), (10, .int x10), (11, .int x11)] [] 214 := by
  unfold gX8_tremble_214 at hf
  refine x_iload B dX8_tremble_214 4 rfl ?_
  refine x_if_eq (tgt := 237) B dX8_tremble_216 (by decide) (fun h1 => ?_) (fun h1 => ?_)
  · replace hf := x_it h1 hf
    refine x_iload B dX8_tremble_237 0 rfl ?_
    refine x_if_ne (tgt := 250) B dX8_tremble_239 (by decide) (fun h2 => ?_) (fun h2 => ?_)
    · replace hf := x_if h2 hf
      refine x_iload B dX8_tremble_250 2 rfl ?_
      refine x_iload B dX8_tremble_252 3 rfl ?_
      obtain ⟨h3, hf⟩ := x_gs hf
      refine x_idiv B dX8_tremble_254 h3 ?_
      obtain rfl := x_retP hf
      exact x_iret B hr dX8_tremble_255
    · replace hf := x_it h2 hf
      refine x_iload B dX8_tremble_242 1 rfl ?_
      refine x_iload B dX8_tremble_244 3 rfl ?_
      obtain ⟨h4, hf⟩ := x_gs hf
      refine x_idiv B dX8_tremble_246 h4 ?_
      refine x_goto (tgt := 255) B dX8_tremble_247 (by decide) ?_
      obtain rfl := x_retP hf
      exact x_iret B hr dX8_tremble_255
  · replace hf := x_if h1 hf
    refine x_iload B dX8_tremble_219 3 rfl ?_
    refine x_iload B dX8_tremble_221 4 rfl ?_
    obtain ⟨h5, hf⟩ := x_gs hf
    refine x_irem B dX8_tremble_223 h5 ?_
    refine x_istore (lv' := [(12, .int (x10 - x10 / x11 * x11)), (6, .int x6), (8, .int x8), (9, .int x9), (10, .int x10), (11, .int x11)]) B dX8_tremble_224 (by decide) rfl ?_
    refine x_iload B dX8_tremble_226 5 rfl ?_
    refine x_istore (lv' := [(10, .int x11), (12, .int (x10 - x10 / x11 * x11)), (6, .int x6), (8, .int x8), (9, .int x9), (11, .int x11)]) B dX8_tremble_228 (by decide) rfl ?_
    refine x_iload B dX8_tremble_230 1 rfl ?_
    refine x_istore (lv' := [(11, .int (x10 - x10 / x11 * x11)), (10, .int x11), (12, .int (x10 - x10 / x11 * x11)), (6, .int x6), (8, .int x8), (9, .int x9)]) B dX8_tremble_232 (by decide) rfl ?_
    refine x_goto (tgt := 214) B dX8_tremble_234 (by decide) ?_
    refine x_sub [3, 4, 5, 1, 0] rfl ?_
    exact hK214 _ _ hf
set_option maxRecDepth 100000 in
set_option maxHeartbeats 4000000 in
theorem kX8_tremble_214 {σ : x_S} {x6 : Int32} {x8 : Int32} {x9 : Int32} {x10 : Int32} {x11 : Int32} (B : x_B p s m args meth c cX8_tremble 15 wsX8_tremble RX8) (G : x_H s D vwCl (s_tys cI cQ cC cZ) m_N ad (x_A m_N ad) m_St m_NW) (hr : meth.sig.returnType = (some .int)) (hf : bX8_tremble_214  x6 x8 x9 x10 x11 σ = some r0) : x_J p l e (x_rm 3) s m args below meth c 0 0 (MQ below (x_Qi D vwCl m_N (m_C cI cZ ad) ad r0 σ) args s 0 0 (x_A m_N ad)) (x_A m_N ad) 15 (x_I D vwCl m_N (m_C cI cZ ad) ad σ) [(6, .int x6), (8, .int x8), (9, .int x9), (10, .int x10), (11, .int x11)] [] 214 := by
  have key : ∀ (n : Nat) (x10 : Int32) (x11 : Int32), x_fx (α := Int32 → Int32 → Option Int32) (fun _ _ => none) (fun K => fun x10 x11 => gX8_tremble_214  x6 x8 x9 K x10 x11 σ) n x10 x11 = some r0 → x_J p l e (x_rm 3) s m args below meth c 0 0 (MQ below (x_Qi D vwCl m_N (m_C cI cZ ad) ad r0 σ) args s 0 0 (x_A m_N ad)) (x_A m_N ad) 15 (x_I D vwCl m_N (m_C cI cZ ad) ad σ) [(6, .int x6), (8, .int x8), (9, .int x9), (10, .int x10), (11, .int x11)] [] 214 := by
    intro n
    induction n with
    | zero => intro x10 x11 h; cases h
    | succ n ih => intro x10 x11 h; exact qX8_tremble_214 B G hr  ih  h
  exact key x_F x10 x11 hf
set_option maxRecDepth 100000 in
set_option maxHeartbeats 4000000 in
theorem kX8_tremble_190 {σ : x_S} {K73 : Int32 → Int32 → Int32 → Option Int32} {x1 : Int32} {x2 : Int32} {x4 : Int32} {x5 : Int32} {x6 : Int32} {x7 : Int32} {x9 : Int32} {x10 : Int32} {x11 : Int32} {y0 : Int32} {y1 : Int32} (B : x_B p s m args meth c cX8_tremble 15 wsX8_tremble RX8) (G : x_H s D vwCl (s_tys cI cQ cC cZ) m_N ad (x_A m_N ad) m_St m_NW) (hr : meth.sig.returnType = (some .int)) (hK73 : ∀ (x8 : Int32) (x9 : Int32) (x10 : Int32), K73 x8 x9 x10 = some r0 → x_J p l e (x_rm 3) s m args below meth c 0 0 (MQ below (x_Qi D vwCl m_N (m_C cI cZ ad) ad r0 σ) args s 0 0 (x_A m_N ad)) (x_A m_N ad) 15 (x_I D vwCl m_N (m_C cI cZ ad) ad σ) [(0, .ref (ad 0)), (1, .int x1), (2, .int x2), (4, .int x4), (5, .int x5), (6, .int x6), (7, .int x7), (8, .int x8), (9, .int x9), (10, .int x10)] [] 73) (hf : bX8_tremble_190 K73 x1 x2 x4 x5 x6 x7 x9 x10 x11 y0 y1 σ = some r0) : x_J p l e (x_rm 3) s m args below meth c 0 0 (MQ below (x_Qi D vwCl m_N (m_C cI cZ ad) ad r0 σ) args s 0 0 (x_A m_N ad)) (x_A m_N ad) 15 (x_I D vwCl m_N (m_C cI cZ ad) ad σ) [(0, .ref (ad 0)), (1, .int x1), (2, .int x2), (4, .int x4), (5, .int x5), (6, .int x6), (7, .int x7), (9, .int x9), (10, .int x10), (11, .int x11)] [.int y0, .int y1] 190 := by
  unfold bX8_tremble_190 at hf
  refine x_iadd B dX8_tremble_190 ?_
  refine x_istore (lv' := [(8, .int (y1 + y0)), (0, .ref (ad 0)), (1, .int x1), (2, .int x2), (4, .int x4), (5, .int x5), (6, .int x6), (7, .int x7), (9, .int x9), (10, .int x10), (11, .int x11)]) B dX8_tremble_191 (by decide) rfl ?_
  refine x_iload B dX8_tremble_193 8 rfl ?_
  refine x_iload B dX8_tremble_195 10 rfl ?_
  refine x_iadd B dX8_tremble_197 ?_
  refine x_istore (lv' := [(9, .int (x9 + x11)), (8, .int (y1 + y0)), (0, .ref (ad 0)), (1, .int x1), (2, .int x2), (4, .int x4), (5, .int x5), (6, .int x6), (7, .int x7), (10, .int x10), (11, .int x11)]) B dX8_tremble_198 (by decide) rfl ?_
  refine x_iinc (v := (x10 + 1)) (lv' := [(10, .int (x10 + 1)), (9, .int (x9 + x11)), (8, .int (y1 + y0)), (0, .ref (ad 0)), (1, .int x1), (2, .int x2), (4, .int x4), (5, .int x5), (6, .int x6), (7, .int x7), (11, .int x11)]) B dX8_tremble_200 9 rfl rfl (by decide) rfl ?_
  refine x_goto (tgt := 73) B dX8_tremble_203 (by decide) ?_
  refine x_sub [3, 4, 5, 6, 7, 8, 9, 2, 1, 0] rfl ?_
  exact hK73 _ _ _ hf
set_option maxRecDepth 100000 in
set_option maxHeartbeats 4000000 in
theorem kX8_tremble_158 {σ : x_S} {K73 : Int32 → Int32 → Int32 → Option Int32} {K91 : Int32 → Int32 → Int32 → Option Int32} {x1 : Int32} {x2 : Int32} {x4 : Int32} {x5 : Int32} {x6 : Int32} {x7 : Int32} {x8 : Int32} {x9 : Int32} {x10 : Int32} {x11 : Int32} {x13 : Int32} {y0 : Int32} {y1 : Int32} {y2 : Int32} {y4 : Int32} (B : x_B p s m args meth c cX8_tremble 15 wsX8_tremble RX8) (G : x_H s D vwCl (s_tys cI cQ cC cZ) m_N ad (x_A m_N ad) m_St m_NW) (hr : meth.sig.returnType = (some .int)) (hK73 : ∀ (x8 : Int32) (x9 : Int32) (x10 : Int32), K73 x8 x9 x10 = some r0 → x_J p l e (x_rm 3) s m args below meth c 0 0 (MQ below (x_Qi D vwCl m_N (m_C cI cZ ad) ad r0 σ) args s 0 0 (x_A m_N ad)) (x_A m_N ad) 15 (x_I D vwCl m_N (m_C cI cZ ad) ad σ) [(0, .ref (ad 0)), (1, .int x1), (2, .int x2), (4, .int x4), (5, .int x5), (6, .int x6), (7, .int x7), (8, .int x8), (9, .int x9), (10, .int x10)] [] 73) (hK91 : ∀ (x11 : Int32) (x12 : Int32) (x13 : Int32), K91 x11 x12 x13 = some r0 → x_J p l e (x_rm 3) s m args below meth c 0 0 (MQ below (x_Qi D vwCl m_N (m_C cI cZ ad) ad r0 σ) args s 0 0 (x_A m_N ad)) (x_A m_N ad) 15 (x_I D vwCl m_N (m_C cI cZ ad) ad σ) [(0, .ref (ad 0)), (1, .int x1), (2, .int x2), (4, .int x4), (5, .int x5), (6, .int x6), (7, .int x7), (8, .int x8), (9, .int x9), (10, .int x10), (11, .int x11), (12, .int x12), (13, .int x13)] [] 91) (hf : bX8_tremble_158 K73 K91 x1 x2 x4 x5 x6 x7 x8 x9 x10 x11 x13 y0 y1 y2 y4 σ = some r0) : x_J p l e (x_rm 3) s m args below meth c 0 0 (MQ below (x_Qi D vwCl m_N (m_C cI cZ ad) ad r0 σ) args s 0 0 (x_A m_N ad)) (x_A m_N ad) 15 (x_I D vwCl m_N (m_C cI cZ ad) ad σ) [(0, .ref (ad 0)), (1, .int x1), (2, .int x2), (4, .int x4), (5, .int x5), (6, .int x6), (7, .int x7), (8, .int x8), (9, .int x9), (10, .int x10), (11, .int x11), (13, .int x13)] [.int y0, .int y1, .int y2, .ref (ad 0), .int y4] 158 := by
  unfold bX8_tremble_158 at hf
  refine x_iadd B dX8_tremble_158 ?_
  refine x_iload_n B dX8_tremble_159 rfl 2 rfl ?_
  refine x_iload B dX8_tremble_160 11 rfl ?_
  refine x_iadd B dX8_tremble_162 ?_
  obtain ⟨r2, e1, hf⟩ := x_ps hf
  refine x_callV (As := [.int y2, .int (y1 + y0), .int (x2 + x13)]) (st := [.int y4]) B G (mX8_owes (l := l) G.1.2.1  e1) (cwV 3 B.2.2.2.2.1 gX8_tremble_X8_owes rfl rfl rfl hdX8_owes (x_rm_ok (by omega) (by decide))) (by decide) m_c0 rfl rfl rfl (Nat.le_of_ble_eq_true rfl) ⟨Nat.zero_le _, Nat.zero_le _⟩ dX8_tremble_163 ?_
  refine x_iadd B dX8_tremble_166 ?_
  refine x_istore (lv' := [(12, .int (y4 + r2)), (0, .ref (ad 0)), (1, .int x1), (2, .int x2), (4, .int x4), (5, .int x5), (6, .int x6), (7, .int x7), (8, .int x8), (9, .int x9), (10, .int x10), (11, .int x11), (13, .int x13)]) B dX8_tremble_167 (by decide) rfl ?_
  refine x_iinc (v := (x13 + 1)) (lv' := [(13, .int (x13 + 1)), (12, .int (y4 + r2)), (0, .ref (ad 0)), (1, .int x1), (2, .int x2), (4, .int x4), (5, .int x5), (6, .int x6), (7, .int x7), (8, .int x8), (9, .int x9), (10, .int x10), (11, .int x11)]) B dX8_tremble_169 12 rfl rfl (by decide) rfl ?_
  refine x_goto (tgt := 91) B dX8_tremble_172 (by decide) ?_
  refine x_sub [2, 3, 4, 5, 6, 7, 8, 9, 10, 11, 12, 1, 0] rfl ?_
  exact hK91 _ _ _ hf
set_option maxRecDepth 100000 in
set_option maxHeartbeats 4000000 in
theorem kX8_tremble_124 {σ : x_S} {K73 : Int32 → Int32 → Int32 → Option Int32} {K91 : Int32 → Int32 → Int32 → Option Int32} {x1 : Int32} {x2 : Int32} {x4 : Int32} {x5 : Int32} {x6 : Int32} {x7 : Int32} {x8 : Int32} {x9 : Int32} {x10 : Int32} {x12 : Int32} {x13 : Int32} {x14 : Int32} {y0 : Int32} {y1 : Int32} (B : x_B p s m args meth c cX8_tremble 15 wsX8_tremble RX8) (G : x_H s D vwCl (s_tys cI cQ cC cZ) m_N ad (x_A m_N ad) m_St m_NW) (hr : meth.sig.returnType = (some .int)) (hK73 : ∀ (x8 : Int32) (x9 : Int32) (x10 : Int32), K73 x8 x9 x10 = some r0 → x_J p l e (x_rm 3) s m args below meth c 0 0 (MQ below (x_Qi D vwCl m_N (m_C cI cZ ad) ad r0 σ) args s 0 0 (x_A m_N ad)) (x_A m_N ad) 15 (x_I D vwCl m_N (m_C cI cZ ad) ad σ) [(0, .ref (ad 0)), (1, .int x1), (2, .int x2), (4, .int x4), (5, .int x5), (6, .int x6), (7, .int x7), (8, .int x8), (9, .int x9), (10, .int x10)] [] 73) (hK91 : ∀ (x11 : Int32) (x12 : Int32) (x13 : Int32), K91 x11 x12 x13 = some r0 → x_J p l e (x_rm 3) s m args below meth c 0 0 (MQ below (x_Qi D vwCl m_N (m_C cI cZ ad) ad r0 σ) args s 0 0 (x_A m_N ad)) (x_A m_N ad) 15 (x_I D vwCl m_N (m_C cI cZ ad) ad σ) [(0, .ref (ad 0)), (1, .int x1), (2, .int x2), (4, .int x4), (5, .int x5), (6, .int x6), (7, .int x7), (8, .int x8), (9, .int x9), (10, .int x10), (11, .int x11), (12, .int x12), (13, .int x13)] [] 91) (hf : bX8_tremble_124 K73 K91 x1 x2 x4 x5 x6 x7 x8 x9 x10 x12 x13 x14 y0 y1 σ = some r0) : x_J p l e (x_rm 3) s m args below meth c 0 0 (MQ below (x_Qi D vwCl m_N (m_C cI cZ ad) ad r0 σ) args s 0 0 (x_A m_N ad)) (x_A m_N ad) 15 (x_I D vwCl m_N (m_C cI cZ ad) ad σ) [(0, .ref (ad 0)), (1, .int x1), (2, .int x2), (4, .int x4), (5, .int x5), (6, .int x6), (7, .int x7), (8, .int x8), (9, .int x9), (10, .int x10), (12, .int x12), (13, .int x13), (14, .int x14)] [.int y0, .int y1] 124 := by
  unfold bX8_tremble_124 at hf
  refine x_imul B dX8_tremble_124 ?_
  refine x_istore (lv' := [(11, .int (y1 * y0)), (0, .ref (ad 0)), (1, .int x1), (2, .int x2), (4, .int x4), (5, .int x5), (6, .int x6), (7, .int x7), (8, .int x8), (9, .int x9), (10, .int x10), (12, .int x12), (13, .int x13), (14, .int x14)]) B dX8_tremble_125 (by decide) rfl ?_
  refine x_iload B dX8_tremble_127 11 rfl ?_
  refine x_aload_n B dX8_tremble_129 rfl 1 rfl ?_
  refine x_aload_n B dX8_tremble_130 rfl 1 rfl ?_
  refine x_get (v := .ref (ad 1)) (kc := 0) (index := 7) B G.1 iX8_tremble_cX8 rfl (by decide) m_c0 0 (by decide) iX8_tremble_3 rfl dX8_tremble_131 ?_
  refine x_bipush (v := 19) B dX8_tremble_134 (by decide) ?_
  refine x_iload_n B dX8_tremble_136 rfl 2 rfl ?_
  refine x_iadd B dX8_tremble_137 ?_
  obtain ⟨h1, hf⟩ := x_gs hf
  refine x_iald (kc := 1) (t0 := 0) B G.1 (by decide) m_c1 rfl h1 dX8_tremble_138 ?_
  refine x_aload_n B dX8_tremble_139 rfl 1 rfl ?_
  refine x_get (v := .ref (ad 1)) (kc := 0) (index := 7) B G.1 iX8_tremble_cX8 rfl (by decide) m_c0 0 (by decide) iX8_tremble_3 rfl dX8_tremble_140 ?_
  refine x_bipush (v := 25) B dX8_tremble_143 (by decide) ?_
  refine x_iload_n B dX8_tremble_145 rfl 2 rfl ?_
  refine x_iadd B dX8_tremble_146 ?_
  obtain ⟨h2, hf⟩ := x_gs hf
  refine x_iald (kc := 1) (t0 := 0) B G.1 (by decide) m_c1 rfl h2 dX8_tremble_147 ?_
  refine x_iload B dX8_tremble_148 13 rfl ?_
  refine x_if_eq (tgt := 157) B dX8_tremble_150 (by decide) (fun h3 => ?_) (fun h3 => ?_)
  · replace hf := x_it h3 hf
    refine x_iconst (v := 0) B dX8_tremble_157 (by decide) ?_
    refine x_sub [1, 2, 3, 4, 5, 6, 7, 8, 9, 10, 0, 12] rfl ?_
    exact kX8_tremble_158 B G hr hK73 hK91 hf
  · replace hf := x_if h3 hf
    refine x_iconst (v := 1) B dX8_tremble_153 (by decide) ?_
    refine x_goto (tgt := 158) B dX8_tremble_154 (by decide) ?_
    refine x_sub [1, 2, 3, 4, 5, 6, 7, 8, 9, 10, 0, 12] rfl ?_
    exact kX8_tremble_158 B G hr hK73 hK91 hf
set_option maxRecDepth 100000 in
set_option maxHeartbeats 4000000 in
theorem qX8_tremble_91 {σ : x_S} {K73 : Int32 → Int32 → Int32 → Option Int32} {x1 : Int32} {x2 : Int32} {x4 : Int32} {x5 : Int32} {x6 : Int32} {x7 : Int32} {x8 : Int32} {x9 : Int32} {x10 : Int32} {x11 : Int32} {x12 : Int32} {x13 : Int32} {K91 : Int32 → Int32 → Int32 → Option Int32} (B : x_B p s m args meth c cX8_tremble 15 wsX8_tremble RX8) (G : x_H s D vwCl (s_tys cI cQ cC cZ) m_N ad (x_A m_N ad) m_St m_NW) (hr : meth.sig.returnType = (some .int)) (hK73 : ∀ (x8 : Int32) (x9 : Int32) (x10 : Int32), K73 x8 x9 x10 = some r0 → x_J p l e (x_rm 3) s m args below meth c 0 0 (MQ below (x_Qi D vwCl m_N (m_C cI cZ ad) ad r0 σ) args s 0 0 (x_A m_N ad)) (x_A m_N ad) 15 (x_I D vwCl m_N (m_C cI cZ ad) ad σ) [(0, .ref (ad 0)), (1, .int x1), (2, .int x2), (4, .int x4), (5, .int x5), (6, .int x6), (7, .int x7), (8, .int x8), (9, .int x9), (10, .int x10)] [] 73) (hK91 : ∀ (x11 : Int32) (x12 : Int32) (x13 : Int32), K91 x11 x12 x13 = some r0 → x_J p l e (x_rm 3) s m args below meth c 0 0 (MQ below (x_Qi D vwCl m_N (m_C cI cZ ad) ad r0 σ) args s 0 0 (x_A m_N ad)) (x_A m_N ad) 15 (x_I D vwCl m_N (m_C cI cZ ad) ad σ) [(0, .ref (ad 0)), (1, .int x1), (2, .int x2), (4, .int x4), (5, .int x5), (6, .int x6), (7, .int x7), (8, .int x8), (9, .int x9), (10, .int x10), (11, .int x11), (12, .int x12), (13, .int x13)] [] 91) (hf : gX8_tremble_91 K73 x1 x2 x4 x5 x6 x7 x8 x9 x10 K91 x11 x12 x13 σ = some r0) : x_J p l e (x_rm 3) s m args below meth c 0 0 (MQ below (x_Qi D vwCl m_N (m_C cI cZ ad) ad r0 σ) args s 0 0 (x_A m_N ad)) (x_A m_N ad) 15 (x_I D vwCl m_N (m_C cI cZ ad) ad σ) [(0, .ref (ad 0)), (1, .int x1), (2, .int x2), (4, .int x4), (5, .int x5), (6, .int x6), (7, .int x7), (8, .int x8), (9, .int x9), (10, .int x10), (11, .int x11), (12, .int x12), (13, .int x13)] [] 91 := by
  unfold gX8_tremble_91 at hf
  refine x_iload B dX8_tremble_91 12 rfl ?_
  refine x_iload B dX8_tremble_93 6 rfl ?_
  refine x_icmp_ge (tgt := 175) B dX8_tremble_95 (by decide) (fun h1 => ?_) (fun h1 => ?_)
  · replace hf := x_it h1 hf
    refine x_iload B dX8_tremble_175 7 rfl ?_
    refine x_iload B dX8_tremble_177 11 rfl ?_
    refine x_iload B dX8_tremble_179 3 rfl ?_
    refine x_icmp_gt (tgt := 189) B dX8_tremble_181 (by decide) (fun h2 => ?_) (fun h2 => ?_)
    · replace hf := x_it h2 hf
      refine x_iconst (v := 0) B dX8_tremble_189 (by decide) ?_
      refine x_sub [0, 1, 2, 3, 4, 5, 6, 8, 9, 10] rfl ?_
      exact kX8_tremble_190 B G hr hK73 hf
    · replace hf := x_if h2 hf
      refine x_iload B dX8_tremble_184 10 rfl ?_
      refine x_goto (tgt := 190) B dX8_tremble_186 (by decide) ?_
      refine x_sub [0, 1, 2, 3, 4, 5, 6, 8, 9, 10] rfl ?_
      exact kX8_tremble_190 B G hr hK73 hf
  · replace hf := x_if h1 hf
    refine x_iload B dX8_tremble_98 9 rfl ?_
    refine x_iload B dX8_tremble_100 12 rfl ?_
    obtain ⟨r4, e3, hf⟩ := x_ps hf
    refine x_callS (As := [.int x10, .int x13]) (st := []) B G (mX8_has (l := l) G.1.2.1  e3) (va_cwS 2 B.2.2.2.2.1 gX8_tremble_X8_has rfl rfl rfl hdX8_has (x_rm_ok (by omega) (by decide))) rfl rfl (Nat.le_of_ble_eq_true rfl) ⟨Nat.zero_le _, Nat.zero_le _⟩ dX8_tremble_102 ?_
    refine x_istore (lv' := [(14, .int r4), (0, .ref (ad 0)), (1, .int x1), (2, .int x2), (4, .int x4), (5, .int x5), (6, .int x6), (7, .int x7), (8, .int x8), (9, .int x9), (10, .int x10), (11, .int x11), (12, .int x12), (13, .int x13)]) B dX8_tremble_105 (by decide) rfl ?_
    refine x_iload B dX8_tremble_107 11 rfl ?_
    refine x_iload B dX8_tremble_109 0 rfl ?_
    refine x_if_eq (tgt := 119) B dX8_tremble_111 (by decide) (fun h5 => ?_) (fun h5 => ?_)
    · replace hf := x_it h5 hf
      refine x_bipush (v := 10) B dX8_tremble_119 (by decide) ?_
      refine x_iload B dX8_tremble_121 5 rfl ?_
      refine x_isub B dX8_tremble_123 ?_
      refine x_sub [1, 2, 3, 4, 5, 6, 7, 8, 9, 10, 12, 13, 0] rfl ?_
      exact kX8_tremble_124 B G hr hK73 hK91 hf
    · replace hf := x_if h5 hf
      refine x_iload B dX8_tremble_114 5 rfl ?_
      refine x_goto (tgt := 124) B dX8_tremble_116 (by decide) ?_
      refine x_sub [1, 2, 3, 4, 5, 6, 7, 8, 9, 10, 12, 13, 0] rfl ?_
      exact kX8_tremble_124 B G hr hK73 hK91 hf
set_option maxRecDepth 100000 in
set_option maxHeartbeats 4000000 in
theorem kX8_tremble_91 {σ : x_S} {K73 : Int32 → Int32 → Int32 → Option Int32} {x1 : Int32} {x2 : Int32} {x4 : Int32} {x5 : Int32} {x6 : Int32} {x7 : Int32} {x8 : Int32} {x9 : Int32} {x10 : Int32} {x11 : Int32} {x12 : Int32} {x13 : Int32} (B : x_B p s m args meth c cX8_tremble 15 wsX8_tremble RX8) (G : x_H s D vwCl (s_tys cI cQ cC cZ) m_N ad (x_A m_N ad) m_St m_NW) (hr : meth.sig.returnType = (some .int)) (hK73 : ∀ (x8 : Int32) (x9 : Int32) (x10 : Int32), K73 x8 x9 x10 = some r0 → x_J p l e (x_rm 3) s m args below meth c 0 0 (MQ below (x_Qi D vwCl m_N (m_C cI cZ ad) ad r0 σ) args s 0 0 (x_A m_N ad)) (x_A m_N ad) 15 (x_I D vwCl m_N (m_C cI cZ ad) ad σ) [(0, .ref (ad 0)), (1, .int x1), (2, .int x2), (4, .int x4), (5, .int x5), (6, .int x6), (7, .int x7), (8, .int x8), (9, .int x9), (10, .int x10)] [] 73) (hf : bX8_tremble_91 K73 x1 x2 x4 x5 x6 x7 x8 x9 x10 x11 x12 x13 σ = some r0) : x_J p l e (x_rm 3) s m args below meth c 0 0 (MQ below (x_Qi D vwCl m_N (m_C cI cZ ad) ad r0 σ) args s 0 0 (x_A m_N ad)) (x_A m_N ad) 15 (x_I D vwCl m_N (m_C cI cZ ad) ad σ) [(0, .ref (ad 0)), (1, .int x1), (2, .int x2), (4, .int x4), (5, .int x5), (6, .int x6), (7, .int x7), (8, .int x8), (9, .int x9), (10, .int x10), (11, .int x11), (12, .int x12), (13, .int x13)] [] 91 := by
  have key : ∀ (n : Nat) (x11 : Int32) (x12 : Int32) (x13 : Int32), x_fx (α := Int32 → Int32 → Int32 → Option Int32) (fun _ _ _ => none) (fun K => fun x11 x12 x13 => gX8_tremble_91 K73 x1 x2 x4 x5 x6 x7 x8 x9 x10 K x11 x12 x13 σ) n x11 x12 x13 = some r0 → x_J p l e (x_rm 3) s m args below meth c 0 0 (MQ below (x_Qi D vwCl m_N (m_C cI cZ ad) ad r0 σ) args s 0 0 (x_A m_N ad)) (x_A m_N ad) 15 (x_I D vwCl m_N (m_C cI cZ ad) ad σ) [(0, .ref (ad 0)), (1, .int x1), (2, .int x2), (4, .int x4), (5, .int x5), (6, .int x6), (7, .int x7), (8, .int x8), (9, .int x9), (10, .int x10), (11, .int x11), (12, .int x12), (13, .int x13)] [] 91 := by
    intro n
    induction n with
    | zero => intro x11 x12 x13 h; cases h
    | succ n ih => intro x11 x12 x13 h; exact qX8_tremble_91 B G hr hK73 ih  h
  exact key x_F x11 x12 x13 hf
set_option maxRecDepth 100000 in
set_option maxHeartbeats 4000000 in
theorem qX8_tremble_73 {σ : x_S} {x1 : Int32} {x2 : Int32} {x4 : Int32} {x5 : Int32} {x6 : Int32} {x7 : Int32} {x8 : Int32} {x9 : Int32} {x10 : Int32} {K73 : Int32 → Int32 → Int32 → Option Int32} (B : x_B p s m args meth c cX8_tremble 15 wsX8_tremble RX8) (G : x_H s D vwCl (s_tys cI cQ cC cZ) m_N ad (x_A m_N ad) m_St m_NW) (hr : meth.sig.returnType = (some .int)) (hK73 : ∀ (x8 : Int32) (x9 : Int32) (x10 : Int32), K73 x8 x9 x10 = some r0 → x_J p l e (x_rm 3) s m args below meth c 0 0 (MQ below (x_Qi D vwCl m_N (m_C cI cZ ad) ad r0 σ) args s 0 0 (x_A m_N ad)) (x_A m_N ad) 15 (x_I D vwCl m_N (m_C cI cZ ad) ad σ) [(0, .ref (ad 0)), (1, .int x1), (2, .int x2), (4, .int x4), (5, .int x5), (6, .int x6), (7, .int x7), (8, .int x8), (9, .int x9), (10, .int x10)] [] 73) (hf : gX8_tremble_73  x1 x2 x4 x5 x6 x7 K73 x8 x9 x10 σ = some r0) : x_J p l e (x_rm 3) s m args below meth c 0 0 (MQ below (x_Qi D vwCl m_N (m_C cI cZ ad) ad r0 σ) args s 0 0 (x_A m_N ad)) (x_A m_N ad) 15 (x_I D vwCl m_N (m_C cI cZ ad) ad σ) [(0, .ref (ad 0)), (1, .int x1), (2, .int x2), (4, .int x4), (5, .int x5), (6, .int x6), (7, .int x7), (8, .int x8), (9, .int x9), (10, .int x10)] [] 73 := by
  unfold gX8_tremble_73 at hf
  refine x_iload B dX8_tremble_73 9 rfl ?_
  refine x_iconst (v := 1) B dX8_tremble_75 (by decide) ?_
  refine x_iload B dX8_tremble_76 6 rfl ?_
  refine x_ishl B dX8_tremble_78 ?_
  refine x_icmp_ge (tgt := 206) B dX8_tremble_79 (by decide) (fun h1 => ?_) (fun h1 => ?_)
  · replace hf := x_it h1 hf
    refine x_iload B dX8_tremble_206 7 rfl ?_
    refine x_istore (lv' := [(10, .int x8), (0, .ref (ad 0)), (1, .int x1), (2, .int x2), (4, .int x4), (5, .int x5), (6, .int x6), (7, .int x7), (8, .int x8), (9, .int x9)]) B dX8_tremble_208 (by decide) rfl ?_
    refine x_iload B dX8_tremble_210 9 rfl ?_
    refine x_istore (lv' := [(11, .int x9), (10, .int x8), (0, .ref (ad 0)), (1, .int x1), (2, .int x2), (4, .int x4), (5, .int x5), (6, .int x6), (7, .int x7), (8, .int x8), (9, .int x9)]) B dX8_tremble_212 (by decide) rfl ?_
    refine x_sub [7, 9, 10, 1, 0] rfl ?_
    exact kX8_tremble_214 B G hr hf
  · replace hf := x_if h1 hf
    refine x_iconst (v := 1) B dX8_tremble_82 (by decide) ?_
    refine x_istore (lv' := [(11, .int 1), (0, .ref (ad 0)), (1, .int x1), (2, .int x2), (4, .int x4), (5, .int x5), (6, .int x6), (7, .int x7), (8, .int x8), (9, .int x9), (10, .int x10)]) B dX8_tremble_83 (by decide) rfl ?_
    refine x_iconst (v := 0) B dX8_tremble_85 (by decide) ?_
    refine x_istore (lv' := [(12, .int 0), (11, .int 1), (0, .ref (ad 0)), (1, .int x1), (2, .int x2), (4, .int x4), (5, .int x5), (6, .int x6), (7, .int x7), (8, .int x8), (9, .int x9), (10, .int x10)]) B dX8_tremble_86 (by decide) rfl ?_
    refine x_iconst (v := 0) B dX8_tremble_88 (by decide) ?_
    refine x_istore (lv' := [(13, .int 0), (12, .int 0), (11, .int 1), (0, .ref (ad 0)), (1, .int x1), (2, .int x2), (4, .int x4), (5, .int x5), (6, .int x6), (7, .int x7), (8, .int x8), (9, .int x9), (10, .int x10)]) B dX8_tremble_89 (by decide) rfl ?_
    refine x_sub [3, 4, 5, 6, 7, 8, 9, 10, 11, 12, 2, 1, 0] rfl ?_
    exact kX8_tremble_91 B G hr hK73 hf
set_option maxRecDepth 100000 in
set_option maxHeartbeats 4000000 in
theorem kX8_tremble_73 {σ : x_S} {x1 : Int32} {x2 : Int32} {x4 : Int32} {x5 : Int32} {x6 : Int32} {x7 : Int32} {x8 : Int32} {x9 : Int32} {x10 : Int32} (B : x_B p s m args meth c cX8_tremble 15 wsX8_tremble RX8) (G : x_H s D vwCl (s_tys cI cQ cC cZ) m_N ad (x_A m_N ad) m_St m_NW) (hr : meth.sig.returnType = (some .int)) (hf : bX8_tremble_73  x1 x2 x4 x5 x6 x7 x8 x9 x10 σ = some r0) : x_J p l e (x_rm 3) s m args below meth c 0 0 (MQ below (x_Qi D vwCl m_N (m_C cI cZ ad) ad r0 σ) args s 0 0 (x_A m_N ad)) (x_A m_N ad) 15 (x_I D vwCl m_N (m_C cI cZ ad) ad σ) [(0, .ref (ad 0)), (1, .int x1), (2, .int x2), (4, .int x4), (5, .int x5), (6, .int x6), (7, .int x7), (8, .int x8), (9, .int x9), (10, .int x10)] [] 73 := by
  have key : ∀ (n : Nat) (x8 : Int32) (x9 : Int32) (x10 : Int32), x_fx (α := Int32 → Int32 → Int32 → Option Int32) (fun _ _ _ => none) (fun K => fun x8 x9 x10 => gX8_tremble_73  x1 x2 x4 x5 x6 x7 K x8 x9 x10 σ) n x8 x9 x10 = some r0 → x_J p l e (x_rm 3) s m args below meth c 0 0 (MQ below (x_Qi D vwCl m_N (m_C cI cZ ad) ad r0 σ) args s 0 0 (x_A m_N ad)) (x_A m_N ad) 15 (x_I D vwCl m_N (m_C cI cZ ad) ad σ) [(0, .ref (ad 0)), (1, .int x1), (2, .int x2), (4, .int x4), (5, .int x5), (6, .int x6), (7, .int x7), (8, .int x8), (9, .int x9), (10, .int x10)] [] 73 := by
    intro n
    induction n with
    | zero => intro x8 x9 x10 h; cases h
    | succ n ih => intro x8 x9 x10 h; exact qX8_tremble_73 B G hr  ih  h
  exact key x_F x8 x9 x10 hf
set_option maxRecDepth 100000 in
set_option maxHeartbeats 4000000 in
theorem mX8_tremble {σ : x_S} {a1 : Int32} {a2 : Int32} {a3 : Int32} {a4 : Int32} {a5 : Int32} {a6 : Int32} (hdis : x_dis m_N ad) (hf : fX8_tremble a1 a2 a3 a4 a5 a6 σ = some r0) : x_NI l yX8_tremble wsX8_tremble 3 D vwCl (s_tys cI cQ cC cZ) m_N (m_C cI cZ ad) ad m_St m_NW [.ref (ad 0), .int a1, .int a2, .int a3, .int a4, .int a5, .int a6] σ r0 σ := by
  refine x_met (cc := cX8_tremble) (own := RX8) (maxL := 15) (ret := (some .int)) (by decide +kernel) rfl rfl (Nat.le_of_ble_eq_true rfl) hdis m_StOk m_NwOk (fun p e s m args below meth c B G hr => ?_)
  unfold fX8_tremble at hf
  refine x_sub (lv' := [(0, .ref (ad 0)), (1, .int a1), (2, .int a2), (3, .int a3), (4, .int a4), (5, .int a5), (6, .int a6)]) [0, 1, 2, 3, 4, 5, 6] rfl ?_
  refine x_aload_n B dX8_tremble_0 rfl 0 rfl ?_
  refine x_iload_n B dX8_tremble_1 rfl 1 rfl ?_
  obtain ⟨r2, e1, hf⟩ := x_ps hf
  refine x_callV (As := [.int a1]) (st := []) B G (mX8_isGesture (l := l) G.1.2.1  e1) (cwV 1 B.2.2.2.2.1 gX8_tremble_X8_isGesture rfl rfl rfl hdX8_isGesture (x_rm_ok (by omega) (by decide))) (by decide) m_c0 rfl rfl rfl (Nat.le_of_ble_eq_true rfl) ⟨Nat.zero_le _, Nat.zero_le _⟩ dX8_tremble_2 ?_
  refine x_if_eq (tgt := 54) B dX8_tremble_5 (by decide) (fun h3 => ?_) (fun h3 => ?_)
  · replace hf := x_it h3 hf
    refine x_ldc (v := (-1000001)) B iX8_tremble_0 dX8_tremble_54 ?_
    obtain rfl := x_retP hf
    exact x_iret B hr dX8_tremble_56
  · replace hf := x_if h3 hf
    refine x_aload_n B dX8_tremble_8 rfl 0 rfl ?_
    refine x_iload_n B dX8_tremble_9 rfl 2 rfl ?_
    refine x_iload_n B dX8_tremble_10 rfl 3 rfl ?_
    obtain ⟨r5, e4, hf⟩ := x_ps hf
    refine x_callV (As := [.int a2, .int a3]) (st := []) B G (mX8_areStreets (l := l) G.1.2.1  e4) (cwV 2 B.2.2.2.2.1 gX8_tremble_X8_areStreets rfl rfl rfl hdX8_areStreets (x_rm_ok (by omega) (by decide))) (by decide) m_c0 rfl rfl rfl (Nat.le_of_ble_eq_true rfl) ⟨Nat.zero_le _, Nat.zero_le _⟩ dX8_tremble_11 ?_
    refine x_if_eq (tgt := 54) B dX8_tremble_14 (by decide) (fun h6 => ?_) (fun h6 => ?_)
    · replace hf := x_it h6 hf
      refine x_ldc (v := (-1000001)) B iX8_tremble_0 dX8_tremble_54 ?_
      obtain rfl := x_retP hf
      exact x_iret B hr dX8_tremble_56
    · replace hf := x_if h6 hf
      refine x_iload B dX8_tremble_17 4 rfl ?_
      refine x_i2l B dX8_tremble_19 ?_
      refine x_lconst (v := 0) B dX8_tremble_20 (by decide) ?_
      refine x_ldc2 (v := 9999) B iX8_tremble_1 dX8_tremble_21 ?_
      obtain ⟨r8, e7, hf⟩ := x_ps hf
      refine x_callS (As := [.long a4.toInt64, .long 0, .long 9999]) (st := []) B G (mX8_in (l := l) G.1.2.1  e7) (va_cwS 3 B.2.2.2.2.1 gX8_tremble_X8_in rfl rfl rfl hdX8_in (x_rm_ok (by omega) (by decide))) rfl rfl (Nat.le_of_ble_eq_true rfl) ⟨Nat.zero_le _, Nat.zero_le _⟩ dX8_tremble_24 ?_
      refine x_if_eq (tgt := 54) B dX8_tremble_27 (by decide) (fun h9 => ?_) (fun h9 => ?_)
      · replace hf := x_it h9 hf
        refine x_ldc (v := (-1000001)) B iX8_tremble_0 dX8_tremble_54 ?_
        obtain rfl := x_retP hf
        exact x_iret B hr dX8_tremble_56
      · replace hf := x_if h9 hf
        refine x_iload B dX8_tremble_30 5 rfl ?_
        refine x_i2l B dX8_tremble_32 ?_
        refine x_lconst (v := 0) B dX8_tremble_33 (by decide) ?_
        refine x_ldc2 (v := 10) B iX8_tremble_2 dX8_tremble_34 ?_
        obtain ⟨r11, e10, hf⟩ := x_ps hf
        refine x_callS (As := [.long a5.toInt64, .long 0, .long 10]) (st := []) B G (mX8_in (l := l) G.1.2.1  e10) (va_cwS 3 B.2.2.2.2.1 gX8_tremble_X8_in rfl rfl rfl hdX8_in (x_rm_ok (by omega) (by decide))) rfl rfl (Nat.le_of_ble_eq_true rfl) ⟨Nat.zero_le _, Nat.zero_le _⟩ dX8_tremble_37 ?_
        refine x_if_eq (tgt := 54) B dX8_tremble_40 (by decide) (fun h12 => ?_) (fun h12 => ?_)
        · replace hf := x_it h12 hf
          refine x_ldc (v := (-1000001)) B iX8_tremble_0 dX8_tremble_54 ?_
          obtain rfl := x_retP hf
          exact x_iret B hr dX8_tremble_56
        · replace hf := x_if h12 hf
          refine x_iload B dX8_tremble_43 6 rfl ?_
          refine x_i2l B dX8_tremble_45 ?_
          refine x_lconst (v := 0) B dX8_tremble_46 (by decide) ?_
          refine x_lconst (v := 1) B dX8_tremble_47 (by decide) ?_
          obtain ⟨r14, e13, hf⟩ := x_ps hf
          refine x_callS (As := [.long a6.toInt64, .long 0, .long 1]) (st := []) B G (mX8_in (l := l) G.1.2.1  e13) (va_cwS 3 B.2.2.2.2.1 gX8_tremble_X8_in rfl rfl rfl hdX8_in (x_rm_ok (by omega) (by decide))) rfl rfl (Nat.le_of_ble_eq_true rfl) ⟨Nat.zero_le _, Nat.zero_le _⟩ dX8_tremble_48 ?_
          refine x_if_ne (tgt := 57) B dX8_tremble_51 (by decide) (fun h15 => ?_) (fun h15 => ?_)
          · replace hf := x_if h15 hf
            refine x_iload_n B dX8_tremble_57 rfl 3 rfl ?_
            refine x_iload_n B dX8_tremble_58 rfl 2 rfl ?_
            refine x_isub B dX8_tremble_59 ?_
            refine x_iconst (v := 1) B dX8_tremble_60 (by decide) ?_
            refine x_iadd B dX8_tremble_61 ?_
            refine x_istore (lv' := [(7, .int ((a3 - a2) + 1)), (0, .ref (ad 0)), (1, .int a1), (2, .int a2), (3, .int a3), (4, .int a4), (5, .int a5), (6, .int a6)]) B dX8_tremble_62 (by decide) rfl ?_
            refine x_iconst (v := 0) B dX8_tremble_64 (by decide) ?_
            refine x_istore (lv' := [(8, .int 0), (7, .int ((a3 - a2) + 1)), (0, .ref (ad 0)), (1, .int a1), (2, .int a2), (3, .int a3), (4, .int a4), (5, .int a5), (6, .int a6)]) B dX8_tremble_65 (by decide) rfl ?_
            refine x_iconst (v := 0) B dX8_tremble_67 (by decide) ?_
            refine x_istore (lv' := [(9, .int 0), (8, .int 0), (7, .int ((a3 - a2) + 1)), (0, .ref (ad 0)), (1, .int a1), (2, .int a2), (3, .int a3), (4, .int a4), (5, .int a5), (6, .int a6)]) B dX8_tremble_68 (by decide) rfl ?_
            refine x_iconst (v := 0) B dX8_tremble_70 (by decide) ?_
            refine x_istore (lv' := [(10, .int 0), (9, .int 0), (8, .int 0), (7, .int ((a3 - a2) + 1)), (0, .ref (ad 0)), (1, .int a1), (2, .int a2), (3, .int a3), (4, .int a4), (5, .int a5), (6, .int a6)]) B dX8_tremble_71 (by decide) rfl ?_
            refine x_sub [4, 5, 6, 8, 9, 10, 3, 2, 1, 0] rfl ?_
            exact kX8_tremble_73 B G hr hf
          · replace hf := x_it h15 hf
            refine x_ldc (v := (-1000001)) B iX8_tremble_0 dX8_tremble_54 ?_
            obtain rfl := x_retP hf
            exact x_iret B hr dX8_tremble_56
theorem iX8_image_0 : Cond.fieldLink RX8 127 "SignDutyModel" "isCity" "Z" ∈ wsX8_image := by decide +kernel
theorem iX8_image_cX8 : ∀ w ∈ u_ws RX8 TX8 17, w ∈ wsX8_image := by decide +kernel
theorem iX8_image_2 : Cond.fieldLink RX8 13 "SignDutyModel" "isKept" "[Z" ∈ wsX8_image := by decide +kernel
theorem iX8_image_3 : Cond.constant RX8 134 (-1000002) ∈ wsX8_image := by decide +kernel
theorem iX8_image_4 : Cond.constant RX8 52 (-1000001) ∈ wsX8_image := by decide +kernel
set_option maxRecDepth 100000 in
set_option maxHeartbeats 4000000 in
theorem mX8_image {σ : x_S} {a1 : Int32} (hdis : x_dis m_N ad) (hf : fX8_image a1 σ = some (r0, σ0)) : x_NI l yX8_image wsX8_image 1 D vwCl (s_tys cI cQ cC cZ) m_N (m_C cI cZ ad) ad m_St m_NW [.ref (ad 0), .int a1] σ r0 σ0 := by
  refine x_met (cc := cX8_image) (own := RX8) (maxL := 2) (ret := (some .int)) (by decide +kernel) rfl rfl (Nat.le_of_ble_eq_true rfl) hdis m_StOk m_NwOk (fun p e s m args below meth c B G hr => ?_)
  unfold fX8_image at hf
  refine x_sub (lv' := [(0, .ref (ad 0)), (1, .int a1)]) [0, 1] rfl ?_
  refine x_iload_n B dX8_image_0 rfl 1 rfl ?_
  refine x_i2l B dX8_image_1 ?_
  refine x_lconst (v := 0) B dX8_image_2 (by decide) ?_
  refine x_lconst (v := 1) B dX8_image_3 (by decide) ?_
  obtain ⟨r2, e1, hf⟩ := x_ps hf
  refine x_callS (As := [.long a1.toInt64, .long 0, .long 1]) (st := []) B G (mX8_in (l := l) G.1.2.1  e1) (va_cwS 3 B.2.2.2.2.1 gX8_image_X8_in rfl rfl rfl hdX8_in (x_rm_ok (by omega) (by decide))) rfl rfl (Nat.le_of_ble_eq_true rfl) ⟨Nat.zero_le _, Nat.zero_le _⟩ dX8_image_4 ?_
  refine x_if_ne (tgt := 13) B dX8_image_7 (by decide) (fun h3 => ?_) (fun h3 => ?_)
  · replace hf := x_if h3 hf
    refine x_aload_n B dX8_image_13 rfl 0 rfl ?_
    refine x_get (v := .int (σ 0 1)) (kc := 0) (index := 127) B G.1 iX8_image_cX8 rfl (by decide) m_c0 1 (by decide) iX8_image_0 rfl dX8_image_14 ?_
    refine x_if_ne (tgt := 23) B dX8_image_17 (by decide) (fun h4 => ?_) (fun h4 => ?_)
    · replace hf := x_if h4 hf
      refine x_aload_n B dX8_image_23 rfl 0 rfl ?_
      refine x_iconst (v := 0) B dX8_image_24 (by decide) ?_
      refine x_sipush (v := 1225) B dX8_image_25 (by decide) ?_
      refine x_bipush (v := 49) B dX8_image_28 (by decide) ?_
      refine x_iload_n B dX8_image_30 rfl 1 rfl ?_
      refine x_imul B dX8_image_31 ?_
      refine x_iadd B dX8_image_32 ?_
      obtain ⟨σ6, e5, hf⟩ := x_vs hf
      refine x_callVv (As := [.int 0, .int (1225 + (49 * a1))]) (st := []) B G (mX8_copyTown (l := l) G.1.2.1  e5) (cwV 2 B.2.2.2.2.1 gX8_image_X8_copyTown rfl rfl rfl hdX8_copyTown (x_rm_ok (by omega) (by decide))) (by decide) m_c0 rfl rfl rfl (Nat.le_of_ble_eq_true rfl) ⟨Nat.zero_le _, Nat.zero_le _⟩ dX8_image_33 ?_
      refine x_aload_n B dX8_image_36 rfl 0 rfl ?_
      refine x_get (v := .ref (ad 2)) (kc := 0) (index := 13) B G.1 iX8_image_cX8 rfl (by decide) m_c0 3 (by decide) iX8_image_2 rfl dX8_image_37 ?_
      refine x_iload_n B dX8_image_40 rfl 1 rfl ?_
      refine x_iconst (v := 1) B dX8_image_41 (by decide) ?_
      obtain ⟨h7, hf⟩ := x_gs hf
      obtain ⟨σ8, u9, hf⟩ := x_ws hf
      refine x_zast (kc := 2) (t0 := 3) B G.1 (by decide) m_c2 rfl h7 (by decide) dX8_image_42 ?_
      refine x_nm u9 ?_
      refine x_iconst (v := 1) B dX8_image_43 (by decide) ?_
      obtain ⟨rfl, rfl⟩ := x_retI hf
      exact x_iret B hr dX8_image_44
    · replace hf := x_it h4 hf
      refine x_ldc (v := (-1000002)) B iX8_image_3 dX8_image_20 ?_
      obtain ⟨rfl, rfl⟩ := x_retI hf
      exact x_iret B hr dX8_image_22
  · replace hf := x_it h3 hf
    refine x_ldc (v := (-1000001)) B iX8_image_4 dX8_image_10 ?_
    obtain ⟨rfl, rfl⟩ := x_retI hf
    exact x_iret B hr dX8_image_12
theorem iX8_restore_0 : Cond.fieldLink RX8 13 "SignDutyModel" "isKept" "[Z" ∈ wsX8_restore := by decide +kernel
theorem iX8_restore_cX8 : ∀ w ∈ u_ws RX8 TX8 17, w ∈ wsX8_restore := by decide +kernel
theorem iX8_restore_2 : Cond.fieldLink RX8 131 "SignDutyModel" "undos" "I" ∈ wsX8_restore := by decide +kernel
theorem iX8_restore_3 : Cond.constant RX8 134 (-1000002) ∈ wsX8_restore := by decide +kernel
theorem iX8_restore_4 : Cond.constant RX8 52 (-1000001) ∈ wsX8_restore := by decide +kernel
set_option maxRecDepth 100000 in
set_option maxHeartbeats 4000000 in
theorem mX8_restore {σ : x_S} {a1 : Int32} (hdis : x_dis m_N ad) (hf : fX8_restore a1 σ = some (r0, σ0)) : x_NI l yX8_restore wsX8_restore 1 D vwCl (s_tys cI cQ cC cZ) m_N (m_C cI cZ ad) ad m_St m_NW [.ref (ad 0), .int a1] σ r0 σ0 := by
  refine x_met (cc := cX8_restore) (own := RX8) (maxL := 2) (ret := (some .int)) (by decide +kernel) rfl rfl (Nat.le_of_ble_eq_true rfl) hdis m_StOk m_NwOk (fun p e s m args below meth c B G hr => ?_)
  unfold fX8_restore at hf
  refine x_sub (lv' := [(0, .ref (ad 0)), (1, .int a1)]) [0, 1] rfl ?_
  refine x_iload_n B dX8_restore_0 rfl 1 rfl ?_
  refine x_i2l B dX8_restore_1 ?_
  refine x_lconst (v := 0) B dX8_restore_2 (by decide) ?_
  refine x_lconst (v := 1) B dX8_restore_3 (by decide) ?_
  obtain ⟨r2, e1, hf⟩ := x_ps hf
  refine x_callS (As := [.long a1.toInt64, .long 0, .long 1]) (st := []) B G (mX8_in (l := l) G.1.2.1  e1) (va_cwS 3 B.2.2.2.2.1 gX8_restore_X8_in rfl rfl rfl hdX8_in (x_rm_ok (by omega) (by decide))) rfl rfl (Nat.le_of_ble_eq_true rfl) ⟨Nat.zero_le _, Nat.zero_le _⟩ dX8_restore_4 ?_
  refine x_if_ne (tgt := 13) B dX8_restore_7 (by decide) (fun h3 => ?_) (fun h3 => ?_)
  · replace hf := x_if h3 hf
    refine x_aload_n B dX8_restore_13 rfl 0 rfl ?_
    refine x_get (v := .ref (ad 2)) (kc := 0) (index := 13) B G.1 iX8_restore_cX8 rfl (by decide) m_c0 3 (by decide) iX8_restore_0 rfl dX8_restore_14 ?_
    refine x_iload_n B dX8_restore_17 rfl 1 rfl ?_
    obtain ⟨h4, hf⟩ := x_gs hf
    refine x_zald (kc := 2) (t0 := 3) B G.1 (by decide) m_c2 rfl h4 dX8_restore_18 ?_
    refine x_if_ne (tgt := 25) B dX8_restore_19 (by decide) (fun h5 => ?_) (fun h5 => ?_)
    · replace hf := x_if h5 hf
      refine x_aload_n B dX8_restore_25 rfl 0 rfl ?_
      refine x_sipush (v := 1225) B dX8_restore_26 (by decide) ?_
      refine x_bipush (v := 49) B dX8_restore_29 (by decide) ?_
      refine x_iload_n B dX8_restore_31 rfl 1 rfl ?_
      refine x_imul B dX8_restore_32 ?_
      refine x_iadd B dX8_restore_33 ?_
      refine x_iconst (v := 0) B dX8_restore_34 (by decide) ?_
      obtain ⟨σ7, e6, hf⟩ := x_vs hf
      refine x_callVv (As := [.int (1225 + (49 * a1)), .int 0]) (st := []) B G (mX8_copyTown (l := l) G.1.2.1  e6) (cwV 2 B.2.2.2.2.1 gX8_restore_X8_copyTown rfl rfl rfl hdX8_copyTown (x_rm_ok (by omega) (by decide))) (by decide) m_c0 rfl rfl rfl (Nat.le_of_ble_eq_true rfl) ⟨Nat.zero_le _, Nat.zero_le _⟩ dX8_restore_35 ?_
      refine x_aload_n B dX8_restore_38 rfl 0 rfl ?_
      refine x_iconst (v := 0) B dX8_restore_39 (by decide) ?_
      obtain ⟨σ8, u9, hf⟩ := x_ws hf
      refine x_put (v := 0) (ty := .int) (kc := 0) (index := 131) B G.1 iX8_restore_cX8 tyX8 tyX8_ok nmX8 rfl (by decide) m_c0 2 (by decide) iX8_restore_2 rfl rfl rfl rfl (Nat.le_of_ble_eq_true rfl) (m_w_2 _ _) dX8_restore_40 ?_
      refine x_nm u9 ?_
      refine x_iconst (v := 1) B dX8_restore_43 (by decide) ?_
      obtain ⟨rfl, rfl⟩ := x_retI hf
      exact x_iret B hr dX8_restore_44
    · replace hf := x_it h5 hf
      refine x_ldc (v := (-1000002)) B iX8_restore_3 dX8_restore_22 ?_
      obtain ⟨rfl, rfl⟩ := x_retI hf
      exact x_iret B hr dX8_restore_24
  · replace hf := x_it h3 hf
    refine x_ldc (v := (-1000001)) B iX8_restore_4 dX8_restore_10 ?_
    obtain ⟨rfl, rfl⟩ := x_retI hf
    exact x_iret B hr dX8_restore_12
theorem iX8_kind_0 : Cond.constant RX8 52 (-1000001) ∈ wsX8_kind := by decide +kernel
theorem iX8_kind_1 : Cond.fieldLink RX8 7 "SignDutyModel" "row" "[I" ∈ wsX8_kind := by decide +kernel
theorem iX8_kind_cX8 : ∀ w ∈ u_ws RX8 TX8 17, w ∈ wsX8_kind := by decide +kernel
set_option maxRecDepth 100000 in
set_option maxHeartbeats 4000000 in
theorem mX8_kind {σ : x_S} {a1 : Int32} (hdis : x_dis m_N ad) (hf : fX8_kind a1 σ = some r0) : x_NI l yX8_kind wsX8_kind 2 D vwCl (s_tys cI cQ cC cZ) m_N (m_C cI cZ ad) ad m_St m_NW [.ref (ad 0), .int a1] σ r0 σ := by
  refine x_met (cc := cX8_kind) (own := RX8) (maxL := 2) (ret := (some .int)) (by decide +kernel) rfl rfl (Nat.le_of_ble_eq_true rfl) hdis m_StOk m_NwOk (fun p e s m args below meth c B G hr => ?_)
  unfold fX8_kind at hf
  refine x_sub (lv' := [(0, .ref (ad 0)), (1, .int a1)]) [0, 1] rfl ?_
  refine x_aload_n B dX8_kind_0 rfl 0 rfl ?_
  refine x_iload_n B dX8_kind_1 rfl 1 rfl ?_
  obtain ⟨r2, e1, hf⟩ := x_ps hf
  refine x_callV (As := [.int a1]) (st := []) B G (mX8_isGesture (l := l) G.1.2.1  e1) (cwV 1 B.2.2.2.2.1 gX8_kind_X8_isGesture rfl rfl rfl hdX8_isGesture (x_rm_ok (by omega) (by decide))) (by decide) m_c0 rfl rfl rfl (Nat.le_of_ble_eq_true rfl) ⟨Nat.zero_le _, Nat.zero_le _⟩ dX8_kind_2 ?_
  refine x_if_eq (tgt := 20) B dX8_kind_5 (by decide) (fun h3 => ?_) (fun h3 => ?_)
  · replace hf := x_it h3 hf
    refine x_ldc (v := (-1000001)) B iX8_kind_0 dX8_kind_20 ?_
    obtain rfl := x_retP hf
    exact x_iret B hr dX8_kind_22
  · replace hf := x_if h3 hf
    refine x_aload_n B dX8_kind_8 rfl 0 rfl ?_
    refine x_get (v := .ref (ad 1)) (kc := 0) (index := 7) B G.1 iX8_kind_cX8 rfl (by decide) m_c0 0 (by decide) iX8_kind_1 rfl dX8_kind_9 ?_
    refine x_bipush (v := 19) B dX8_kind_12 (by decide) ?_
    refine x_iload_n B dX8_kind_14 rfl 1 rfl ?_
    refine x_iadd B dX8_kind_15 ?_
    obtain ⟨h4, hf⟩ := x_gs hf
    refine x_iald (kc := 1) (t0 := 0) B G.1 (by decide) m_c1 rfl h4 dX8_kind_16 ?_
    refine x_goto (tgt := 22) B dX8_kind_17 (by decide) ?_
    obtain rfl := x_retP hf
    exact x_iret B hr dX8_kind_22
theorem iX8_isOf_0 : Cond.fieldLink RX8 7 "SignDutyModel" "row" "[I" ∈ wsX8_isOf := by decide +kernel
theorem iX8_isOf_cX8 : ∀ w ∈ u_ws RX8 TX8 17, w ∈ wsX8_isOf := by decide +kernel
set_option maxRecDepth 100000 in
set_option maxHeartbeats 4000000 in
theorem kX8_isOf_34 {σ : x_S} {x2 : Int32} {x3 : Int32} (B : x_B p s m args meth c cX8_isOf 4 wsX8_isOf RX8) (G : x_H s D vwCl (s_tys cI cQ cC cZ) m_N ad (x_A m_N ad) m_St m_NW) (hr : meth.sig.returnType = (some .boolean)) (hf : bX8_isOf_34  x2 x3 σ = some r0) : x_J p l e (x_rm 0) s m args below meth c 0 0 (MQ below (x_Qi D vwCl m_N (m_C cI cZ ad) ad r0 σ) args s 0 0 (x_A m_N ad)) (x_A m_N ad) 4 (x_I D vwCl m_N (m_C cI cZ ad) ad σ) [(2, .int x2), (3, .int x3)] [] 34 := by
  unfold bX8_isOf_34 at hf
  refine x_iload_n B dX8_isOf_34 rfl 0 rfl ?_
  refine x_iconst (v := 4) B dX8_isOf_35 (by decide) ?_
  refine x_icmp_ne (tgt := 48) B dX8_isOf_36 (by decide) (fun h1 => ?_) (fun h1 => ?_)
  · replace hf := x_if h1 hf
    refine x_iconst (v := 0) B dX8_isOf_48 (by decide) ?_
    obtain rfl := x_retP hf
    exact x_zret B hr (by decide) dX8_isOf_49
  · replace hf := x_it h1 hf
    refine x_iload_n B dX8_isOf_39 rfl 1 rfl ?_
    refine x_iconst (v := 5) B dX8_isOf_40 (by decide) ?_
    refine x_icmp_ne (tgt := 48) B dX8_isOf_41 (by decide) (fun h2 => ?_) (fun h2 => ?_)
    · replace hf := x_if h2 hf
      refine x_iconst (v := 0) B dX8_isOf_48 (by decide) ?_
      obtain rfl := x_retP hf
      exact x_zret B hr (by decide) dX8_isOf_49
    · replace hf := x_it h2 hf
      refine x_iconst (v := 1) B dX8_isOf_44 (by decide) ?_
      refine x_goto (tgt := 49) B dX8_isOf_45 (by decide) ?_
      obtain rfl := x_retP hf
      exact x_zret B hr (by decide) dX8_isOf_49
set_option maxRecDepth 100000 in
set_option maxHeartbeats 4000000 in
theorem mX8_isOf {σ : x_S} {a1 : Int32} {a2 : Int32} (hdis : x_dis m_N ad) (hf : fX8_isOf a1 a2 σ = some r0) : x_NI l yX8_isOf wsX8_isOf 0 D vwCl (s_tys cI cQ cC cZ) m_N (m_C cI cZ ad) ad m_St m_NW [.ref (ad 0), .int a1, .int a2] σ r0 σ := by
  refine x_met (cc := cX8_isOf) (own := RX8) (maxL := 4) (ret := (some .boolean)) (by decide +kernel) rfl rfl (Nat.le_of_ble_eq_true rfl) hdis m_StOk m_NwOk (fun p e s m args below meth c B G hr => ?_)
  unfold fX8_isOf at hf
  refine x_sub (lv' := [(0, .ref (ad 0)), (1, .int a1), (2, .int a2)]) [0, 1, 2] rfl ?_
  refine x_aload_n B dX8_isOf_0 rfl 0 rfl ?_
  refine x_get (v := .ref (ad 1)) (kc := 0) (index := 7) B G.1 iX8_isOf_cX8 rfl (by decide) m_c0 0 (by decide) iX8_isOf_0 rfl dX8_isOf_1 ?_
  refine x_bipush (v := 19) B dX8_isOf_4 (by decide) ?_
  refine x_iload_n B dX8_isOf_6 rfl 1 rfl ?_
  refine x_iadd B dX8_isOf_7 ?_
  obtain ⟨h1, hf⟩ := x_gs hf
  refine x_iald (kc := 1) (t0 := 0) B G.1 (by decide) m_c1 rfl h1 dX8_isOf_8 ?_
  refine x_istore_n (lv' := [(3, .int (σ 1 (19 + a1).toNatClampNeg)), (0, .ref (ad 0)), (1, .int a1), (2, .int a2)]) B dX8_isOf_9 rfl (by decide) rfl ?_
  refine x_iload_n B dX8_isOf_10 rfl 3 rfl ?_
  refine x_if_eq (tgt := 44) B dX8_isOf_11 (by decide) (fun h2 => ?_) (fun h2 => ?_)
  · replace hf := x_it h2 hf
    refine x_iconst (v := 1) B dX8_isOf_44 (by decide) ?_
    refine x_goto (tgt := 49) B dX8_isOf_45 (by decide) ?_
    obtain rfl := x_retP hf
    exact x_zret B hr (by decide) dX8_isOf_49
  · replace hf := x_if h2 hf
    refine x_iload_n B dX8_isOf_14 rfl 3 rfl ?_
    refine x_iload_n B dX8_isOf_15 rfl 0 rfl ?_
    refine x_icmp_eq (tgt := 44) B dX8_isOf_16 (by decide) (fun h3 => ?_) (fun h3 => ?_)
    · replace hf := x_it h3 hf
      refine x_iconst (v := 1) B dX8_isOf_44 (by decide) ?_
      refine x_goto (tgt := 49) B dX8_isOf_45 (by decide) ?_
      obtain rfl := x_retP hf
      exact x_zret B hr (by decide) dX8_isOf_49
    · replace hf := x_if h3 hf
      refine x_iload_n B dX8_isOf_19 rfl 3 rfl ?_
      refine x_iconst (v := 1) B dX8_isOf_20 (by decide) ?_
      refine x_icmp_ne (tgt := 34) B dX8_isOf_21 (by decide) (fun h4 => ?_) (fun h4 => ?_)
      · replace hf := x_if h4 hf
        refine x_sub [3, 0] rfl ?_
        exact kX8_isOf_34 B G hr hf
      · replace hf := x_it h4 hf
        refine x_iload_n B dX8_isOf_24 rfl 0 rfl ?_
        refine x_iconst (v := 2) B dX8_isOf_25 (by decide) ?_
        refine x_icmp_eq (tgt := 44) B dX8_isOf_26 (by decide) (fun h5 => ?_) (fun h5 => ?_)
        · replace hf := x_it h5 hf
          refine x_iconst (v := 1) B dX8_isOf_44 (by decide) ?_
          refine x_goto (tgt := 49) B dX8_isOf_45 (by decide) ?_
          obtain rfl := x_retP hf
          exact x_zret B hr (by decide) dX8_isOf_49
        · replace hf := x_if h5 hf
          refine x_iload_n B dX8_isOf_29 rfl 0 rfl ?_
          refine x_iconst (v := 3) B dX8_isOf_30 (by decide) ?_
          refine x_icmp_eq (tgt := 44) B dX8_isOf_31 (by decide) (fun h6 => ?_) (fun h6 => ?_)
          · replace hf := x_it h6 hf
            refine x_iconst (v := 1) B dX8_isOf_44 (by decide) ?_
            refine x_goto (tgt := 49) B dX8_isOf_45 (by decide) ?_
            obtain rfl := x_retP hf
            exact x_zret B hr (by decide) dX8_isOf_49
          · replace hf := x_if h6 hf
            refine x_sub [3, 0] rfl ?_
            exact kX8_isOf_34 B G hr hf
theorem iX8_as_0 : Cond.constant RX8 52 (-1000001) ∈ wsX8_as := by decide +kernel
theorem iX8_as_1 : Cond.constantLong RX8 221 5 ∈ wsX8_as := by decide +kernel
set_option maxRecDepth 100000 in
set_option maxHeartbeats 4000000 in
theorem mX8_as {σ : x_S} {a1 : Int32} {a2 : Int32} (hdis : x_dis m_N ad) (hf : fX8_as a1 a2 σ = some (r0, σ0)) : x_NI l yX8_as wsX8_as 2 D vwCl (s_tys cI cQ cC cZ) m_N (m_C cI cZ ad) ad m_St m_NW [.ref (ad 0), .int a1, .int a2] σ r0 σ0 := by
  refine x_met (cc := cX8_as) (own := RX8) (maxL := 3) (ret := (some .int)) (by decide +kernel) rfl rfl (Nat.le_of_ble_eq_true rfl) hdis m_StOk m_NwOk (fun p e s m args below meth c B G hr => ?_)
  unfold fX8_as at hf
  refine x_sub (lv' := [(0, .ref (ad 0)), (1, .int a1), (2, .int a2)]) [0, 1, 2] rfl ?_
  refine x_aload_n B dX8_as_0 rfl 0 rfl ?_
  refine x_iload_n B dX8_as_1 rfl 1 rfl ?_
  obtain ⟨r2, e1, hf⟩ := x_ps hf
  refine x_callV (As := [.int a1]) (st := []) B G (mX8_isGesture (l := l) G.1.2.1  e1) (cwV 1 B.2.2.2.2.1 gX8_as_X8_isGesture rfl rfl rfl hdX8_isGesture (x_rm_ok (by omega) (by decide))) (by decide) m_c0 rfl rfl rfl (Nat.le_of_ble_eq_true rfl) ⟨Nat.zero_le _, Nat.zero_le _⟩ dX8_as_2 ?_
  refine x_if_eq (tgt := 20) B dX8_as_5 (by decide) (fun h3 => ?_) (fun h3 => ?_)
  · replace hf := x_it h3 hf
    refine x_ldc (v := (-1000001)) B iX8_as_0 dX8_as_20 ?_
    obtain ⟨rfl, rfl⟩ := x_retI hf
    exact x_iret B hr dX8_as_22
  · replace hf := x_if h3 hf
    refine x_iload_n B dX8_as_8 rfl 2 rfl ?_
    refine x_i2l B dX8_as_9 ?_
    refine x_lconst (v := 0) B dX8_as_10 (by decide) ?_
    refine x_ldc2 (v := 5) B iX8_as_1 dX8_as_11 ?_
    obtain ⟨r5, e4, hf⟩ := x_ps hf
    refine x_callS (As := [.long a2.toInt64, .long 0, .long 5]) (st := []) B G (mX8_in (l := l) G.1.2.1  e4) (va_cwS 3 B.2.2.2.2.1 gX8_as_X8_in rfl rfl rfl hdX8_in (x_rm_ok (by omega) (by decide))) rfl rfl (Nat.le_of_ble_eq_true rfl) ⟨Nat.zero_le _, Nat.zero_le _⟩ dX8_as_14 ?_
    refine x_if_ne (tgt := 23) B dX8_as_17 (by decide) (fun h6 => ?_) (fun h6 => ?_)
    · replace hf := x_if h6 hf
      refine x_aload_n B dX8_as_23 rfl 0 rfl ?_
      refine x_iload_n B dX8_as_24 rfl 1 rfl ?_
      refine x_iload_n B dX8_as_25 rfl 2 rfl ?_
      obtain ⟨r8, e7, hf⟩ := x_ps hf
      refine x_callV (As := [.int a1, .int a2]) (st := []) B G (mX8_isOf (l := l) G.1.2.1  e7) (cwV 2 B.2.2.2.2.1 gX8_as_X8_isOf rfl rfl rfl hdX8_isOf (x_rm_ok (by omega) (by decide))) (by decide) m_c0 rfl rfl rfl (Nat.le_of_ble_eq_true rfl) ⟨Nat.zero_le _, Nat.zero_le _⟩ dX8_as_26 ?_
      refine x_if_eq (tgt := 40) B dX8_as_29 (by decide) (fun h9 => ?_) (fun h9 => ?_)
      · replace hf := x_it h9 hf
        refine x_aload_n B dX8_as_40 rfl 0 rfl ?_
        refine x_iconst (v := 3) B dX8_as_41 (by decide) ?_
        obtain ⟨r11, σ12, e10, hf⟩ := x_bs hf
        refine x_callV (As := [.int 3]) (st := []) B G (mX8_find (l := l) G.1.2.1  e10) (cwV 1 B.2.2.2.2.1 gX8_as_X8_find rfl rfl rfl hdX8_find (x_rm_ok (by omega) (by decide))) (by decide) m_c0 rfl rfl rfl (Nat.le_of_ble_eq_true rfl) ⟨Nat.zero_le _, Nat.zero_le _⟩ dX8_as_42 ?_
        obtain ⟨rfl, rfl⟩ := x_retI hf
        exact x_iret B hr dX8_as_45
      · replace hf := x_if h9 hf
        refine x_aload_n B dX8_as_32 rfl 0 rfl ?_
        refine x_iload_n B dX8_as_33 rfl 1 rfl ?_
        obtain ⟨r14, σ15, e13, hf⟩ := x_bs hf
        refine x_callV (As := [.int a1]) (st := []) B G (mX8_well (l := l) G.1.2.1  e13) (cwV 1 B.2.2.2.2.1 gX8_as_X8_well rfl rfl rfl hdX8_well (x_rm_ok (by omega) (by decide))) (by decide) m_c0 rfl rfl rfl (Nat.le_of_ble_eq_true rfl) ⟨Nat.zero_le _, Nat.zero_le _⟩ dX8_as_34 ?_
        refine x_goto (tgt := 45) B dX8_as_37 (by decide) ?_
        obtain ⟨rfl, rfl⟩ := x_retI hf
        exact x_iret B hr dX8_as_45
    · replace hf := x_it h6 hf
      refine x_ldc (v := (-1000001)) B iX8_as_0 dX8_as_20 ?_
      obtain ⟨rfl, rfl⟩ := x_retI hf
      exact x_iret B hr dX8_as_22
theorem iX8_begin_0 : Cond.fieldLink RX8 226 "SignDutyModel" "traced" "I" ∈ wsX8_begin := by decide +kernel
theorem iX8_begin_cX8 : ∀ w ∈ u_ws RX8 TX8 17, w ∈ wsX8_begin := by decide +kernel
theorem iX8_begin_2 : Cond.fieldLink RX8 29 "SignDutyModel" "trace" "[I" ∈ wsX8_begin := by decide +kernel
set_option maxRecDepth 100000 in
set_option maxHeartbeats 4000000 in
theorem mX8_begin {σ : x_S} {a1 : Int32} (hdis : x_dis m_N ad) (hf : fX8_begin a1 σ = some σ0) : x_NV l yX8_begin wsX8_begin 0 D vwCl (s_tys cI cQ cC cZ) m_N (m_C cI cZ ad) ad m_St m_NW [.ref (ad 0), .int a1] σ σ0 := by
  refine x_met (cc := cX8_begin) (own := RX8) (maxL := 2) (ret := none) (by decide +kernel) rfl rfl (Nat.le_of_ble_eq_true rfl) hdis m_StOk m_NwOk (fun p e s m args below meth c B G hr => ?_)
  unfold fX8_begin at hf
  refine x_sub (lv' := [(0, .ref (ad 0)), (1, .int a1)]) [0, 1] rfl ?_
  refine x_aload_n B dX8_begin_0 rfl 0 rfl ?_
  refine x_get (v := .int (σ 0 12)) (kc := 0) (index := 226) B G.1 iX8_begin_cX8 rfl (by decide) m_c0 12 (by decide) iX8_begin_0 rfl dX8_begin_1 ?_
  refine x_bipush (v := 16) B dX8_begin_4 (by decide) ?_
  refine x_icmp_ge (tgt := 29) B dX8_begin_6 (by decide) (fun h1 => ?_) (fun h1 => ?_)
  · replace hf := x_it h1 hf
    obtain rfl := x_retV hf
    exact x_vret B hr dX8_begin_29
  · replace hf := x_if h1 hf
    refine x_aload_n B dX8_begin_9 rfl 0 rfl ?_
    refine x_get (v := .ref (ad 7)) (kc := 0) (index := 29) B G.1 iX8_begin_cX8 rfl (by decide) m_c0 11 (by decide) iX8_begin_2 rfl dX8_begin_10 ?_
    refine x_aload_n B dX8_begin_13 rfl 0 rfl ?_
    refine x_get (v := .int (σ 0 12)) (kc := 0) (index := 226) B G.1 iX8_begin_cX8 rfl (by decide) m_c0 12 (by decide) iX8_begin_0 rfl dX8_begin_14 ?_
    refine x_iload_n B dX8_begin_17 rfl 1 rfl ?_
    obtain ⟨h2, hf⟩ := x_gs hf
    obtain ⟨σ3, u4, hf⟩ := x_ws hf
    refine x_iast (kc := 7) (t0 := 0) B G.1 (by decide) m_c7 rfl h2 dX8_begin_18 ?_
    refine x_nm u4 ?_
    refine x_aload_n B dX8_begin_19 rfl 0 rfl ?_
    refine x_dup B dX8_begin_20 rfl ?_
    refine x_get (v := .int (σ3 0 12)) (kc := 0) (index := 226) B G.1 iX8_begin_cX8 rfl (by decide) m_c0 12 (by decide) iX8_begin_0 rfl dX8_begin_21 ?_
    refine x_iconst (v := 1) B dX8_begin_24 (by decide) ?_
    refine x_iadd B dX8_begin_25 ?_
    obtain ⟨σ5, u6, hf⟩ := x_ws hf
    refine x_put (v := ((σ3 0 12) + 1)) (ty := .int) (kc := 0) (index := 226) B G.1 iX8_begin_cX8 tyX8 tyX8_ok nmX8 rfl (by decide) m_c0 12 (by decide) iX8_begin_0 rfl rfl rfl rfl (Nat.le_of_ble_eq_true rfl) (m_w_12 _ _) dX8_begin_26 ?_
    refine x_nm u6 ?_
    obtain rfl := x_retV hf
    exact x_vret B hr dX8_begin_29
theorem iX8_lentSize_0 : Cond.fieldLink RX8 7 "SignDutyModel" "row" "[I" ∈ wsX8_lentSize := by decide +kernel
theorem iX8_lentSize_cX8 : ∀ w ∈ u_ws RX8 TX8 17, w ∈ wsX8_lentSize := by decide +kernel
set_option maxRecDepth 100000 in
set_option maxHeartbeats 4000000 in
theorem mX8_lentSize {σ : x_S} {a1 : Int32} (hdis : x_dis m_N ad) (hf : fX8_lentSize a1 σ = some (r0, σ0)) : x_NI l yX8_lentSize wsX8_lentSize 1 D vwCl (s_tys cI cQ cC cZ) m_N (m_C cI cZ ad) ad m_St m_NW [.ref (ad 0), .int a1] σ r0 σ0 := by
  refine x_met (cc := cX8_lentSize) (own := RX8) (maxL := 2) (ret := (some .int)) (by decide +kernel) rfl rfl (Nat.le_of_ble_eq_true rfl) hdis m_StOk m_NwOk (fun p e s m args below meth c B G hr => ?_)
  unfold fX8_lentSize at hf
  refine x_sub (lv' := [(0, .ref (ad 0)), (1, .int a1)]) [0, 1] rfl ?_
  refine x_aload_n B dX8_lentSize_0 rfl 0 rfl ?_
  refine x_bipush (v := 10) B dX8_lentSize_1 (by decide) ?_
  obtain ⟨σ2, e1, hf⟩ := x_vs hf
  refine x_callVv (As := [.int 10]) (st := []) B G (mX8_begin (l := l) G.1.2.1  e1) (cwV 1 B.2.2.2.2.1 gX8_lentSize_X8_begin rfl rfl rfl hdX8_begin (x_rm_ok (by omega) (by decide))) (by decide) m_c0 rfl rfl rfl (Nat.le_of_ble_eq_true rfl) ⟨Nat.zero_le _, Nat.zero_le _⟩ dX8_lentSize_3 ?_
  refine x_aload_n B dX8_lentSize_6 rfl 0 rfl ?_
  refine x_get (v := .ref (ad 1)) (kc := 0) (index := 7) B G.1 iX8_lentSize_cX8 rfl (by decide) m_c0 0 (by decide) iX8_lentSize_0 rfl dX8_lentSize_7 ?_
  refine x_bipush (v := 37) B dX8_lentSize_10 (by decide) ?_
  refine x_iload_n B dX8_lentSize_12 rfl 1 rfl ?_
  refine x_iadd B dX8_lentSize_13 ?_
  obtain ⟨h3, hf⟩ := x_gs hf
  refine x_iald (kc := 1) (t0 := 0) B G.1 (by decide) m_c1 rfl h3 dX8_lentSize_14 ?_
  obtain ⟨rfl, rfl⟩ := x_retI hf
  exact x_iret B hr dX8_lentSize_15
set_option maxRecDepth 100000 in
set_option maxHeartbeats 4000000 in
theorem mX8_lentMark {σ : x_S} {a1 : Int32} (hdis : x_dis m_N ad) (hf : fX8_lentMark a1 σ = some (r0, σ0)) : x_NI l yX8_lentMark wsX8_lentMark 1 D vwCl (s_tys cI cQ cC cZ) m_N (m_C cI cZ ad) ad m_St m_NW [.ref (ad 0), .int a1] σ r0 σ0 := by
  refine x_met (cc := cX8_lentMark) (own := RX8) (maxL := 2) (ret := (some .int)) (by decide +kernel) rfl rfl (Nat.le_of_ble_eq_true rfl) hdis m_StOk m_NwOk (fun p e s m args below meth c B G hr => ?_)
  unfold fX8_lentMark at hf
  refine x_sub (lv' := [(0, .ref (ad 0)), (1, .int a1)]) [0, 1] rfl ?_
  refine x_aload_n B dX8_lentMark_0 rfl 0 rfl ?_
  refine x_bipush (v := 20) B dX8_lentMark_1 (by decide) ?_
  obtain ⟨σ2, e1, hf⟩ := x_vs hf
  refine x_callVv (As := [.int 20]) (st := []) B G (mX8_begin (l := l) G.1.2.1  e1) (cwV 1 B.2.2.2.2.1 gX8_lentMark_X8_begin rfl rfl rfl hdX8_begin (x_rm_ok (by omega) (by decide))) (by decide) m_c0 rfl rfl rfl (Nat.le_of_ble_eq_true rfl) ⟨Nat.zero_le _, Nat.zero_le _⟩ dX8_lentMark_3 ?_
  refine x_iload_n B dX8_lentMark_6 rfl 1 rfl ?_
  obtain ⟨rfl, rfl⟩ := x_retI hf
  exact x_iret B hr dX8_lentMark_7
theorem iX8_wavesMark_0 : Cond.fieldLink RX8 7 "SignDutyModel" "row" "[I" ∈ wsX8_wavesMark := by decide +kernel
theorem iX8_wavesMark_cX8 : ∀ w ∈ u_ws RX8 TX8 17, w ∈ wsX8_wavesMark := by decide +kernel
set_option maxRecDepth 100000 in
set_option maxHeartbeats 4000000 in
theorem mX8_wavesMark {σ : x_S} {a1 : Int32} (hdis : x_dis m_N ad) (hf : fX8_wavesMark a1 σ = some (r0, σ0)) : x_NI l yX8_wavesMark wsX8_wavesMark 2 D vwCl (s_tys cI cQ cC cZ) m_N (m_C cI cZ ad) ad m_St m_NW [.ref (ad 0), .int a1] σ r0 σ0 := by
  refine x_met (cc := cX8_wavesMark) (own := RX8) (maxL := 2) (ret := (some .int)) (by decide +kernel) rfl rfl (Nat.le_of_ble_eq_true rfl) hdis m_StOk m_NwOk (fun p e s m args below meth c B G hr => ?_)
  unfold fX8_wavesMark at hf
  refine x_sub (lv' := [(0, .ref (ad 0)), (1, .int a1)]) [0, 1] rfl ?_
  refine x_aload_n B dX8_wavesMark_0 rfl 0 rfl ?_
  refine x_bipush (v := 21) B dX8_wavesMark_1 (by decide) ?_
  obtain ⟨σ2, e1, hf⟩ := x_vs hf
  refine x_callVv (As := [.int 21]) (st := []) B G (mX8_begin (l := l) G.1.2.1  e1) (cwV 1 B.2.2.2.2.1 gX8_wavesMark_X8_begin rfl rfl rfl hdX8_begin (x_rm_ok (by omega) (by decide))) (by decide) m_c0 rfl rfl rfl (Nat.le_of_ble_eq_true rfl) ⟨Nat.zero_le _, Nat.zero_le _⟩ dX8_wavesMark_3 ?_
  refine x_aload_n B dX8_wavesMark_6 rfl 0 rfl ?_
  refine x_iload_n B dX8_wavesMark_7 rfl 1 rfl ?_
  obtain ⟨r4, σ5, e3, hf⟩ := x_bs hf
  refine x_callV (As := [.int a1]) (st := []) B G (mX8_lentMark (l := l) G.1.2.1  e3) (cwV 1 B.2.2.2.2.1 gX8_wavesMark_X8_lentMark rfl rfl rfl hdX8_lentMark (x_rm_ok (by omega) (by decide))) (by decide) m_c0 rfl rfl rfl (Nat.le_of_ble_eq_true rfl) ⟨Nat.zero_le _, Nat.zero_le _⟩ dX8_wavesMark_8 ?_
  refine x_aload_n B dX8_wavesMark_11 rfl 0 rfl ?_
  refine x_get (v := .ref (ad 1)) (kc := 0) (index := 7) B G.1 iX8_wavesMark_cX8 rfl (by decide) m_c0 0 (by decide) iX8_wavesMark_0 rfl dX8_wavesMark_12 ?_
  refine x_bipush (v := 25) B dX8_wavesMark_15 (by decide) ?_
  refine x_iload_n B dX8_wavesMark_17 rfl 1 rfl ?_
  refine x_iadd B dX8_wavesMark_18 ?_
  obtain ⟨h6, hf⟩ := x_gs hf
  refine x_iald (kc := 1) (t0 := 0) B G.1 (by decide) m_c1 rfl h6 dX8_wavesMark_19 ?_
  refine x_iadd B dX8_wavesMark_20 ?_
  obtain ⟨rfl, rfl⟩ := x_retI hf
  exact x_iret B hr dX8_wavesMark_21
theorem iX8_mark_0 : Cond.fieldLink RX8 7 "SignDutyModel" "row" "[I" ∈ wsX8_mark := by decide +kernel
theorem iX8_mark_cX8 : ∀ w ∈ u_ws RX8 TX8 17, w ∈ wsX8_mark := by decide +kernel
set_option maxRecDepth 100000 in
set_option maxHeartbeats 4000000 in
theorem mX8_mark {σ : x_S} {a1 : Int32} (hdis : x_dis m_N ad) (hf : fX8_mark a1 σ = some (r0, σ0)) : x_NI l yX8_mark wsX8_mark 3 D vwCl (s_tys cI cQ cC cZ) m_N (m_C cI cZ ad) ad m_St m_NW [.ref (ad 0), .int a1] σ r0 σ0 := by
  refine x_met (cc := cX8_mark) (own := RX8) (maxL := 2) (ret := (some .int)) (by decide +kernel) rfl rfl (Nat.le_of_ble_eq_true rfl) hdis m_StOk m_NwOk (fun p e s m args below meth c B G hr => ?_)
  unfold fX8_mark at hf
  refine x_sub (lv' := [(0, .ref (ad 0)), (1, .int a1)]) [0, 1] rfl ?_
  refine x_aload_n B dX8_mark_0 rfl 0 rfl ?_
  refine x_get (v := .ref (ad 1)) (kc := 0) (index := 7) B G.1 iX8_mark_cX8 rfl (by decide) m_c0 0 (by decide) iX8_mark_0 rfl dX8_mark_1 ?_
  refine x_bipush (v := 19) B dX8_mark_4 (by decide) ?_
  refine x_iload_n B dX8_mark_6 rfl 1 rfl ?_
  refine x_iadd B dX8_mark_7 ?_
  obtain ⟨h1, hf⟩ := x_gs hf
  refine x_iald (kc := 1) (t0 := 0) B G.1 (by decide) m_c1 rfl h1 dX8_mark_8 ?_
  by_cases h2 : (σ 1 (19 + a1).toNatClampNeg) = 2
  · replace hf := x_it h2 hf
    refine x_lookup (tgt := 52) (off := 43) B dX8_mark_9 (by decide) (by rw [h2]; rfl) (by decide) ?_
    refine x_aload_n B dX8_mark_52 rfl 0 rfl ?_
    refine x_bipush (v := 24) B dX8_mark_53 (by decide) ?_
    obtain ⟨σ4, e3, hf⟩ := x_vs hf
    refine x_callVv (As := [.int 24]) (st := []) B G (mX8_begin (l := l) G.1.2.1  e3) (cwV 1 B.2.2.2.2.1 gX8_mark_X8_begin rfl rfl rfl hdX8_begin (x_rm_ok (by omega) (by decide))) (by decide) m_c0 rfl rfl rfl (Nat.le_of_ble_eq_true rfl) ⟨Nat.zero_le _, Nat.zero_le _⟩ dX8_mark_55 ?_
    refine x_iconst (v := 2) B dX8_mark_58 (by decide) ?_
    refine x_aload_n B dX8_mark_59 rfl 0 rfl ?_
    refine x_iload_n B dX8_mark_60 rfl 1 rfl ?_
    obtain ⟨r6, σ7, e5, hf⟩ := x_bs hf
    refine x_callV (As := [.int a1]) (st := [.int 2]) B G (mX8_wavesMark (l := l) G.1.2.1  e5) (cwV 1 B.2.2.2.2.1 gX8_mark_X8_wavesMark rfl rfl rfl hdX8_wavesMark (x_rm_ok (by omega) (by decide))) (by decide) m_c0 rfl rfl rfl (Nat.le_of_ble_eq_true rfl) ⟨Nat.zero_le _, Nat.zero_le _⟩ dX8_mark_61 ?_
    refine x_imul B dX8_mark_64 ?_
    obtain ⟨rfl, rfl⟩ := x_retI hf
    exact x_iret B hr dX8_mark_65
  · replace hf := x_if h2 hf
    by_cases h8 : (σ 1 (19 + a1).toNatClampNeg) = 3
    · replace hf := x_it h8 hf
      refine x_lookup (tgt := 36) (off := 27) B dX8_mark_9 (by decide) (by rw [h8]; rfl) (by decide) ?_
      refine x_aload_n B dX8_mark_36 rfl 0 rfl ?_
      refine x_bipush (v := 22) B dX8_mark_37 (by decide) ?_
      obtain ⟨σ10, e9, hf⟩ := x_vs hf
      refine x_callVv (As := [.int 22]) (st := []) B G (mX8_begin (l := l) G.1.2.1  e9) (cwV 1 B.2.2.2.2.1 gX8_mark_X8_begin rfl rfl rfl hdX8_begin (x_rm_ok (by omega) (by decide))) (by decide) m_c0 rfl rfl rfl (Nat.le_of_ble_eq_true rfl) ⟨Nat.zero_le _, Nat.zero_le _⟩ dX8_mark_39 ?_
      refine x_aload_n B dX8_mark_42 rfl 0 rfl ?_
      refine x_iload_n B dX8_mark_43 rfl 1 rfl ?_
      obtain ⟨r12, σ13, e11, hf⟩ := x_bs hf
      refine x_callV (As := [.int a1]) (st := []) B G (mX8_wavesMark (l := l) G.1.2.1  e11) (cwV 1 B.2.2.2.2.1 gX8_mark_X8_wavesMark rfl rfl rfl hdX8_wavesMark (x_rm_ok (by omega) (by decide))) (by decide) m_c0 rfl rfl rfl (Nat.le_of_ble_eq_true rfl) ⟨Nat.zero_le _, Nat.zero_le _⟩ dX8_mark_44 ?_
      refine x_sipush (v := 1000) B dX8_mark_47 (by decide) ?_
      refine x_isub B dX8_mark_50 ?_
      obtain ⟨rfl, rfl⟩ := x_retI hf
      exact x_iret B hr dX8_mark_51
    · replace hf := x_if h8 hf
      refine x_lookup (tgt := 66) (off := 57) B dX8_mark_9 (by decide) (by show Op.lookupswitch.offset [(2, 43), (3, 27)] 57 _ = _; rw [lv_osw h2 (show (2 : Int32).toInt = 2 from rfl), lv_osw h8 (show (3 : Int32).toInt = 3 from rfl)]; rfl) (by decide) ?_
      refine x_aload_n B dX8_mark_66 rfl 0 rfl ?_
      refine x_iload_n B dX8_mark_67 rfl 1 rfl ?_
      obtain ⟨r15, σ16, e14, hf⟩ := x_bs hf
      refine x_callV (As := [.int a1]) (st := []) B G (mX8_wavesMark (l := l) G.1.2.1  e14) (cwV 1 B.2.2.2.2.1 gX8_mark_X8_wavesMark rfl rfl rfl hdX8_wavesMark (x_rm_ok (by omega) (by decide))) (by decide) m_c0 rfl rfl rfl (Nat.le_of_ble_eq_true rfl) ⟨Nat.zero_le _, Nat.zero_le _⟩ dX8_mark_68 ?_
      obtain ⟨rfl, rfl⟩ := x_retI hf
      exact x_iret B hr dX8_mark_71
set_option maxRecDepth 100000 in
set_option maxHeartbeats 4000000 in
theorem mX8_wavesSize {σ : x_S} {a1 : Int32} (hdis : x_dis m_N ad) (hf : fX8_wavesSize a1 σ = some (r0, σ0)) : x_NI l yX8_wavesSize wsX8_wavesSize 4 D vwCl (s_tys cI cQ cC cZ) m_N (m_C cI cZ ad) ad m_St m_NW [.ref (ad 0), .int a1] σ r0 σ0 := by
  refine x_met (cc := cX8_wavesSize) (own := RX8) (maxL := 3) (ret := (some .int)) (by decide +kernel) rfl rfl (Nat.le_of_ble_eq_true rfl) hdis m_StOk m_NwOk (fun p e s m args below meth c B G hr => ?_)
  unfold fX8_wavesSize at hf
  refine x_sub (lv' := [(0, .ref (ad 0)), (1, .int a1)]) [0, 1] rfl ?_
  refine x_aload_n B dX8_wavesSize_0 rfl 0 rfl ?_
  refine x_bipush (v := 11) B dX8_wavesSize_1 (by decide) ?_
  obtain ⟨σ2, e1, hf⟩ := x_vs hf
  refine x_callVv (As := [.int 11]) (st := []) B G (mX8_begin (l := l) G.1.2.1  e1) (cwV 1 B.2.2.2.2.1 gX8_wavesSize_X8_begin rfl rfl rfl hdX8_begin (x_rm_ok (by omega) (by decide))) (by decide) m_c0 rfl rfl rfl (Nat.le_of_ble_eq_true rfl) ⟨Nat.zero_le _, Nat.zero_le _⟩ dX8_wavesSize_3 ?_
  refine x_aload_n B dX8_wavesSize_6 rfl 0 rfl ?_
  refine x_iload_n B dX8_wavesSize_7 rfl 1 rfl ?_
  obtain ⟨r4, σ5, e3, hf⟩ := x_bs hf
  refine x_callV (As := [.int a1]) (st := []) B G (mX8_lentSize (l := l) G.1.2.1  e3) (cwV 1 B.2.2.2.2.1 gX8_wavesSize_X8_lentSize rfl rfl rfl hdX8_lentSize (x_rm_ok (by omega) (by decide))) (by decide) m_c0 rfl rfl rfl (Nat.le_of_ble_eq_true rfl) ⟨Nat.zero_le _, Nat.zero_le _⟩ dX8_wavesSize_8 ?_
  refine x_istore_n (lv' := [(2, .int r4), (0, .ref (ad 0)), (1, .int a1)]) B dX8_wavesSize_11 rfl (by decide) rfl ?_
  refine x_iload_n B dX8_wavesSize_12 rfl 0 rfl ?_
  refine x_aload_n B dX8_wavesSize_13 rfl 1 rfl ?_
  refine x_iload_n B dX8_wavesSize_14 rfl 2 rfl ?_
  obtain ⟨r7, σ8, e6, hf⟩ := x_bs hf
  refine x_callV (As := [.int a1]) (st := [.int r4]) B G (mX8_mark (l := l) G.1.2.1  e6) (cwV 1 B.2.2.2.2.1 gX8_wavesSize_X8_mark rfl rfl rfl hdX8_mark (x_rm_ok (by omega) (by decide))) (by decide) m_c0 rfl rfl rfl (Nat.le_of_ble_eq_true rfl) ⟨Nat.zero_le _, Nat.zero_le _⟩ dX8_wavesSize_15 ?_
  refine x_iadd B dX8_wavesSize_18 ?_
  obtain ⟨rfl, rfl⟩ := x_retI hf
  exact x_iret B hr dX8_wavesSize_19
set_option maxRecDepth 100000 in
set_option maxHeartbeats 4000000 in
theorem mX8_winksSize {σ : x_S} {a1 : Int32} (hdis : x_dis m_N ad) (hf : fX8_winksSize a1 σ = some (r0, σ0)) : x_NI l yX8_winksSize wsX8_winksSize 2 D vwCl (s_tys cI cQ cC cZ) m_N (m_C cI cZ ad) ad m_St m_NW [.ref (ad 0), .int a1] σ r0 σ0 := by
  refine x_met (cc := cX8_winksSize) (own := RX8) (maxL := 2) (ret := (some .int)) (by decide +kernel) rfl rfl (Nat.le_of_ble_eq_true rfl) hdis m_StOk m_NwOk (fun p e s m args below meth c B G hr => ?_)
  unfold fX8_winksSize at hf
  refine x_sub (lv' := [(0, .ref (ad 0)), (1, .int a1)]) [0, 1] rfl ?_
  refine x_aload_n B dX8_winksSize_0 rfl 0 rfl ?_
  refine x_bipush (v := 13) B dX8_winksSize_1 (by decide) ?_
  obtain ⟨σ2, e1, hf⟩ := x_vs hf
  refine x_callVv (As := [.int 13]) (st := []) B G (mX8_begin (l := l) G.1.2.1  e1) (cwV 1 B.2.2.2.2.1 gX8_winksSize_X8_begin rfl rfl rfl hdX8_begin (x_rm_ok (by omega) (by decide))) (by decide) m_c0 rfl rfl rfl (Nat.le_of_ble_eq_true rfl) ⟨Nat.zero_le _, Nat.zero_le _⟩ dX8_winksSize_3 ?_
  refine x_aload_n B dX8_winksSize_6 rfl 0 rfl ?_
  refine x_iload_n B dX8_winksSize_7 rfl 1 rfl ?_
  obtain ⟨r4, σ5, e3, hf⟩ := x_bs hf
  refine x_callV (As := [.int a1]) (st := []) B G (mX8_lentSize (l := l) G.1.2.1  e3) (cwV 1 B.2.2.2.2.1 gX8_winksSize_X8_lentSize rfl rfl rfl hdX8_lentSize (x_rm_ok (by omega) (by decide))) (by decide) m_c0 rfl rfl rfl (Nat.le_of_ble_eq_true rfl) ⟨Nat.zero_le _, Nat.zero_le _⟩ dX8_winksSize_8 ?_
  refine x_bipush (v := 100) B dX8_winksSize_11 (by decide) ?_
  refine x_isub B dX8_winksSize_13 ?_
  obtain ⟨rfl, rfl⟩ := x_retI hf
  exact x_iret B hr dX8_winksSize_14
theorem iX8_sizeOf_0 : Cond.fieldLink RX8 7 "SignDutyModel" "row" "[I" ∈ wsX8_sizeOf := by decide +kernel
theorem iX8_sizeOf_cX8 : ∀ w ∈ u_ws RX8 TX8 17, w ∈ wsX8_sizeOf := by decide +kernel
set_option maxRecDepth 100000 in
set_option maxHeartbeats 4000000 in
theorem mX8_sizeOf {σ : x_S} {a1 : Int32} (hdis : x_dis m_N ad) (hf : fX8_sizeOf a1 σ = some (r0, σ0)) : x_NI l yX8_sizeOf wsX8_sizeOf 5 D vwCl (s_tys cI cQ cC cZ) m_N (m_C cI cZ ad) ad m_St m_NW [.ref (ad 0), .int a1] σ r0 σ0 := by
  refine x_met (cc := cX8_sizeOf) (own := RX8) (maxL := 2) (ret := (some .int)) (by decide +kernel) rfl rfl (Nat.le_of_ble_eq_true rfl) hdis m_StOk m_NwOk (fun p e s m args below meth c B G hr => ?_)
  unfold fX8_sizeOf at hf
  refine x_sub (lv' := [(0, .ref (ad 0)), (1, .int a1)]) [0, 1] rfl ?_
  refine x_aload_n B dX8_sizeOf_0 rfl 0 rfl ?_
  refine x_get (v := .ref (ad 1)) (kc := 0) (index := 7) B G.1 iX8_sizeOf_cX8 rfl (by decide) m_c0 0 (by decide) iX8_sizeOf_0 rfl dX8_sizeOf_1 ?_
  refine x_bipush (v := 19) B dX8_sizeOf_4 (by decide) ?_
  refine x_iload_n B dX8_sizeOf_6 rfl 1 rfl ?_
  refine x_iadd B dX8_sizeOf_7 ?_
  obtain ⟨h1, hf⟩ := x_gs hf
  refine x_iald (kc := 1) (t0 := 0) B G.1 (by decide) m_c1 rfl h1 dX8_sizeOf_8 ?_
  by_cases h2 : (σ 1 (19 + a1).toNatClampNeg) = 2
  · replace hf := x_it h2 hf
    refine x_tableIn (tgt := 40) (off := 31) B dX8_sizeOf_9 (by rw [h2]; decide) (by rw [h2]; decide) (by rw [h2]; rfl) (by decide) ?_
    refine x_aload_n B dX8_sizeOf_40 rfl 0 rfl ?_
    refine x_bipush (v := 12) B dX8_sizeOf_41 (by decide) ?_
    obtain ⟨σ4, e3, hf⟩ := x_vs hf
    refine x_callVv (As := [.int 12]) (st := []) B G (mX8_begin (l := l) G.1.2.1  e3) (cwV 1 B.2.2.2.2.1 gX8_sizeOf_X8_begin rfl rfl rfl hdX8_begin (x_rm_ok (by omega) (by decide))) (by decide) m_c0 rfl rfl rfl (Nat.le_of_ble_eq_true rfl) ⟨Nat.zero_le _, Nat.zero_le _⟩ dX8_sizeOf_43 ?_
    refine x_aload_n B dX8_sizeOf_46 rfl 0 rfl ?_
    refine x_iload_n B dX8_sizeOf_47 rfl 1 rfl ?_
    obtain ⟨r6, σ7, e5, hf⟩ := x_bs hf
    refine x_callV (As := [.int a1]) (st := []) B G (mX8_wavesSize (l := l) G.1.2.1  e5) (cwV 1 B.2.2.2.2.1 gX8_sizeOf_X8_wavesSize rfl rfl rfl hdX8_wavesSize (x_rm_ok (by omega) (by decide))) (by decide) m_c0 rfl rfl rfl (Nat.le_of_ble_eq_true rfl) ⟨Nat.zero_le _, Nat.zero_le _⟩ dX8_sizeOf_48 ?_
    refine x_ineg B dX8_sizeOf_51 ?_
    obtain ⟨rfl, rfl⟩ := x_retI hf
    exact x_iret B hr dX8_sizeOf_52
  · replace hf := x_if h2 hf
    by_cases h8 : (σ 1 (19 + a1).toNatClampNeg) = 3
    · replace hf := x_it h8 hf
      refine x_tableIn (tgt := 73) (off := 64) B dX8_sizeOf_9 (by rw [h8]; decide) (by rw [h8]; decide) (by rw [h8]; rfl) (by decide) ?_
      refine x_aload_n B dX8_sizeOf_73 rfl 0 rfl ?_
      refine x_iload_n B dX8_sizeOf_74 rfl 1 rfl ?_
      obtain ⟨r10, σ11, e9, hf⟩ := x_bs hf
      refine x_callV (As := [.int a1]) (st := []) B G (mX8_wavesSize (l := l) G.1.2.1  e9) (cwV 1 B.2.2.2.2.1 gX8_sizeOf_X8_wavesSize rfl rfl rfl hdX8_wavesSize (x_rm_ok (by omega) (by decide))) (by decide) m_c0 rfl rfl rfl (Nat.le_of_ble_eq_true rfl) ⟨Nat.zero_le _, Nat.zero_le _⟩ dX8_sizeOf_75 ?_
      obtain ⟨rfl, rfl⟩ := x_retI hf
      exact x_iret B hr dX8_sizeOf_78
    · replace hf := x_if h8 hf
      by_cases h12 : (σ 1 (19 + a1).toNatClampNeg) = 4
      · replace hf := x_it h12 hf
        refine x_tableIn (tgt := 53) (off := 44) B dX8_sizeOf_9 (by rw [h12]; decide) (by rw [h12]; decide) (by rw [h12]; rfl) (by decide) ?_
        refine x_aload_n B dX8_sizeOf_53 rfl 0 rfl ?_
        refine x_iload_n B dX8_sizeOf_54 rfl 1 rfl ?_
        obtain ⟨r14, σ15, e13, hf⟩ := x_bs hf
        refine x_callV (As := [.int a1]) (st := []) B G (mX8_winksSize (l := l) G.1.2.1  e13) (cwV 1 B.2.2.2.2.1 gX8_sizeOf_X8_winksSize rfl rfl rfl hdX8_winksSize (x_rm_ok (by omega) (by decide))) (by decide) m_c0 rfl rfl rfl (Nat.le_of_ble_eq_true rfl) ⟨Nat.zero_le _, Nat.zero_le _⟩ dX8_sizeOf_55 ?_
        obtain ⟨rfl, rfl⟩ := x_retI hf
        exact x_iret B hr dX8_sizeOf_58
      · replace hf := x_if h12 hf
        by_cases h16 : (σ 1 (19 + a1).toNatClampNeg) = 5
        · replace hf := x_it h16 hf
          refine x_tableIn (tgt := 59) (off := 50) B dX8_sizeOf_9 (by rw [h16]; decide) (by rw [h16]; decide) (by rw [h16]; rfl) (by decide) ?_
          refine x_aload_n B dX8_sizeOf_59 rfl 0 rfl ?_
          refine x_bipush (v := 14) B dX8_sizeOf_60 (by decide) ?_
          obtain ⟨σ18, e17, hf⟩ := x_vs hf
          refine x_callVv (As := [.int 14]) (st := []) B G (mX8_begin (l := l) G.1.2.1  e17) (cwV 1 B.2.2.2.2.1 gX8_sizeOf_X8_begin rfl rfl rfl hdX8_begin (x_rm_ok (by omega) (by decide))) (by decide) m_c0 rfl rfl rfl (Nat.le_of_ble_eq_true rfl) ⟨Nat.zero_le _, Nat.zero_le _⟩ dX8_sizeOf_62 ?_
          refine x_iconst (v := 2) B dX8_sizeOf_65 (by decide) ?_
          refine x_aload_n B dX8_sizeOf_66 rfl 0 rfl ?_
          refine x_iload_n B dX8_sizeOf_67 rfl 1 rfl ?_
          obtain ⟨r20, σ21, e19, hf⟩ := x_bs hf
          refine x_callV (As := [.int a1]) (st := [.int 2]) B G (mX8_winksSize (l := l) G.1.2.1  e19) (cwV 1 B.2.2.2.2.1 gX8_sizeOf_X8_winksSize rfl rfl rfl hdX8_winksSize (x_rm_ok (by omega) (by decide))) (by decide) m_c0 rfl rfl rfl (Nat.le_of_ble_eq_true rfl) ⟨Nat.zero_le _, Nat.zero_le _⟩ dX8_sizeOf_68 ?_
          refine x_imul B dX8_sizeOf_71 ?_
          obtain ⟨rfl, rfl⟩ := x_retI hf
          exact x_iret B hr dX8_sizeOf_72
        · replace hf := x_if h16 hf
          refine x_tableOut (tgt := 73) B dX8_sizeOf_9 (by have g0 := lv_neT (a := 2) h2 rfl; have g1 := lv_neT (a := 3) h8 rfl; have g2 := lv_neT (a := 4) h12 rfl; have g3 := lv_neT (a := 5) h16 rfl; omega) (by decide) ?_
          refine x_aload_n B dX8_sizeOf_73 rfl 0 rfl ?_
          refine x_iload_n B dX8_sizeOf_74 rfl 1 rfl ?_
          obtain ⟨r23, σ24, e22, hf⟩ := x_bs hf
          refine x_callV (As := [.int a1]) (st := []) B G (mX8_wavesSize (l := l) G.1.2.1  e22) (cwV 1 B.2.2.2.2.1 gX8_sizeOf_X8_wavesSize rfl rfl rfl hdX8_wavesSize (x_rm_ok (by omega) (by decide))) (by decide) m_c0 rfl rfl rfl (Nat.le_of_ble_eq_true rfl) ⟨Nat.zero_le _, Nat.zero_le _⟩ dX8_sizeOf_75 ?_
          obtain ⟨rfl, rfl⟩ := x_retI hf
          exact x_iret B hr dX8_sizeOf_78
set_option maxRecDepth 100000 in
set_option maxHeartbeats 4000000 in
theorem mX8_winksMark {σ : x_S} {a1 : Int32} (hdis : x_dis m_N ad) (hf : fX8_winksMark a1 σ = some (r0, σ0)) : x_NI l yX8_winksMark wsX8_winksMark 6 D vwCl (s_tys cI cQ cC cZ) m_N (m_C cI cZ ad) ad m_St m_NW [.ref (ad 0), .int a1] σ r0 σ0 := by
  refine x_met (cc := cX8_winksMark) (own := RX8) (maxL := 3) (ret := (some .int)) (by decide +kernel) rfl rfl (Nat.le_of_ble_eq_true rfl) hdis m_StOk m_NwOk (fun p e s m args below meth c B G hr => ?_)
  unfold fX8_winksMark at hf
  refine x_sub (lv' := [(0, .ref (ad 0)), (1, .int a1)]) [0, 1] rfl ?_
  refine x_aload_n B dX8_winksMark_0 rfl 0 rfl ?_
  refine x_bipush (v := 23) B dX8_winksMark_1 (by decide) ?_
  obtain ⟨σ2, e1, hf⟩ := x_vs hf
  refine x_callVv (As := [.int 23]) (st := []) B G (mX8_begin (l := l) G.1.2.1  e1) (cwV 1 B.2.2.2.2.1 gX8_winksMark_X8_begin rfl rfl rfl hdX8_begin (x_rm_ok (by omega) (by decide))) (by decide) m_c0 rfl rfl rfl (Nat.le_of_ble_eq_true rfl) ⟨Nat.zero_le _, Nat.zero_le _⟩ dX8_winksMark_3 ?_
  refine x_aload_n B dX8_winksMark_6 rfl 0 rfl ?_
  refine x_iload_n B dX8_winksMark_7 rfl 1 rfl ?_
  obtain ⟨r4, σ5, e3, hf⟩ := x_bs hf
  refine x_callV (As := [.int a1]) (st := []) B G (mX8_lentMark (l := l) G.1.2.1  e3) (cwV 1 B.2.2.2.2.1 gX8_winksMark_X8_lentMark rfl rfl rfl hdX8_lentMark (x_rm_ok (by omega) (by decide))) (by decide) m_c0 rfl rfl rfl (Nat.le_of_ble_eq_true rfl) ⟨Nat.zero_le _, Nat.zero_le _⟩ dX8_winksMark_8 ?_
  refine x_istore_n (lv' := [(2, .int r4), (0, .ref (ad 0)), (1, .int a1)]) B dX8_winksMark_11 rfl (by decide) rfl ?_
  refine x_iload_n B dX8_winksMark_12 rfl 0 rfl ?_
  refine x_aload_n B dX8_winksMark_13 rfl 1 rfl ?_
  refine x_iload_n B dX8_winksMark_14 rfl 2 rfl ?_
  obtain ⟨r7, σ8, e6, hf⟩ := x_bs hf
  refine x_callV (As := [.int a1]) (st := [.int r4]) B G (mX8_sizeOf (l := l) G.1.2.1  e6) (cwV 1 B.2.2.2.2.1 gX8_winksMark_X8_sizeOf rfl rfl rfl hdX8_sizeOf (x_rm_ok (by omega) (by decide))) (by decide) m_c0 rfl rfl rfl (Nat.le_of_ble_eq_true rfl) ⟨Nat.zero_le _, Nat.zero_le _⟩ dX8_winksMark_15 ?_
  refine x_isub B dX8_winksMark_18 ?_
  obtain ⟨rfl, rfl⟩ := x_retI hf
  exact x_iret B hr dX8_winksMark_19
theorem iX8_ask_0 : Cond.constant RX8 52 (-1000001) ∈ wsX8_ask := by decide +kernel
theorem iX8_ask_1 : Cond.fieldLink RX8 226 "SignDutyModel" "traced" "I" ∈ wsX8_ask := by decide +kernel
theorem iX8_ask_cX8 : ∀ w ∈ u_ws RX8 TX8 17, w ∈ wsX8_ask := by decide +kernel
set_option maxRecDepth 100000 in
set_option maxHeartbeats 4000000 in
theorem mX8_ask {σ : x_S} {a1 : Int32} {a2 : Int32} (hdis : x_dis m_N ad) (hf : fX8_ask a1 a2 σ = some (r0, σ0)) : x_NI l yX8_ask wsX8_ask 7 D vwCl (s_tys cI cQ cC cZ) m_N (m_C cI cZ ad) ad m_St m_NW [.ref (ad 0), .int a1, .int a2] σ r0 σ0 := by
  refine x_met (cc := cX8_ask) (own := RX8) (maxL := 3) (ret := (some .int)) (by decide +kernel) rfl rfl (Nat.le_of_ble_eq_true rfl) hdis m_StOk m_NwOk (fun p e s m args below meth c B G hr => ?_)
  unfold fX8_ask at hf
  refine x_sub (lv' := [(0, .ref (ad 0)), (1, .int a1), (2, .int a2)]) [0, 1, 2] rfl ?_
  refine x_aload_n B dX8_ask_0 rfl 0 rfl ?_
  refine x_iload_n B dX8_ask_1 rfl 1 rfl ?_
  obtain ⟨r2, e1, hf⟩ := x_ps hf
  refine x_callV (As := [.int a1]) (st := []) B G (mX8_isGesture (l := l) G.1.2.1  e1) (cwV 1 B.2.2.2.2.1 gX8_ask_X8_isGesture rfl rfl rfl hdX8_isGesture (x_rm_ok (by omega) (by decide))) (by decide) m_c0 rfl rfl rfl (Nat.le_of_ble_eq_true rfl) ⟨Nat.zero_le _, Nat.zero_le _⟩ dX8_ask_2 ?_
  refine x_if_eq (tgt := 18) B dX8_ask_5 (by decide) (fun h3 => ?_) (fun h3 => ?_)
  · replace hf := x_it h3 hf
    refine x_ldc (v := (-1000001)) B iX8_ask_0 dX8_ask_18 ?_
    obtain ⟨rfl, rfl⟩ := x_retI hf
    exact x_iret B hr dX8_ask_20
  · replace hf := x_if h3 hf
    refine x_iload_n B dX8_ask_8 rfl 2 rfl ?_
    refine x_i2l B dX8_ask_9 ?_
    refine x_lconst (v := 0) B dX8_ask_10 (by decide) ?_
    refine x_lconst (v := 1) B dX8_ask_11 (by decide) ?_
    obtain ⟨r5, e4, hf⟩ := x_ps hf
    refine x_callS (As := [.long a2.toInt64, .long 0, .long 1]) (st := []) B G (mX8_in (l := l) G.1.2.1  e4) (va_cwS 3 B.2.2.2.2.1 gX8_ask_X8_in rfl rfl rfl hdX8_in (x_rm_ok (by omega) (by decide))) rfl rfl (Nat.le_of_ble_eq_true rfl) ⟨Nat.zero_le _, Nat.zero_le _⟩ dX8_ask_12 ?_
    refine x_if_ne (tgt := 21) B dX8_ask_15 (by decide) (fun h6 => ?_) (fun h6 => ?_)
    · replace hf := x_if h6 hf
      refine x_aload_n B dX8_ask_21 rfl 0 rfl ?_
      refine x_iconst (v := 0) B dX8_ask_22 (by decide) ?_
      obtain ⟨σ7, u8, hf⟩ := x_ws hf
      refine x_put (v := 0) (ty := .int) (kc := 0) (index := 226) B G.1 iX8_ask_cX8 tyX8 tyX8_ok nmX8 rfl (by decide) m_c0 12 (by decide) iX8_ask_1 rfl rfl rfl rfl (Nat.le_of_ble_eq_true rfl) (m_w_12 _ _) dX8_ask_23 ?_
      refine x_nm u8 ?_
      refine x_iload_n B dX8_ask_26 rfl 2 rfl ?_
      refine x_if_ne (tgt := 38) B dX8_ask_27 (by decide) (fun h9 => ?_) (fun h9 => ?_)
      · replace hf := x_if h9 hf
        refine x_aload_n B dX8_ask_38 rfl 0 rfl ?_
        refine x_iload_n B dX8_ask_39 rfl 1 rfl ?_
        refine x_iconst (v := 4) B dX8_ask_40 (by decide) ?_
        obtain ⟨r11, e10, hf⟩ := x_ps hf
        refine x_callV (As := [.int a1, .int 4]) (st := []) B G (mX8_isOf (l := l) G.1.2.1  e10) (cwV 2 B.2.2.2.2.1 gX8_ask_X8_isOf rfl rfl rfl hdX8_isOf (x_rm_ok (by omega) (by decide))) (by decide) m_c0 rfl rfl rfl (Nat.le_of_ble_eq_true rfl) ⟨Nat.zero_le _, Nat.zero_le _⟩ dX8_ask_41 ?_
        refine x_if_eq (tgt := 55) B dX8_ask_44 (by decide) (fun h12 => ?_) (fun h12 => ?_)
        · replace hf := x_it h12 hf
          refine x_aload_n B dX8_ask_55 rfl 0 rfl ?_
          refine x_iload_n B dX8_ask_56 rfl 1 rfl ?_
          obtain ⟨r14, σ15, e13, hf⟩ := x_bs hf
          refine x_callV (As := [.int a1]) (st := []) B G (mX8_mark (l := l) G.1.2.1  e13) (cwV 1 B.2.2.2.2.1 gX8_ask_X8_mark rfl rfl rfl hdX8_mark (x_rm_ok (by omega) (by decide))) (by decide) m_c0 rfl rfl rfl (Nat.le_of_ble_eq_true rfl) ⟨Nat.zero_le _, Nat.zero_le _⟩ dX8_ask_57 ?_
          obtain ⟨rfl, rfl⟩ := x_retI hf
          exact x_iret B hr dX8_ask_60
        · replace hf := x_if h12 hf
          refine x_aload_n B dX8_ask_47 rfl 0 rfl ?_
          refine x_iload_n B dX8_ask_48 rfl 1 rfl ?_
          obtain ⟨r17, σ18, e16, hf⟩ := x_bs hf
          refine x_callV (As := [.int a1]) (st := []) B G (mX8_winksMark (l := l) G.1.2.1  e16) (cwV 1 B.2.2.2.2.1 gX8_ask_X8_winksMark rfl rfl rfl hdX8_winksMark (x_rm_ok (by omega) (by decide))) (by decide) m_c0 rfl rfl rfl (Nat.le_of_ble_eq_true rfl) ⟨Nat.zero_le _, Nat.zero_le _⟩ dX8_ask_49 ?_
          refine x_goto (tgt := 60) B dX8_ask_52 (by decide) ?_
          obtain ⟨rfl, rfl⟩ := x_retI hf
          exact x_iret B hr dX8_ask_60
      · replace hf := x_it h9 hf
        refine x_aload_n B dX8_ask_30 rfl 0 rfl ?_
        refine x_iload_n B dX8_ask_31 rfl 1 rfl ?_
        obtain ⟨r20, σ21, e19, hf⟩ := x_bs hf
        refine x_callV (As := [.int a1]) (st := []) B G (mX8_sizeOf (l := l) G.1.2.1  e19) (cwV 1 B.2.2.2.2.1 gX8_ask_X8_sizeOf rfl rfl rfl hdX8_sizeOf (x_rm_ok (by omega) (by decide))) (by decide) m_c0 rfl rfl rfl (Nat.le_of_ble_eq_true rfl) ⟨Nat.zero_le _, Nat.zero_le _⟩ dX8_ask_32 ?_
        refine x_goto (tgt := 60) B dX8_ask_35 (by decide) ?_
        obtain ⟨rfl, rfl⟩ := x_retI hf
        exact x_iret B hr dX8_ask_60
    · replace hf := x_it h6 hf
      refine x_ldc (v := (-1000001)) B iX8_ask_0 dX8_ask_18 ?_
      obtain ⟨rfl, rfl⟩ := x_retI hf
      exact x_iret B hr dX8_ask_20
theorem iX8_trace_0 : Cond.fieldLink RX8 226 "SignDutyModel" "traced" "I" ∈ wsX8_trace := by decide +kernel
theorem iX8_trace_cX8 : ∀ w ∈ u_ws RX8 TX8 17, w ∈ wsX8_trace := by decide +kernel
theorem iX8_trace_2 : Cond.constant RX8 200 (-1000000) ∈ wsX8_trace := by decide +kernel
theorem iX8_trace_3 : Cond.fieldLink RX8 29 "SignDutyModel" "trace" "[I" ∈ wsX8_trace := by decide +kernel
set_option maxRecDepth 100000 in
set_option maxHeartbeats 4000000 in
theorem mX8_trace {σ : x_S} {a1 : Int32} (hdis : x_dis m_N ad) (hf : fX8_trace a1 σ = some r0) : x_NI l yX8_trace wsX8_trace 1 D vwCl (s_tys cI cQ cC cZ) m_N (m_C cI cZ ad) ad m_St m_NW [.ref (ad 0), .int a1] σ r0 σ := by
  refine x_met (cc := cX8_trace) (own := RX8) (maxL := 2) (ret := (some .int)) (by decide +kernel) rfl rfl (Nat.le_of_ble_eq_true rfl) hdis m_StOk m_NwOk (fun p e s m args below meth c B G hr => ?_)
  unfold fX8_trace at hf
  refine x_sub (lv' := [(0, .ref (ad 0)), (1, .int a1)]) [0, 1] rfl ?_
  refine x_iload_n B dX8_trace_0 rfl 1 rfl ?_
  refine x_i2l B dX8_trace_1 ?_
  refine x_lconst (v := 0) B dX8_trace_2 (by decide) ?_
  refine x_aload_n B dX8_trace_3 rfl 0 rfl ?_
  refine x_get (v := .int (σ 0 12)) (kc := 0) (index := 226) B G.1 iX8_trace_cX8 rfl (by decide) m_c0 12 (by decide) iX8_trace_0 rfl dX8_trace_4 ?_
  refine x_iconst (v := 1) B dX8_trace_7 (by decide) ?_
  refine x_isub B dX8_trace_8 ?_
  refine x_i2l B dX8_trace_9 ?_
  obtain ⟨r2, e1, hf⟩ := x_ps hf
  refine x_callS (As := [.long a1.toInt64, .long 0, .long (((σ 0 12) - 1).toInt64)]) (st := []) B G (mX8_in (l := l) G.1.2.1  e1) (va_cwS 3 B.2.2.2.2.1 gX8_trace_X8_in rfl rfl rfl hdX8_in (x_rm_ok (by omega) (by decide))) rfl rfl (Nat.le_of_ble_eq_true rfl) ⟨Nat.zero_le _, Nat.zero_le _⟩ dX8_trace_10 ?_
  refine x_if_eq (tgt := 25) B dX8_trace_13 (by decide) (fun h3 => ?_) (fun h3 => ?_)
  · replace hf := x_it h3 hf
    refine x_ldc (v := (-1000000)) B iX8_trace_2 dX8_trace_25 ?_
    obtain rfl := x_retP hf
    exact x_iret B hr dX8_trace_27
  · replace hf := x_if h3 hf
    refine x_aload_n B dX8_trace_16 rfl 0 rfl ?_
    refine x_get (v := .ref (ad 7)) (kc := 0) (index := 29) B G.1 iX8_trace_cX8 rfl (by decide) m_c0 11 (by decide) iX8_trace_3 rfl dX8_trace_17 ?_
    refine x_iload_n B dX8_trace_20 rfl 1 rfl ?_
    obtain ⟨h4, hf⟩ := x_gs hf
    refine x_iald (kc := 7) (t0 := 0) B G.1 (by decide) m_c7 rfl h4 dX8_trace_21 ?_
    refine x_goto (tgt := 27) B dX8_trace_22 (by decide) ?_
    obtain rfl := x_retP hf
    exact x_iret B hr dX8_trace_27
theorem iX8_count_0 : Cond.fieldLink RX8 20 "SignDutyModel" "sizes" "[I" ∈ wsX8_count := by decide +kernel
theorem iX8_count_cX8 : ∀ w ∈ u_ws RX8 TX8 17, w ∈ wsX8_count := by decide +kernel
theorem iX8_count_2 : Cond.fieldLink RX8 7 "SignDutyModel" "row" "[I" ∈ wsX8_count := by decide +kernel
theorem iX8_count_3 : Cond.fieldLink RX8 131 "SignDutyModel" "undos" "I" ∈ wsX8_count := by decide +kernel
theorem iX8_count_4 : Cond.fieldLink RX8 70 "SignDutyModel" "length" "I" ∈ wsX8_count := by decide +kernel
theorem iX8_count_5 : Cond.constant RX8 52 (-1000001) ∈ wsX8_count := by decide +kernel
set_option maxRecDepth 100000 in
set_option maxHeartbeats 4000000 in
theorem qX8_count_50 {σ : x_S} {x2 : Int32} {x3 : Int32} {K50 : Int32 → Int32 → Option Int32} (B : x_B p s m args meth c cX8_count 4 wsX8_count RX8) (G : x_H s D vwCl (s_tys cI cQ cC cZ) m_N ad (x_A m_N ad) m_St m_NW) (hr : meth.sig.returnType = (some .int)) (hK50 : ∀ (x2 : Int32) (x3 : Int32), K50 x2 x3 = some r0 → x_J p l e (x_rm 1) s m args below meth c 0 0 (MQ below (x_Qi D vwCl m_N (m_C cI cZ ad) ad r0 σ) args s 0 0 (x_A m_N ad)) (x_A m_N ad) 4 (x_I D vwCl m_N (m_C cI cZ ad) ad σ) [(0, .ref (ad 0)), (2, .int x2), (3, .int x3)] [] 50) (hf : gX8_count_50   K50 x2 x3 σ = some r0) : x_J p l e (x_rm 1) s m args below meth c 0 0 (MQ below (x_Qi D vwCl m_N (m_C cI cZ ad) ad r0 σ) args s 0 0 (x_A m_N ad)) (x_A m_N ad) 4 (x_I D vwCl m_N (m_C cI cZ ad) ad σ) [(0, .ref (ad 0)), (2, .int x2), (3, .int x3)] [] 50 := by
  unfold gX8_count_50 at hf
  refine x_iload_n B dX8_count_50 rfl 2 rfl ?_
  refine x_bipush (v := 8) B dX8_count_51 (by decide) ?_
  refine x_icmp_ge (tgt := 79) B dX8_count_53 (by decide) (fun h1 => ?_) (fun h1 => ?_)
  · replace hf := x_it h1 hf
    refine x_iload_n B dX8_count_79 rfl 1 rfl ?_
    obtain rfl := x_retP hf
    exact x_iret B hr dX8_count_80
  · replace hf := x_if h1 hf
    refine x_iload_n B dX8_count_56 rfl 1 rfl ?_
    refine x_aload_n B dX8_count_57 rfl 0 rfl ?_
    refine x_get (v := .ref (ad 4)) (kc := 0) (index := 20) B G.1 iX8_count_cX8 rfl (by decide) m_c0 5 (by decide) iX8_count_0 rfl dX8_count_58 ?_
    refine x_iload_n B dX8_count_61 rfl 2 rfl ?_
    obtain ⟨h2, hf⟩ := x_gs hf
    refine x_iald (kc := 4) (t0 := 0) B G.1 (by decide) m_c4 rfl h2 dX8_count_62 ?_
    refine x_if_ge (tgt := 70) B dX8_count_63 (by decide) (fun h3 => ?_) (fun h3 => ?_)
    · replace hf := x_it h3 hf
      refine x_iconst (v := 1) B dX8_count_70 (by decide) ?_
      refine x_iadd B dX8_count_71 ?_
      refine x_istore_n (lv' := [(2, .int (x2 + 1)), (0, .ref (ad 0)), (3, .int x3)]) B dX8_count_72 rfl (by decide) rfl ?_
      refine x_iinc (v := (x3 + 1)) (lv' := [(3, .int (x3 + 1)), (2, .int (x2 + 1)), (0, .ref (ad 0))]) B dX8_count_73 2 rfl rfl (by decide) rfl ?_
      refine x_goto (tgt := 50) B dX8_count_76 (by decide) ?_
      refine x_sub [2, 1, 0] rfl ?_
      exact hK50 _ _ hf
    · replace hf := x_if h3 hf
      refine x_iconst (v := 0) B dX8_count_66 (by decide) ?_
      refine x_goto (tgt := 71) B dX8_count_67 (by decide) ?_
      refine x_iadd B dX8_count_71 ?_
      refine x_istore_n (lv' := [(2, .int (x2 + 0)), (0, .ref (ad 0)), (3, .int x3)]) B dX8_count_72 rfl (by decide) rfl ?_
      refine x_iinc (v := (x3 + 1)) (lv' := [(3, .int (x3 + 1)), (2, .int (x2 + 0)), (0, .ref (ad 0))]) B dX8_count_73 2 rfl rfl (by decide) rfl ?_
      refine x_goto (tgt := 50) B dX8_count_76 (by decide) ?_
      refine x_sub [2, 1, 0] rfl ?_
      exact hK50 _ _ hf
set_option maxRecDepth 100000 in
set_option maxHeartbeats 4000000 in
theorem kX8_count_50 {σ : x_S} {x2 : Int32} {x3 : Int32} (B : x_B p s m args meth c cX8_count 4 wsX8_count RX8) (G : x_H s D vwCl (s_tys cI cQ cC cZ) m_N ad (x_A m_N ad) m_St m_NW) (hr : meth.sig.returnType = (some .int)) (hf : bX8_count_50   x2 x3 σ = some r0) : x_J p l e (x_rm 1) s m args below meth c 0 0 (MQ below (x_Qi D vwCl m_N (m_C cI cZ ad) ad r0 σ) args s 0 0 (x_A m_N ad)) (x_A m_N ad) 4 (x_I D vwCl m_N (m_C cI cZ ad) ad σ) [(0, .ref (ad 0)), (2, .int x2), (3, .int x3)] [] 50 := by
  have key : ∀ (n : Nat) (x2 : Int32) (x3 : Int32), x_fx (α := Int32 → Int32 → Option Int32) (fun _ _ => none) (fun K => fun x2 x3 => gX8_count_50   K x2 x3 σ) n x2 x3 = some r0 → x_J p l e (x_rm 1) s m args below meth c 0 0 (MQ below (x_Qi D vwCl m_N (m_C cI cZ ad) ad r0 σ) args s 0 0 (x_A m_N ad)) (x_A m_N ad) 4 (x_I D vwCl m_N (m_C cI cZ ad) ad σ) [(0, .ref (ad 0)), (2, .int x2), (3, .int x3)] [] 50 := by
    intro n
    induction n with
    | zero => intro x2 x3 h; cases h
    | succ n ih => intro x2 x3 h; exact qX8_count_50 B G hr  ih  h
  exact key x_F x2 x3 hf
set_option maxRecDepth 100000 in
set_option maxHeartbeats 4000000 in
theorem mX8_count {σ : x_S} {a1 : Int32} (hdis : x_dis m_N ad) (hf : fX8_count a1 σ = some r0) : x_NI l yX8_count wsX8_count 1 D vwCl (s_tys cI cQ cC cZ) m_N (m_C cI cZ ad) ad m_St m_NW [.ref (ad 0), .int a1] σ r0 σ := by
  refine x_met (cc := cX8_count) (own := RX8) (maxL := 4) (ret := (some .int)) (by decide +kernel) rfl rfl (Nat.le_of_ble_eq_true rfl) hdis m_StOk m_NwOk (fun p e s m args below meth c B G hr => ?_)
  unfold fX8_count at hf
  refine x_sub (lv' := [(0, .ref (ad 0)), (1, .int a1)]) [0, 1] rfl ?_
  refine x_iconst (v := 0) B dX8_count_0 (by decide) ?_
  refine x_istore_n (lv' := [(2, .int 0), (0, .ref (ad 0)), (1, .int a1)]) B dX8_count_1 rfl (by decide) rfl ?_
  refine x_iload_n B dX8_count_2 rfl 2 rfl ?_
  by_cases h1 : a1 = 0
  · replace hf := x_it h1 hf
    refine x_tableIn (tgt := 48) (off := 45) B dX8_count_3 (by rw [h1]; decide) (by rw [h1]; decide) (by rw [h1]; rfl) (by decide) ?_
    refine x_iconst (v := 0) B dX8_count_48 (by decide) ?_
    refine x_istore_n (lv' := [(3, .int 0), (2, .int 0), (0, .ref (ad 0)), (1, .int a1)]) B dX8_count_49 rfl (by decide) rfl ?_
    refine x_sub [2, 1, 0] rfl ?_
    exact kX8_count_50 B G hr hf
  · replace hf := x_if h1 hf
    by_cases h2 : a1 = 1
    · replace hf := x_it h2 hf
      refine x_tableIn (tgt := 81) (off := 78) B dX8_count_3 (by rw [h2]; decide) (by rw [h2]; decide) (by rw [h2]; rfl) (by decide) ?_
      refine x_aload_n B dX8_count_81 rfl 1 rfl ?_
      refine x_get (v := .ref (ad 1)) (kc := 0) (index := 7) B G.1 iX8_count_cX8 rfl (by decide) m_c0 0 (by decide) iX8_count_2 rfl dX8_count_82 ?_
      refine x_iconst (v := 1) B dX8_count_85 (by decide) ?_
      refine x_iald (kc := 1) (t0 := 0) B G.1 (by decide) m_c1 rfl (by decide) dX8_count_86 ?_
      obtain rfl := x_retP hf
      exact x_iret B hr dX8_count_87
    · replace hf := x_if h2 hf
      by_cases h4 : a1 = 2
      · replace hf := x_it h4 hf
        refine x_tableIn (tgt := 88) (off := 85) B dX8_count_3 (by rw [h4]; decide) (by rw [h4]; decide) (by rw [h4]; rfl) (by decide) ?_
        refine x_aload_n B dX8_count_88 rfl 1 rfl ?_
        refine x_get (v := .ref (ad 1)) (kc := 0) (index := 7) B G.1 iX8_count_cX8 rfl (by decide) m_c0 0 (by decide) iX8_count_2 rfl dX8_count_89 ?_
        refine x_iconst (v := 2) B dX8_count_92 (by decide) ?_
        refine x_iald (kc := 1) (t0 := 0) B G.1 (by decide) m_c1 rfl (by decide) dX8_count_93 ?_
        obtain rfl := x_retP hf
        exact x_iret B hr dX8_count_94
      · replace hf := x_if h4 hf
        by_cases h6 : a1 = 3
        · replace hf := x_it h6 hf
          refine x_tableIn (tgt := 95) (off := 92) B dX8_count_3 (by rw [h6]; decide) (by rw [h6]; decide) (by rw [h6]; rfl) (by decide) ?_
          refine x_aload_n B dX8_count_95 rfl 1 rfl ?_
          refine x_get (v := .ref (ad 1)) (kc := 0) (index := 7) B G.1 iX8_count_cX8 rfl (by decide) m_c0 0 (by decide) iX8_count_2 rfl dX8_count_96 ?_
          refine x_iconst (v := 3) B dX8_count_99 (by decide) ?_
          refine x_iald (kc := 1) (t0 := 0) B G.1 (by decide) m_c1 rfl (by decide) dX8_count_100 ?_
          obtain rfl := x_retP hf
          exact x_iret B hr dX8_count_101
        · replace hf := x_if h6 hf
          by_cases h8 : a1 = 4
          · replace hf := x_it h8 hf
            refine x_tableIn (tgt := 102) (off := 99) B dX8_count_3 (by rw [h8]; decide) (by rw [h8]; decide) (by rw [h8]; rfl) (by decide) ?_
            refine x_aload_n B dX8_count_102 rfl 1 rfl ?_
            refine x_get (v := .ref (ad 1)) (kc := 0) (index := 7) B G.1 iX8_count_cX8 rfl (by decide) m_c0 0 (by decide) iX8_count_2 rfl dX8_count_103 ?_
            refine x_iconst (v := 0) B dX8_count_106 (by decide) ?_
            refine x_iald (kc := 1) (t0 := 0) B G.1 (by decide) m_c1 rfl (by decide) dX8_count_107 ?_
            obtain rfl := x_retP hf
            exact x_iret B hr dX8_count_108
          · replace hf := x_if h8 hf
            by_cases h10 : a1 = 5
            · replace hf := x_it h10 hf
              refine x_tableIn (tgt := 109) (off := 106) B dX8_count_3 (by rw [h10]; decide) (by rw [h10]; decide) (by rw [h10]; rfl) (by decide) ?_
              refine x_aload_n B dX8_count_109 rfl 1 rfl ?_
              refine x_get (v := .ref (ad 1)) (kc := 0) (index := 7) B G.1 iX8_count_cX8 rfl (by decide) m_c0 0 (by decide) iX8_count_2 rfl dX8_count_110 ?_
              refine x_iconst (v := 4) B dX8_count_113 (by decide) ?_
              refine x_iald (kc := 1) (t0 := 0) B G.1 (by decide) m_c1 rfl (by decide) dX8_count_114 ?_
              obtain ⟨r13, e12, hf⟩ := x_ps hf
              refine x_callS (As := [.int (σ 1 (4 : Int32).toNatClampNeg)]) (st := []) B G (mX8_bits (l := l) G.1.2.1  e12) (va_cwS 1 B.2.2.2.2.1 gX8_count_X8_bits rfl rfl rfl hdX8_bits (x_rm_ok (by omega) (by decide))) rfl rfl (Nat.le_of_ble_eq_true rfl) ⟨Nat.zero_le _, Nat.zero_le _⟩ dX8_count_115 ?_
              obtain rfl := x_retP hf
              exact x_iret B hr dX8_count_118
            · replace hf := x_if h10 hf
              by_cases h14 : a1 = 6
              · replace hf := x_it h14 hf
                refine x_tableIn (tgt := 119) (off := 116) B dX8_count_3 (by rw [h14]; decide) (by rw [h14]; decide) (by rw [h14]; rfl) (by decide) ?_
                refine x_aload_n B dX8_count_119 rfl 1 rfl ?_
                refine x_get (v := .int (σ 0 2)) (kc := 0) (index := 131) B G.1 iX8_count_cX8 rfl (by decide) m_c0 2 (by decide) iX8_count_3 rfl dX8_count_120 ?_
                obtain rfl := x_retP hf
                exact x_iret B hr dX8_count_123
              · replace hf := x_if h14 hf
                by_cases h15 : a1 = 7
                · replace hf := x_it h15 hf
                  refine x_tableIn (tgt := 124) (off := 121) B dX8_count_3 (by rw [h15]; decide) (by rw [h15]; decide) (by rw [h15]; rfl) (by decide) ?_
                  refine x_aload_n B dX8_count_124 rfl 1 rfl ?_
                  refine x_get (v := .int (σ 0 8)) (kc := 0) (index := 70) B G.1 iX8_count_cX8 rfl (by decide) m_c0 8 (by decide) iX8_count_4 rfl dX8_count_125 ?_
                  obtain rfl := x_retP hf
                  exact x_iret B hr dX8_count_128
                · replace hf := x_if h15 hf
                  refine x_tableOut (tgt := 129) B dX8_count_3 (by have g0 := lv_neT (a := 0) h1 rfl; have g1 := lv_neT (a := 1) h2 rfl; have g2 := lv_neT (a := 2) h4 rfl; have g3 := lv_neT (a := 3) h6 rfl; have g4 := lv_neT (a := 4) h8 rfl; have g5 := lv_neT (a := 5) h10 rfl; have g6 := lv_neT (a := 6) h14 rfl; have g7 := lv_neT (a := 7) h15 rfl; omega) (by decide) ?_
                  refine x_ldc (v := (-1000001)) B iX8_count_5 dX8_count_129 ?_
                  obtain rfl := x_retP hf
                  exact x_iret B hr dX8_count_131
theorem iX8_status_0 : Cond.fieldLink RX8 35 "SignDutyModel" "status" "I" ∈ wsX8_status := by decide +kernel
theorem iX8_status_cX8 : ∀ w ∈ u_ws RX8 TX8 17, w ∈ wsX8_status := by decide +kernel
set_option maxRecDepth 100000 in
set_option maxHeartbeats 4000000 in
theorem mX8_status {σ : x_S} (hdis : x_dis m_N ad) (hf : fX8_status  σ = some r0) : x_NI l yX8_status wsX8_status 0 D vwCl (s_tys cI cQ cC cZ) m_N (m_C cI cZ ad) ad m_St m_NW [.ref (ad 0)] σ r0 σ := by
  refine x_met (cc := cX8_status) (own := RX8) (maxL := 1) (ret := (some .int)) (by decide +kernel) rfl rfl (Nat.le_of_ble_eq_true rfl) hdis m_StOk m_NwOk (fun p e s m args below meth c B G hr => ?_)
  unfold fX8_status at hf
  refine x_sub (lv' := [(0, .ref (ad 0))]) [0] rfl ?_
  refine x_aload_n B dX8_status_0 rfl 0 rfl ?_
  refine x_get (v := .int (σ 0 10)) (kc := 0) (index := 35) B G.1 iX8_status_cX8 rfl (by decide) m_c0 10 (by decide) iX8_status_0 rfl dX8_status_1 ?_
  obtain rfl := x_retP hf
  exact x_iret B hr dX8_status_4
end G
