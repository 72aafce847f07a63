def ilen : Instr → Nat
  | .aload _ => 2
  | .anewarray _ => 3
  | .astore _ => 2
  | .bipush _ => 2
  | .dload _ => 2
  | .dstore _ => 2
  | .fload _ => 2
  | .fstore _ => 2
  | .getfield _ => 3
  | .goto _ => 3
  | .ifCond _ _ => 3
  | .if_icmp _ _ => 3
  | .iinc _ _ => 3
  | .iload _ => 2
  | .invokespecial _ => 3
  | .invokestatic _ => 3
  | .invokevirtual _ => 3
  | .istore _ => 2
  | .ldc _ => 2
  | .ldc2_w _ => 3
  | .ldc_w _ => 3
  | .new _ => 3
  | .newarray _ => 2
  | .putfield _ => 3
  | .sipush _ => 3
  | .tableswitch _ _ _ _ => 191
  | _ => 1
theorem OcX0_init : ∀ q ∈ LcX0_init, decode cX0_init q.1 = .ok (q.2, ilen q.2) := by decide +kernel
theorem OcX0_changeTimes : ∀ q ∈ LcX0_changeTimes, decode cX0_changeTimes q.1 = .ok (q.2, ilen q.2) := by decide +kernel
theorem OcX0_changeFollow : ∀ q ∈ LcX0_changeFollow, decode cX0_changeFollow q.1 = .ok (q.2, ilen q.2) := by decide +kernel
theorem OcX0_changeLink : ∀ q ∈ LcX0_changeLink, decode cX0_changeLink q.1 = .ok (q.2, ilen q.2) := by decide +kernel
theorem OcX0_changeCode : ∀ q ∈ LcX0_changeCode, decode cX0_changeCode q.1 = .ok (q.2, ilen q.2) := by decide +kernel
theorem OcX0_changeAssert : ∀ q ∈ LcX0_changeAssert, decode cX0_changeAssert q.1 = .ok (q.2, ilen q.2) := by decide +kernel
theorem OcX1_init : ∀ q ∈ LcX1_init, decode cX1_init q.1 = .ok (q.2, ilen q.2) := by decide +kernel
theorem OcX1_changeMaster : ∀ q ∈ LcX1_changeMaster, decode cX1_changeMaster q.1 = .ok (q.2, ilen q.2) := by decide +kernel
theorem OcX1_changePriority : ∀ q ∈ LcX1_changePriority, decode cX1_changePriority q.1 = .ok (q.2, ilen q.2) := by decide +kernel
theorem OcX1_sourceOf : ∀ q ∈ LcX1_sourceOf, decode cX1_sourceOf q.1 = .ok (q.2, ilen q.2) := by decide +kernel
theorem OcX1_entryOf : ∀ q ∈ LcX1_entryOf, decode cX1_entryOf q.1 = .ok (q.2, ilen q.2) := by decide +kernel
theorem OcX1_nextCue : ∀ q ∈ LcX1_nextCue, decode cX1_nextCue q.1 = .ok (q.2, ilen q.2) := by decide +kernel
theorem OcX1_cueThatFollows : ∀ q ∈ LcX1_cueThatFollows, decode cX1_cueThatFollows q.1 = .ok (q.2, ilen q.2) := by decide +kernel
theorem OcX1_cueForCode : ∀ q ∈ LcX1_cueForCode, decode cX1_cueForCode q.1 = .ok (q.2, ilen q.2) := by decide +kernel
theorem OcX1_hasFade : ∀ q ∈ LcX1_hasFade, decode cX1_hasFade q.1 = .ok (q.2, ilen q.2) := by decide +kernel
theorem OcX1_needsNewFade : ∀ q ∈ LcX1_needsNewFade, decode cX1_needsNewFade q.1 = .ok (q.2, ilen q.2) := by decide +kernel
theorem OcX1_startFade : ∀ q ∈ LcX1_startFade, decode cX1_startFade q.1 = .ok (q.2, ilen q.2) := by decide +kernel
theorem OcX1_fadeValue : ∀ q ∈ LcX1_fadeValue, decode cX1_fadeValue q.1 = .ok (q.2, ilen q.2) := by decide +kernel
theorem OcX1_putOut : ∀ q ∈ LcX1_putOut, decode cX1_putOut q.1 = .ok (q.2, ilen q.2) := by decide +kernel
theorem OcX1_hasOpenFade : ∀ q ∈ LcX1_hasOpenFade, decode cX1_hasOpenFade q.1 = .ok (q.2, ilen q.2) := by decide +kernel
theorem OcX1_letGo : ∀ q ∈ LcX1_letGo, decode cX1_letGo q.1 = .ok (q.2, ilen q.2) := by decide +kernel
theorem OcX1_storedInAll : ∀ q ∈ LcX1_storedInAll, decode cX1_storedInAll q.1 = .ok (q.2, ilen q.2) := by decide +kernel
theorem OcX1_tracksAsGoneThrough : ∀ q ∈ LcX1_tracksAsGoneThrough, decode cX1_tracksAsGoneThrough q.1 = .ok (q.2, ilen q.2) := by decide +kernel
theorem OcX2_init : ∀ q ∈ LcX2_init, decode cX2_init q.1 = .ok (q.2, ilen q.2) := by decide +kernel
theorem OcX2_placeLamp : ∀ q ∈ LcX2_placeLamp, decode cX2_placeLamp q.1 = .ok (q.2, ilen q.2) := by decide +kernel
theorem OcX2_meetsAnotherLamp : ∀ q ∈ LcX2_meetsAnotherLamp, decode cX2_meetsAnotherLamp q.1 = .ok (q.2, ilen q.2) := by decide +kernel
theorem OcX2_moveLamp : ∀ q ∈ LcX2_moveLamp, decode cX2_moveLamp q.1 = .ok (q.2, ilen q.2) := by decide +kernel
theorem OcX2_formGroup : ∀ q ∈ LcX2_formGroup, decode cX2_formGroup q.1 = .ok (q.2, ilen q.2) := by decide +kernel
theorem OcX2_spreadOver : ∀ q ∈ LcX2_spreadOver, decode cX2_spreadOver q.1 = .ok (q.2, ilen q.2) := by decide +kernel
theorem OcX2_cueAt : ∀ q ∈ LcX2_cueAt, decode cX2_cueAt q.1 = .ok (q.2, ilen q.2) := by decide +kernel
theorem OcX2_storeCue : ∀ q ∈ LcX2_storeCue, decode cX2_storeCue q.1 = .ok (q.2, ilen q.2) := by decide +kernel
theorem OcX2_advance : ∀ q ∈ LcX2_advance, decode cX2_advance q.1 = .ok (q.2, ilen q.2) := by decide +kernel
theorem OcX2_begin : ∀ q ∈ LcX2_begin, decode cX2_begin q.1 = .ok (q.2, ilen q.2) := by decide +kernel
theorem OcX2_updateList : ∀ q ∈ LcX2_updateList, decode cX2_updateList q.1 = .ok (q.2, ilen q.2) := by decide +kernel
theorem OcX2_updateSlot : ∀ q ∈ LcX2_updateSlot, decode cX2_updateSlot q.1 = .ok (q.2, ilen q.2) := by decide +kernel
theorem OcX2_goOn : ∀ q ∈ LcX2_goOn, decode cX2_goOn q.1 = .ok (q.2, ilen q.2) := by decide +kernel
theorem OcX2_takeCode : ∀ q ∈ LcX2_takeCode, decode cX2_takeCode q.1 = .ok (q.2, ilen q.2) := by decide +kernel
theorem OcX2_nextEffect : ∀ q ∈ LcX2_nextEffect, decode cX2_nextEffect q.1 = .ok (q.2, ilen q.2) := by decide +kernel
theorem OcX2_runningEffects : ∀ q ∈ LcX2_runningEffects, decode cX2_runningEffects q.1 = .ok (q.2, ilen q.2) := by decide +kernel
theorem OcX2_decider : ∀ q ∈ LcX2_decider, decode cX2_decider q.1 = .ok (q.2, ilen q.2) := by decide +kernel
theorem OcX2_settled : ∀ q ∈ LcX2_settled, decode cX2_settled q.1 = .ok (q.2, ilen q.2) := by decide +kernel
theorem OcX2_shown : ∀ q ∈ LcX2_shown, decode cX2_shown q.1 = .ok (q.2, ilen q.2) := by decide +kernel
theorem OcX2_lineValue : ∀ q ∈ LcX2_lineValue, decode cX2_lineValue q.1 = .ok (q.2, ilen q.2) := by decide +kernel
theorem OcX3_init : ∀ q ∈ LcX3_init, decode cX3_init q.1 = .ok (q.2, ilen q.2) := by decide +kernel
theorem OcX3_describe : ∀ q ∈ LcX3_describe, decode cX3_describe q.1 = .ok (q.2, ilen q.2) := by decide +kernel
theorem OcX3_runs : ∀ q ∈ LcX3_runs, decode cX3_runs q.1 = .ok (q.2, ilen q.2) := by decide +kernel
theorem OcX3_wave : ∀ q ∈ LcX3_wave, decode cX3_wave q.1 = .ok (q.2, ilen q.2) := by decide +kernel
theorem OcX4_init : ∀ q ∈ LcX4_init, decode cX4_init q.1 = .ok (q.2, ilen q.2) := by decide +kernel
theorem OcX4_has : ∀ q ∈ LcX4_has, decode cX4_has q.1 = .ok (q.2, ilen q.2) := by decide +kernel
theorem OcX4_put : ∀ q ∈ LcX4_put, decode cX4_put q.1 = .ok (q.2, ilen q.2) := by decide +kernel
theorem OcX4_drop : ∀ q ∈ LcX4_drop, decode cX4_drop q.1 = .ok (q.2, ilen q.2) := by decide +kernel
theorem OcX4_empty : ∀ q ∈ LcX4_empty, decode cX4_empty q.1 = .ok (q.2, ilen q.2) := by decide +kernel
theorem OcX4_copy : ∀ q ∈ LcX4_copy, decode cX4_copy q.1 = .ok (q.2, ilen q.2) := by decide +kernel
theorem OcX5_init : ∀ q ∈ LcX5_init, decode cX5_init q.1 = .ok (q.2, ilen q.2) := by decide +kernel
theorem OcX5_placeOf : ∀ q ∈ LcX5_placeOf, decode cX5_placeOf q.1 = .ok (q.2, ilen q.2) := by decide +kernel
theorem OcX5_join : ∀ q ∈ LcX5_join, decode cX5_join q.1 = .ok (q.2, ilen q.2) := by decide +kernel
theorem OcX6_init : ∀ q ∈ LcX6_init, decode cX6_init q.1 = .ok (q.2, ilen q.2) := by decide +kernel
theorem OcX6_mix : ∀ q ∈ LcX6_mix, decode cX6_mix q.1 = .ok (q.2, ilen q.2) := by decide +kernel
theorem OcX6_change : ∀ q ∈ LcX6_change, decode cX6_change q.1 = .ok (q.2, ilen q.2) := by decide +kernel
theorem OcX6_numberOf : ∀ q ∈ LcX6_numberOf, decode cX6_numberOf q.1 = .ok (q.2, ilen q.2) := by decide +kernel
theorem OcX7_init : ∀ q ∈ LcX7_init, decode cX7_init q.1 = .ok (q.2, ilen q.2) := by decide +kernel
theorem OcX7_addLamp : ∀ q ∈ LcX7_addLamp, decode cX7_addLamp q.1 = .ok (q.2, ilen q.2) := by decide +kernel
theorem OcX7_patch : ∀ q ∈ LcX7_patch, decode cX7_patch q.1 = .ok (q.2, ilen q.2) := by decide +kernel
theorem OcX7_addGroup : ∀ q ∈ LcX7_addGroup, decode cX7_addGroup q.1 = .ok (q.2, ilen q.2) := by decide +kernel
theorem OcX7_addToGroup : ∀ q ∈ LcX7_addToGroup, decode cX7_addToGroup q.1 = .ok (q.2, ilen q.2) := by decide +kernel
theorem OcX7_addPalette : ∀ q ∈ LcX7_addPalette, decode cX7_addPalette q.1 = .ok (q.2, ilen q.2) := by decide +kernel
theorem OcX7_setPalette : ∀ q ∈ LcX7_setPalette, decode cX7_setPalette q.1 = .ok (q.2, ilen q.2) := by decide +kernel
theorem OcX7_set : ∀ q ∈ LcX7_set, decode cX7_set q.1 = .ok (q.2, ilen q.2) := by decide +kernel
theorem OcX7_point : ∀ q ∈ LcX7_point, decode cX7_point q.1 = .ok (q.2, ilen q.2) := by decide +kernel
theorem OcX7_fan : ∀ q ∈ LcX7_fan, decode cX7_fan q.1 = .ok (q.2, ilen q.2) := by decide +kernel
theorem OcX7_knockOut : ∀ q ∈ LcX7_knockOut, decode cX7_knockOut q.1 = .ok (q.2, ilen q.2) := by decide +kernel
theorem OcX7_clear : ∀ q ∈ LcX7_clear, decode cX7_clear q.1 = .ok (q.2, ilen q.2) := by decide +kernel
theorem OcX7_record : ∀ q ∈ LcX7_record, decode cX7_record q.1 = .ok (q.2, ilen q.2) := by decide +kernel
theorem OcX7_setTimes : ∀ q ∈ LcX7_setTimes, decode cX7_setTimes q.1 = .ok (q.2, ilen q.2) := by decide +kernel
theorem OcX7_setFollow : ∀ q ∈ LcX7_setFollow, decode cX7_setFollow q.1 = .ok (q.2, ilen q.2) := by decide +kernel
theorem OcX7_setLink : ∀ q ∈ LcX7_setLink, decode cX7_setLink q.1 = .ok (q.2, ilen q.2) := by decide +kernel
theorem OcX7_setCode : ∀ q ∈ LcX7_setCode, decode cX7_setCode q.1 = .ok (q.2, ilen q.2) := by decide +kernel
theorem OcX7_setAssert : ∀ q ∈ LcX7_setAssert, decode cX7_setAssert q.1 = .ok (q.2, ilen q.2) := by decide +kernel
theorem OcX7_setMaster : ∀ q ∈ LcX7_setMaster, decode cX7_setMaster q.1 = .ok (q.2, ilen q.2) := by decide +kernel
theorem OcX7_setPriority : ∀ q ∈ LcX7_setPriority, decode cX7_setPriority q.1 = .ok (q.2, ilen q.2) := by decide +kernel
theorem OcX7_go : ∀ q ∈ LcX7_go, decode cX7_go q.1 = .ok (q.2, ilen q.2) := by decide +kernel
theorem OcX7_goTo : ∀ q ∈ LcX7_goTo, decode cX7_goTo q.1 = .ok (q.2, ilen q.2) := by decide +kernel
theorem OcX7_release : ∀ q ∈ LcX7_release, decode cX7_release q.1 = .ok (q.2, ilen q.2) := by decide +kernel
theorem OcX7_update : ∀ q ∈ LcX7_update, decode cX7_update q.1 = .ok (q.2, ilen q.2) := by decide +kernel
theorem OcX7_pass : ∀ q ∈ LcX7_pass, decode cX7_pass q.1 = .ok (q.2, ilen q.2) := by decide +kernel
theorem OcX7_code : ∀ q ∈ LcX7_code, decode cX7_code q.1 = .ok (q.2, ilen q.2) := by decide +kernel
theorem OcX7_addEffect : ∀ q ∈ LcX7_addEffect, decode cX7_addEffect q.1 = .ok (q.2, ilen q.2) := by decide +kernel
theorem OcX7_start : ∀ q ∈ LcX7_start, decode cX7_start q.1 = .ok (q.2, ilen q.2) := by decide +kernel
theorem OcX7_stop : ∀ q ∈ LcX7_stop, decode cX7_stop q.1 = .ok (q.2, ilen q.2) := by decide +kernel
theorem OcX7_output : ∀ q ∈ LcX7_output, decode cX7_output q.1 = .ok (q.2, ilen q.2) := by decide +kernel
theorem OcX7_outputBits : ∀ q ∈ LcX7_outputBits, decode cX7_outputBits q.1 = .ok (q.2, ilen q.2) := by decide +kernel
theorem OcX7_line : ∀ q ∈ LcX7_line, decode cX7_line q.1 = .ok (q.2, ilen q.2) := by decide +kernel
theorem OcX7_decides : ∀ q ∈ LcX7_decides, decode cX7_decides q.1 = .ok (q.2, ilen q.2) := by decide +kernel
theorem OcX7_valueIn : ∀ q ∈ LcX7_valueIn, decode cX7_valueIn q.1 = .ok (q.2, ilen q.2) := by decide +kernel
theorem OcX7_tracked : ∀ q ∈ LcX7_tracked, decode cX7_tracked q.1 = .ok (q.2, ilen q.2) := by decide +kernel
theorem OcX7_source : ∀ q ∈ LcX7_source, decode cX7_source q.1 = .ok (q.2, ilen q.2) := by decide +kernel
theorem OcX7_paletteOf : ∀ q ∈ LcX7_paletteOf, decode cX7_paletteOf q.1 = .ok (q.2, ilen q.2) := by decide +kernel
theorem OcX7_cueOf : ∀ q ∈ LcX7_cueOf, decode cX7_cueOf q.1 = .ok (q.2, ilen q.2) := by decide +kernel
theorem OcX7_cues : ∀ q ∈ LcX7_cues, decode cX7_cues q.1 = .ok (q.2, ilen q.2) := by decide +kernel
theorem OcX7_isFading : ∀ q ∈ LcX7_isFading, decode cX7_isFading q.1 = .ok (q.2, ilen q.2) := by decide +kernel
theorem OcX7_time : ∀ q ∈ LcX7_time, decode cX7_time q.1 = .ok (q.2, ilen q.2) := by decide +kernel
theorem OcX7_sum : ∀ q ∈ LcX7_sum, decode cX7_sum q.1 = .ok (q.2, ilen q.2) := by decide +kernel
theorem OcX7_litShare : ∀ q ∈ LcX7_litShare, decode cX7_litShare q.1 = .ok (q.2, ilen q.2) := by decide +kernel
theorem OcX7_meanStored : ∀ q ∈ LcX7_meanStored, decode cX7_meanStored q.1 = .ok (q.2, ilen q.2) := by decide +kernel
theorem OcX7_isSound : ∀ q ∈ LcX7_isSound, decode cX7_isSound q.1 = .ok (q.2, ilen q.2) := by decide +kernel
theorem OcX7_runEffect : ∀ q ∈ LcX7_runEffect, decode cX7_runEffect q.1 = .ok (q.2, ilen q.2) := by decide +kernel
theorem OcX7_needLamp : ∀ q ∈ LcX7_needLamp, decode cX7_needLamp q.1 = .ok (q.2, ilen q.2) := by decide +kernel
theorem OcX7_needAttribute : ∀ q ∈ LcX7_needAttribute, decode cX7_needAttribute q.1 = .ok (q.2, ilen q.2) := by decide +kernel
theorem OcX7_needSlot : ∀ q ∈ LcX7_needSlot, decode cX7_needSlot q.1 = .ok (q.2, ilen q.2) := by decide +kernel
theorem OcX7_needGroup : ∀ q ∈ LcX7_needGroup, decode cX7_needGroup q.1 = .ok (q.2, ilen q.2) := by decide +kernel
theorem OcX7_needPalette : ∀ q ∈ LcX7_needPalette, decode cX7_needPalette q.1 = .ok (q.2, ilen q.2) := by decide +kernel
theorem OcX7_needEffect : ∀ q ∈ LcX7_needEffect, decode cX7_needEffect q.1 = .ok (q.2, ilen q.2) := by decide +kernel
theorem OcX7_needList : ∀ q ∈ LcX7_needList, decode cX7_needList q.1 = .ok (q.2, ilen q.2) := by decide +kernel
theorem OcX7_needCue : ∀ q ∈ LcX7_needCue, decode cX7_needCue q.1 = .ok (q.2, ilen q.2) := by decide +kernel
theorem OcX7_needPresentCue : ∀ q ∈ LcX7_needPresentCue, decode cX7_needPresentCue q.1 = .ok (q.2, ilen q.2) := by decide +kernel
theorem OcX7_needEntry : ∀ q ∈ LcX7_needEntry, decode cX7_needEntry q.1 = .ok (q.2, ilen q.2) := by decide +kernel
theorem OcX7_needRange : ∀ q ∈ LcX7_needRange, decode cX7_needRange q.1 = .ok (q.2, ilen q.2) := by decide +kernel
theorem OcX7_slotOf : ∀ q ∈ LcX7_slotOf, decode cX7_slotOf q.1 = .ok (q.2, ilen q.2) := by decide +kernel
theorem OcX7_isPalette : ∀ q ∈ LcX7_isPalette, decode cX7_isPalette q.1 = .ok (q.2, ilen q.2) := by decide +kernel
theorem OcX7_bitsOf : ∀ q ∈ LcX7_bitsOf, decode cX7_bitsOf q.1 = .ok (q.2, ilen q.2) := by decide +kernel
theorem OcX8_init : ∀ q ∈ LcX8_init, decode cX8_init q.1 = .ok (q.2, ilen q.2) := by decide +kernel
theorem OcX8_thrown : ∀ q ∈ LcX8_thrown, decode cX8_thrown q.1 = .ok (q.2, ilen q.2) := by decide +kernel
theorem OcX8_fails : ∀ q ∈ LcX8_fails, decode cX8_fails q.1 = .ok (q.2, ilen q.2) := by decide +kernel
theorem OcX8_in : ∀ q ∈ LcX8_in, decode cX8_in q.1 = .ok (q.2, ilen q.2) := by decide +kernel
theorem OcX8_isLamp : ∀ q ∈ LcX8_isLamp, decode cX8_isLamp q.1 = .ok (q.2, ilen q.2) := by decide +kernel
theorem OcX8_isList : ∀ q ∈ LcX8_isList, decode cX8_isList q.1 = .ok (q.2, ilen q.2) := by decide +kernel
theorem OcX8_isCue : ∀ q ∈ LcX8_isCue, decode cX8_isCue q.1 = .ok (q.2, ilen q.2) := by decide +kernel
theorem OcX8_valueOf : ∀ q ∈ LcX8_valueOf, decode cX8_valueOf q.1 = .ok (q.2, ilen q.2) := by decide +kernel
theorem OcX8_countProgrammer : ∀ q ∈ LcX8_countProgrammer, decode cX8_countProgrammer q.1 = .ok (q.2, ilen q.2) := by decide +kernel
theorem OcX8_empties : ∀ q ∈ LcX8_empties, decode cX8_empties q.1 = .ok (q.2, ilen q.2) := by decide +kernel
theorem OcX8_at : ∀ q ∈ LcX8_at, decode cX8_at q.1 = .ok (q.2, ilen q.2) := by decide +kernel
theorem OcX8_sourceOf : ∀ q ∈ LcX8_sourceOf, decode cX8_sourceOf q.1 = .ok (q.2, ilen q.2) := by decide +kernel
theorem OcX8_trackedIn : ∀ q ∈ LcX8_trackedIn, decode cX8_trackedIn q.1 = .ok (q.2, ilen q.2) := by decide +kernel
theorem OcX8_valueOfFade : ∀ q ∈ LcX8_valueOfFade, decode cX8_valueOfFade q.1 = .ok (q.2, ilen q.2) := by decide +kernel
theorem OcX8_decided : ∀ q ∈ LcX8_decided, decode cX8_decided q.1 = .ok (q.2, ilen q.2) := by decide +kernel
theorem OcX8_memberAt : ∀ q ∈ LcX8_memberAt, decode cX8_memberAt q.1 = .ok (q.2, ilen q.2) := by decide +kernel
theorem OcX8_effect : ∀ q ∈ LcX8_effect, decode cX8_effect q.1 = .ok (q.2, ilen q.2) := by decide +kernel
theorem OcX8_put : ∀ q ∈ LcX8_put, decode cX8_put q.1 = .ok (q.2, ilen q.2) := by decide +kernel
theorem OcX8_begins : ∀ q ∈ LcX8_begins, decode cX8_begins q.1 = .ok (q.2, ilen q.2) := by decide +kernel
theorem OcX8_nextOf : ∀ q ∈ LcX8_nextOf, decode cX8_nextOf q.1 = .ok (q.2, ilen q.2) := by decide +kernel
theorem OcX8_addLamp : ∀ q ∈ LcX8_addLamp, decode cX8_addLamp q.1 = .ok (q.2, ilen q.2) := by decide +kernel
theorem OcX8_patch : ∀ q ∈ LcX8_patch, decode cX8_patch q.1 = .ok (q.2, ilen q.2) := by decide +kernel
theorem OcX8_addGroup : ∀ q ∈ LcX8_addGroup, decode cX8_addGroup q.1 = .ok (q.2, ilen q.2) := by decide +kernel
theorem OcX8_addToGroup : ∀ q ∈ LcX8_addToGroup, decode cX8_addToGroup q.1 = .ok (q.2, ilen q.2) := by decide +kernel
theorem OcX8_isKind : ∀ q ∈ LcX8_isKind, decode cX8_isKind q.1 = .ok (q.2, ilen q.2) := by decide +kernel
theorem OcX8_isByte : ∀ q ∈ LcX8_isByte, decode cX8_isByte q.1 = .ok (q.2, ilen q.2) := by decide +kernel
theorem OcX8_addPalette : ∀ q ∈ LcX8_addPalette, decode cX8_addPalette q.1 = .ok (q.2, ilen q.2) := by decide +kernel
theorem OcX8_setPalette : ∀ q ∈ LcX8_setPalette, decode cX8_setPalette q.1 = .ok (q.2, ilen q.2) := by decide +kernel
theorem OcX8_set : ∀ q ∈ LcX8_set, decode cX8_set q.1 = .ok (q.2, ilen q.2) := by decide +kernel
theorem OcX8_point : ∀ q ∈ LcX8_point, decode cX8_point q.1 = .ok (q.2, ilen q.2) := by decide +kernel
theorem OcX8_fan : ∀ q ∈ LcX8_fan, decode cX8_fan q.1 = .ok (q.2, ilen q.2) := by decide +kernel
theorem OcX8_knockOut : ∀ q ∈ LcX8_knockOut, decode cX8_knockOut q.1 = .ok (q.2, ilen q.2) := by decide +kernel
theorem OcX8_clear : ∀ q ∈ LcX8_clear, decode cX8_clear q.1 = .ok (q.2, ilen q.2) := by decide +kernel
theorem OcX8_record : ∀ q ∈ LcX8_record, decode cX8_record q.1 = .ok (q.2, ilen q.2) := by decide +kernel
theorem OcX8_setTimes : ∀ q ∈ LcX8_setTimes, decode cX8_setTimes q.1 = .ok (q.2, ilen q.2) := by decide +kernel
theorem OcX8_setFollow : ∀ q ∈ LcX8_setFollow, decode cX8_setFollow q.1 = .ok (q.2, ilen q.2) := by decide +kernel
theorem OcX8_setLink : ∀ q ∈ LcX8_setLink, decode cX8_setLink q.1 = .ok (q.2, ilen q.2) := by decide +kernel
theorem OcX8_setCode : ∀ q ∈ LcX8_setCode, decode cX8_setCode q.1 = .ok (q.2, ilen q.2) := by decide +kernel
theorem OcX8_setAssert : ∀ q ∈ LcX8_setAssert, decode cX8_setAssert q.1 = .ok (q.2, ilen q.2) := by decide +kernel
theorem OcX8_setMaster : ∀ q ∈ LcX8_setMaster, decode cX8_setMaster q.1 = .ok (q.2, ilen q.2) := by decide +kernel
theorem OcX8_setPriority : ∀ q ∈ LcX8_setPriority, decode cX8_setPriority q.1 = .ok (q.2, ilen q.2) := by decide +kernel
theorem OcX8_go : ∀ q ∈ LcX8_go, decode cX8_go q.1 = .ok (q.2, ilen q.2) := by decide +kernel
theorem OcX8_goTo : ∀ q ∈ LcX8_goTo, decode cX8_goTo q.1 = .ok (q.2, ilen q.2) := by decide +kernel
theorem OcX8_release : ∀ q ∈ LcX8_release, decode cX8_release q.1 = .ok (q.2, ilen q.2) := by decide +kernel
theorem OcX8_update : ∀ q ∈ LcX8_update, decode cX8_update q.1 = .ok (q.2, ilen q.2) := by decide +kernel
theorem OcX8_pass : ∀ q ∈ LcX8_pass, decode cX8_pass q.1 = .ok (q.2, ilen q.2) := by decide +kernel
theorem OcX8_code : ∀ q ∈ LcX8_code, decode cX8_code q.1 = .ok (q.2, ilen q.2) := by decide +kernel
theorem OcX8_addEffect : ∀ q ∈ LcX8_addEffect, decode cX8_addEffect q.1 = .ok (q.2, ilen q.2) := by decide +kernel
theorem OcX8_countRunning : ∀ q ∈ LcX8_countRunning, decode cX8_countRunning q.1 = .ok (q.2, ilen q.2) := by decide +kernel
theorem OcX8_start : ∀ q ∈ LcX8_start, decode cX8_start q.1 = .ok (q.2, ilen q.2) := by decide +kernel
theorem OcX8_stop : ∀ q ∈ LcX8_stop, decode cX8_stop q.1 = .ok (q.2, ilen q.2) := by decide +kernel
theorem OcX8_isSlot : ∀ q ∈ LcX8_isSlot, decode cX8_isSlot q.1 = .ok (q.2, ilen q.2) := by decide +kernel
theorem OcX8_output : ∀ q ∈ LcX8_output, decode cX8_output q.1 = .ok (q.2, ilen q.2) := by decide +kernel
theorem OcX8_outputBits : ∀ q ∈ LcX8_outputBits, decode cX8_outputBits q.1 = .ok (q.2, ilen q.2) := by decide +kernel
theorem OcX8_lineValue : ∀ q ∈ LcX8_lineValue, decode cX8_lineValue q.1 = .ok (q.2, ilen q.2) := by decide +kernel
theorem OcX8_line : ∀ q ∈ LcX8_line, decode cX8_line q.1 = .ok (q.2, ilen q.2) := by decide +kernel
theorem OcX8_decides : ∀ q ∈ LcX8_decides, decode cX8_decides q.1 = .ok (q.2, ilen q.2) := by decide +kernel
theorem OcX8_valueIn : ∀ q ∈ LcX8_valueIn, decode cX8_valueIn q.1 = .ok (q.2, ilen q.2) := by decide +kernel
theorem OcX8_entryOf : ∀ q ∈ LcX8_entryOf, decode cX8_entryOf q.1 = .ok (q.2, ilen q.2) := by decide +kernel
theorem OcX8_tracked : ∀ q ∈ LcX8_tracked, decode cX8_tracked q.1 = .ok (q.2, ilen q.2) := by decide +kernel
theorem OcX8_source : ∀ q ∈ LcX8_source, decode cX8_source q.1 = .ok (q.2, ilen q.2) := by decide +kernel
theorem OcX8_paletteOf : ∀ q ∈ LcX8_paletteOf, decode cX8_paletteOf q.1 = .ok (q.2, ilen q.2) := by decide +kernel
theorem OcX8_cueOf : ∀ q ∈ LcX8_cueOf, decode cX8_cueOf q.1 = .ok (q.2, ilen q.2) := by decide +kernel
theorem OcX8_cues : ∀ q ∈ LcX8_cues, decode cX8_cues q.1 = .ok (q.2, ilen q.2) := by decide +kernel
theorem OcX8_isFading : ∀ q ∈ LcX8_isFading, decode cX8_isFading q.1 = .ok (q.2, ilen q.2) := by decide +kernel
theorem OcX8_time : ∀ q ∈ LcX8_time, decode cX8_time q.1 = .ok (q.2, ilen q.2) := by decide +kernel
theorem OcX8_sum : ∀ q ∈ LcX8_sum, decode cX8_sum q.1 = .ok (q.2, ilen q.2) := by decide +kernel
theorem OcX8_litShare : ∀ q ∈ LcX8_litShare, decode cX8_litShare q.1 = .ok (q.2, ilen q.2) := by decide +kernel
theorem OcX8_meanStored : ∀ q ∈ LcX8_meanStored, decode cX8_meanStored q.1 = .ok (q.2, ilen q.2) := by decide +kernel
theorem OcX8_isSound : ∀ q ∈ LcX8_isSound, decode cX8_isSound q.1 = .ok (q.2, ilen q.2) := by decide +kernel
theorem OcJxf58ca_isNaN_12338 : ∀ q ∈ LcJxf58ca_isNaN_12338, decode cJxf58ca_isNaN_12338 q.1 = .ok (q.2, ilen q.2) := by decide +kernel
theorem OcJxf58ca_floatToIntBits_5c35a : ∀ q ∈ LcJxf58ca_floatToIntBits_5c35a, decode cJxf58ca_floatToIntBits_5c35a q.1 = .ok (q.2, ilen q.2) := by decide +kernel
theorem OcL_addLamp : ∀ q ∈ LcL_addLamp, decode cL_addLamp q.1 = .ok (q.2, ilen q.2) := by decide +kernel
theorem OcL_patch : ∀ q ∈ LcL_patch, decode cL_patch q.1 = .ok (q.2, ilen q.2) := by decide +kernel
theorem OcL_addGroup : ∀ q ∈ LcL_addGroup, decode cL_addGroup q.1 = .ok (q.2, ilen q.2) := by decide +kernel
theorem OcL_addToGroup : ∀ q ∈ LcL_addToGroup, decode cL_addToGroup q.1 = .ok (q.2, ilen q.2) := by decide +kernel
theorem OcL_addPalette : ∀ q ∈ LcL_addPalette, decode cL_addPalette q.1 = .ok (q.2, ilen q.2) := by decide +kernel
theorem OcL_setPalette : ∀ q ∈ LcL_setPalette, decode cL_setPalette q.1 = .ok (q.2, ilen q.2) := by decide +kernel
theorem OcL_set : ∀ q ∈ LcL_set, decode cL_set q.1 = .ok (q.2, ilen q.2) := by decide +kernel
theorem OcL_point : ∀ q ∈ LcL_point, decode cL_point q.1 = .ok (q.2, ilen q.2) := by decide +kernel
theorem OcL_fan : ∀ q ∈ LcL_fan, decode cL_fan q.1 = .ok (q.2, ilen q.2) := by decide +kernel
theorem OcL_knockOut : ∀ q ∈ LcL_knockOut, decode cL_knockOut q.1 = .ok (q.2, ilen q.2) := by decide +kernel
theorem OcL_record : ∀ q ∈ LcL_record, decode cL_record q.1 = .ok (q.2, ilen q.2) := by decide +kernel
theorem OcL_setTimes : ∀ q ∈ LcL_setTimes, decode cL_setTimes q.1 = .ok (q.2, ilen q.2) := by decide +kernel
theorem OcL_setFollow : ∀ q ∈ LcL_setFollow, decode cL_setFollow q.1 = .ok (q.2, ilen q.2) := by decide +kernel
theorem OcL_setLink : ∀ q ∈ LcL_setLink, decode cL_setLink q.1 = .ok (q.2, ilen q.2) := by decide +kernel
theorem OcL_setCode : ∀ q ∈ LcL_setCode, decode cL_setCode q.1 = .ok (q.2, ilen q.2) := by decide +kernel
theorem OcL_setAssert : ∀ q ∈ LcL_setAssert, decode cL_setAssert q.1 = .ok (q.2, ilen q.2) := by decide +kernel
theorem OcL_setMaster : ∀ q ∈ LcL_setMaster, decode cL_setMaster q.1 = .ok (q.2, ilen q.2) := by decide +kernel
theorem OcL_setPriority : ∀ q ∈ LcL_setPriority, decode cL_setPriority q.1 = .ok (q.2, ilen q.2) := by decide +kernel
theorem OcL_go : ∀ q ∈ LcL_go, decode cL_go q.1 = .ok (q.2, ilen q.2) := by decide +kernel
theorem OcL_goTo : ∀ q ∈ LcL_goTo, decode cL_goTo q.1 = .ok (q.2, ilen q.2) := by decide +kernel
theorem OcL_release : ∀ q ∈ LcL_release, decode cL_release q.1 = .ok (q.2, ilen q.2) := by decide +kernel
theorem OcL_update : ∀ q ∈ LcL_update, decode cL_update q.1 = .ok (q.2, ilen q.2) := by decide +kernel
theorem OcL_pass : ∀ q ∈ LcL_pass, decode cL_pass q.1 = .ok (q.2, ilen q.2) := by decide +kernel
theorem OcL_code : ∀ q ∈ LcL_code, decode cL_code q.1 = .ok (q.2, ilen q.2) := by decide +kernel
theorem OcL_addEffect : ∀ q ∈ LcL_addEffect, decode cL_addEffect q.1 = .ok (q.2, ilen q.2) := by decide +kernel
theorem OcL_start : ∀ q ∈ LcL_start, decode cL_start q.1 = .ok (q.2, ilen q.2) := by decide +kernel
theorem OcL_stop : ∀ q ∈ LcL_stop, decode cL_stop q.1 = .ok (q.2, ilen q.2) := by decide +kernel
theorem OcL_output : ∀ q ∈ LcL_output, decode cL_output q.1 = .ok (q.2, ilen q.2) := by decide +kernel
theorem OcL_outputBits : ∀ q ∈ LcL_outputBits, decode cL_outputBits q.1 = .ok (q.2, ilen q.2) := by decide +kernel
theorem OcL_line : ∀ q ∈ LcL_line, decode cL_line q.1 = .ok (q.2, ilen q.2) := by decide +kernel
theorem OcL_decides : ∀ q ∈ LcL_decides, decode cL_decides q.1 = .ok (q.2, ilen q.2) := by decide +kernel
theorem OcL_valueIn : ∀ q ∈ LcL_valueIn, decode cL_valueIn q.1 = .ok (q.2, ilen q.2) := by decide +kernel
theorem OcL_tracked : ∀ q ∈ LcL_tracked, decode cL_tracked q.1 = .ok (q.2, ilen q.2) := by decide +kernel
theorem OcL_source : ∀ q ∈ LcL_source, decode cL_source q.1 = .ok (q.2, ilen q.2) := by decide +kernel
theorem OcL_paletteOf : ∀ q ∈ LcL_paletteOf, decode cL_paletteOf q.1 = .ok (q.2, ilen q.2) := by decide +kernel
theorem OcL_cueOf : ∀ q ∈ LcL_cueOf, decode cL_cueOf q.1 = .ok (q.2, ilen q.2) := by decide +kernel
theorem OcL_cues : ∀ q ∈ LcL_cues, decode cL_cues q.1 = .ok (q.2, ilen q.2) := by decide +kernel
theorem OcL_isFading : ∀ q ∈ LcL_isFading, decode cL_isFading q.1 = .ok (q.2, ilen q.2) := by decide +kernel
theorem OcL_litShare : ∀ q ∈ LcL_litShare, decode cL_litShare q.1 = .ok (q.2, ilen q.2) := by decide +kernel
theorem OcL_meanStored : ∀ q ∈ LcL_meanStored, decode cL_meanStored q.1 = .ok (q.2, ilen q.2) := by decide +kernel
theorem OcL_law : ∀ q ∈ LcL_law, decode cL_law q.1 = .ok (q.2, ilen q.2) := by decide +kernel
def Pb0 : List (List (Nat × Instr) × ByteArray) := [(LcX0_init, cX0_init), (LcX0_changeTimes, cX0_changeTimes), (LcX0_changeFollow, cX0_changeFollow), (LcX0_changeLink, cX0_changeLink), (LcX0_changeCode, cX0_changeCode), (LcX0_changeAssert, cX0_changeAssert), (LcX1_init, cX1_init), (LcX1_changeMaster, cX1_changeMaster), (LcX1_changePriority, cX1_changePriority), (LcX1_sourceOf, cX1_sourceOf), (LcX1_entryOf, cX1_entryOf), (LcX1_nextCue, cX1_nextCue), (LcX1_cueThatFollows, cX1_cueThatFollows), (LcX1_cueForCode, cX1_cueForCode), (LcX1_hasFade, cX1_hasFade), (LcX1_needsNewFade, cX1_needsNewFade), (LcX1_startFade, cX1_startFade), (LcX1_fadeValue, cX1_fadeValue), (LcX1_putOut, cX1_putOut), (LcX1_hasOpenFade, cX1_hasOpenFade), (LcX1_letGo, cX1_letGo), (LcX1_storedInAll, cX1_storedInAll), (LcX1_tracksAsGoneThrough, cX1_tracksAsGoneThrough), (LcX2_init, cX2_init), (LcX2_placeLamp, cX2_placeLamp), (LcX2_meetsAnotherLamp, cX2_meetsAnotherLamp), (LcX2_moveLamp, cX2_moveLamp), (LcX2_formGroup, cX2_formGroup), (LcX2_spreadOver, cX2_spreadOver), (LcX2_cueAt, cX2_cueAt), (LcX2_storeCue, cX2_storeCue), (LcX2_advance, cX2_advance), (LcX2_begin, cX2_begin), (LcX2_updateList, cX2_updateList), (LcX2_updateSlot, cX2_updateSlot), (LcX2_goOn, cX2_goOn), (LcX2_takeCode, cX2_takeCode), (LcX2_nextEffect, cX2_nextEffect), (LcX2_runningEffects, cX2_runningEffects), (LcX2_decider, cX2_decider)]
theorem Pb0_ok : ∀ p ∈ Pb0, ∀ q ∈ p.1, decode p.2 q.1 = .ok (q.2, ilen q.2) := List.forall_mem_cons.mpr ⟨OcX0_init, List.forall_mem_cons.mpr ⟨OcX0_changeTimes, List.forall_mem_cons.mpr ⟨OcX0_changeFollow, List.forall_mem_cons.mpr ⟨OcX0_changeLink, List.forall_mem_cons.mpr ⟨OcX0_changeCode, List.forall_mem_cons.mpr ⟨OcX0_changeAssert, List.forall_mem_cons.mpr ⟨OcX1_init, List.forall_mem_cons.mpr ⟨OcX1_changeMaster, List.forall_mem_cons.mpr ⟨OcX1_changePriority, List.forall_mem_cons.mpr ⟨OcX1_sourceOf, List.forall_mem_cons.mpr ⟨OcX1_entryOf, List.forall_mem_cons.mpr ⟨OcX1_nextCue, List.forall_mem_cons.mpr ⟨OcX1_cueThatFollows, List.forall_mem_cons.mpr ⟨OcX1_cueForCode, List.forall_mem_cons.mpr ⟨OcX1_hasFade, List.forall_mem_cons.mpr ⟨OcX1_needsNewFade, List.forall_mem_cons.mpr ⟨OcX1_startFade, List.forall_mem_cons.mpr ⟨OcX1_fadeValue, List.forall_mem_cons.mpr ⟨OcX1_putOut, List.forall_mem_cons.mpr ⟨OcX1_hasOpenFade, List.forall_mem_cons.mpr ⟨OcX1_letGo, List.forall_mem_cons.mpr ⟨OcX1_storedInAll, List.forall_mem_cons.mpr ⟨OcX1_tracksAsGoneThrough, List.forall_mem_cons.mpr ⟨OcX2_init, List.forall_mem_cons.mpr ⟨OcX2_placeLamp, List.forall_mem_cons.mpr ⟨OcX2_meetsAnotherLamp, List.forall_mem_cons.mpr ⟨OcX2_moveLamp, List.forall_mem_cons.mpr ⟨OcX2_formGroup, List.forall_mem_cons.mpr ⟨OcX2_spreadOver, List.forall_mem_cons.mpr ⟨OcX2_cueAt, List.forall_mem_cons.mpr ⟨OcX2_storeCue, List.forall_mem_cons.mpr ⟨OcX2_advance, List.forall_mem_cons.mpr ⟨OcX2_begin, List.forall_mem_cons.mpr ⟨OcX2_updateList, List.forall_mem_cons.mpr ⟨OcX2_updateSlot, List.forall_mem_cons.mpr ⟨OcX2_goOn, List.forall_mem_cons.mpr ⟨OcX2_takeCode, List.forall_mem_cons.mpr ⟨OcX2_nextEffect, List.forall_mem_cons.mpr ⟨OcX2_runningEffects, List.forall_mem_cons.mpr ⟨OcX2_decider, fun _ h => absurd h List.not_mem_nil⟩⟩⟩⟩⟩⟩⟩⟩⟩⟩⟩⟩⟩⟩⟩⟩⟩⟩⟩⟩⟩⟩⟩⟩⟩⟩⟩⟩⟩⟩⟩⟩⟩⟩⟩⟩⟩⟩⟩⟩
def Pb1 : List (List (Nat × Instr) × ByteArray) := [(LcX2_settled, cX2_settled), (LcX2_shown, cX2_shown), (LcX2_lineValue, cX2_lineValue), (LcX3_init, cX3_init), (LcX3_describe, cX3_describe), (LcX3_runs, cX3_runs), (LcX3_wave, cX3_wave), (LcX4_init, cX4_init), (LcX4_has, cX4_has), (LcX4_put, cX4_put), (LcX4_drop, cX4_drop), (LcX4_empty, cX4_empty), (LcX4_copy, cX4_copy), (LcX5_init, cX5_init), (LcX5_placeOf, cX5_placeOf), (LcX5_join, cX5_join), (LcX6_init, cX6_init), (LcX6_mix, cX6_mix), (LcX6_change, cX6_change), (LcX6_numberOf, cX6_numberOf), (LcX7_init, cX7_init), (LcX7_addLamp, cX7_addLamp), (LcX7_patch, cX7_patch), (LcX7_addGroup, cX7_addGroup), (LcX7_addToGroup, cX7_addToGroup), (LcX7_addPalette, cX7_addPalette), (LcX7_setPalette, cX7_setPalette), (LcX7_set, cX7_set), (LcX7_point, cX7_point), (LcX7_fan, cX7_fan), (LcX7_knockOut, cX7_knockOut), (LcX7_clear, cX7_clear), (LcX7_record, cX7_record), (LcX7_setTimes, cX7_setTimes), (LcX7_setFollow, cX7_setFollow), (LcX7_setLink, cX7_setLink), (LcX7_setCode, cX7_setCode), (LcX7_setAssert, cX7_setAssert), (LcX7_setMaster, cX7_setMaster), (LcX7_setPriority, cX7_setPriority)]
theorem Pb1_ok : ∀ p ∈ Pb1, ∀ q ∈ p.1, decode p.2 q.1 = .ok (q.2, ilen q.2) := List.forall_mem_cons.mpr ⟨OcX2_settled, List.forall_mem_cons.mpr ⟨OcX2_shown, List.forall_mem_cons.mpr ⟨OcX2_lineValue, List.forall_mem_cons.mpr ⟨OcX3_init, List.forall_mem_cons.mpr ⟨OcX3_describe, List.forall_mem_cons.mpr ⟨OcX3_runs, List.forall_mem_cons.mpr ⟨OcX3_wave, List.forall_mem_cons.mpr ⟨OcX4_init, List.forall_mem_cons.mpr ⟨OcX4_has, List.forall_mem_cons.mpr ⟨OcX4_put, List.forall_mem_cons.mpr ⟨OcX4_drop, List.forall_mem_cons.mpr ⟨OcX4_empty, List.forall_mem_cons.mpr ⟨OcX4_copy, List.forall_mem_cons.mpr ⟨OcX5_init, List.forall_mem_cons.mpr ⟨OcX5_placeOf, List.forall_mem_cons.mpr ⟨OcX5_join, List.forall_mem_cons.mpr ⟨OcX6_init, List.forall_mem_cons.mpr ⟨OcX6_mix, List.forall_mem_cons.mpr ⟨OcX6_change, List.forall_mem_cons.mpr ⟨OcX6_numberOf, List.forall_mem_cons.mpr ⟨OcX7_init, List.forall_mem_cons.mpr ⟨OcX7_addLamp, List.forall_mem_cons.mpr ⟨OcX7_patch, List.forall_mem_cons.mpr ⟨OcX7_addGroup, List.forall_mem_cons.mpr ⟨OcX7_addToGroup, List.forall_mem_cons.mpr ⟨OcX7_addPalette, List.forall_mem_cons.mpr ⟨OcX7_setPalette, List.forall_mem_cons.mpr ⟨OcX7_set, List.forall_mem_cons.mpr ⟨OcX7_point, List.forall_mem_cons.mpr ⟨OcX7_fan, List.forall_mem_cons.mpr ⟨OcX7_knockOut, List.forall_mem_cons.mpr ⟨OcX7_clear, List.forall_mem_cons.mpr ⟨OcX7_record, List.forall_mem_cons.mpr ⟨OcX7_setTimes, List.forall_mem_cons.mpr ⟨OcX7_setFollow, List.forall_mem_cons.mpr ⟨OcX7_setLink, List.forall_mem_cons.mpr ⟨OcX7_setCode, List.forall_mem_cons.mpr ⟨OcX7_setAssert, List.forall_mem_cons.mpr ⟨OcX7_setMaster, List.forall_mem_cons.mpr ⟨OcX7_setPriority, fun _ h => absurd h List.not_mem_nil⟩⟩⟩⟩⟩⟩⟩⟩⟩⟩⟩⟩⟩⟩⟩⟩⟩⟩⟩⟩⟩⟩⟩⟩⟩⟩⟩⟩⟩⟩⟩⟩⟩⟩⟩⟩⟩⟩⟩⟩
def Pb2 : List (List (Nat × Instr) × ByteArray) := [(LcX7_go, cX7_go), (LcX7_goTo, cX7_goTo), (LcX7_release, cX7_release), (LcX7_update, cX7_update), (LcX7_pass, cX7_pass), (LcX7_code, cX7_code), (LcX7_addEffect, cX7_addEffect), (LcX7_start, cX7_start), (LcX7_stop, cX7_stop), (LcX7_output, cX7_output), (LcX7_outputBits, cX7_outputBits), (LcX7_line, cX7_line), (LcX7_decides, cX7_decides), (LcX7_valueIn, cX7_valueIn), (LcX7_tracked, cX7_tracked), (LcX7_source, cX7_source), (LcX7_paletteOf, cX7_paletteOf), (LcX7_cueOf, cX7_cueOf), (LcX7_cues, cX7_cues), (LcX7_isFading, cX7_isFading), (LcX7_time, cX7_time), (LcX7_sum, cX7_sum), (LcX7_litShare, cX7_litShare), (LcX7_meanStored, cX7_meanStored), (LcX7_isSound, cX7_isSound), (LcX7_runEffect, cX7_runEffect), (LcX7_needLamp, cX7_needLamp), (LcX7_needAttribute, cX7_needAttribute), (LcX7_needSlot, cX7_needSlot), (LcX7_needGroup, cX7_needGroup), (LcX7_needPalette, cX7_needPalette), (LcX7_needEffect, cX7_needEffect), (LcX7_needList, cX7_needList), (LcX7_needCue, cX7_needCue), (LcX7_needPresentCue, cX7_needPresentCue), (LcX7_needEntry, cX7_needEntry), (LcX7_needRange, cX7_needRange), (LcX7_slotOf, cX7_slotOf), (LcX7_isPalette, cX7_isPalette), (LcX7_bitsOf, cX7_bitsOf)]
theorem Pb2_ok : ∀ p ∈ Pb2, ∀ q ∈ p.1, decode p.2 q.1 = .ok (q.2, ilen q.2) := List.forall_mem_cons.mpr ⟨OcX7_go, List.forall_mem_cons.mpr ⟨OcX7_goTo, List.forall_mem_cons.mpr ⟨OcX7_release, List.forall_mem_cons.mpr ⟨OcX7_update, List.forall_mem_cons.mpr ⟨OcX7_pass, List.forall_mem_cons.mpr ⟨OcX7_code, List.forall_mem_cons.mpr ⟨OcX7_addEffect, List.forall_mem_cons.mpr ⟨OcX7_start, List.forall_mem_cons.mpr ⟨OcX7_stop, List.forall_mem_cons.mpr ⟨OcX7_output, List.forall_mem_cons.mpr ⟨OcX7_outputBits, List.forall_mem_cons.mpr ⟨OcX7_line, List.forall_mem_cons.mpr ⟨OcX7_decides, List.forall_mem_cons.mpr ⟨OcX7_valueIn, List.forall_mem_cons.mpr ⟨OcX7_tracked, List.forall_mem_cons.mpr ⟨OcX7_source, List.forall_mem_cons.mpr ⟨OcX7_paletteOf, List.forall_mem_cons.mpr ⟨OcX7_cueOf, List.forall_mem_cons.mpr ⟨OcX7_cues, List.forall_mem_cons.mpr ⟨OcX7_isFading, List.forall_mem_cons.mpr ⟨OcX7_time, List.forall_mem_cons.mpr ⟨OcX7_sum, List.forall_mem_cons.mpr ⟨OcX7_litShare, List.forall_mem_cons.mpr ⟨OcX7_meanStored, List.forall_mem_cons.mpr ⟨OcX7_isSound, List.forall_mem_cons.mpr ⟨OcX7_runEffect, List.forall_mem_cons.mpr ⟨OcX7_needLamp, List.forall_mem_cons.mpr ⟨OcX7_needAttribute, List.forall_mem_cons.mpr ⟨OcX7_needSlot, List.forall_mem_cons.mpr ⟨OcX7_needGroup, List.forall_mem_cons.mpr ⟨OcX7_needPalette, List.forall_mem_cons.mpr ⟨OcX7_needEffect, List.forall_mem_cons.mpr ⟨OcX7_needList, List.forall_mem_cons.mpr ⟨OcX7_needCue, List.forall_mem_cons.mpr ⟨OcX7_needPresentCue, List.forall_mem_cons.mpr ⟨OcX7_needEntry, List.forall_mem_cons.mpr ⟨OcX7_needRange, List.forall_mem_cons.mpr ⟨OcX7_slotOf, List.forall_mem_cons.mpr ⟨OcX7_isPalette, List.forall_mem_cons.mpr ⟨OcX7_bitsOf, fun _ h => absurd h List.not_mem_nil⟩⟩⟩⟩⟩⟩⟩⟩⟩⟩⟩⟩⟩⟩⟩⟩⟩⟩⟩⟩⟩⟩⟩⟩⟩⟩⟩⟩⟩⟩⟩⟩⟩⟩⟩⟩⟩⟩⟩⟩
def Pb3 : List (List (Nat × Instr) × ByteArray) := [(LcX8_init, cX8_init), (LcX8_thrown, cX8_thrown), (LcX8_fails, cX8_fails), (LcX8_in, cX8_in), (LcX8_isLamp, cX8_isLamp), (LcX8_isList, cX8_isList), (LcX8_isCue, cX8_isCue), (LcX8_valueOf, cX8_valueOf), (LcX8_countProgrammer, cX8_countProgrammer), (LcX8_empties, cX8_empties), (LcX8_at, cX8_at), (LcX8_sourceOf, cX8_sourceOf), (LcX8_trackedIn, cX8_trackedIn), (LcX8_valueOfFade, cX8_valueOfFade), (LcX8_decided, cX8_decided), (LcX8_memberAt, cX8_memberAt), (LcX8_effect, cX8_effect), (LcX8_put, cX8_put), (LcX8_begins, cX8_begins), (LcX8_nextOf, cX8_nextOf), (LcX8_addLamp, cX8_addLamp), (LcX8_patch, cX8_patch), (LcX8_addGroup, cX8_addGroup), (LcX8_addToGroup, cX8_addToGroup), (LcX8_isKind, cX8_isKind), (LcX8_isByte, cX8_isByte), (LcX8_addPalette, cX8_addPalette), (LcX8_setPalette, cX8_setPalette), (LcX8_set, cX8_set), (LcX8_point, cX8_point), (LcX8_fan, cX8_fan), (LcX8_knockOut, cX8_knockOut), (LcX8_clear, cX8_clear), (LcX8_record, cX8_record), (LcX8_setTimes, cX8_setTimes), (LcX8_setFollow, cX8_setFollow), (LcX8_setLink, cX8_setLink), (LcX8_setCode, cX8_setCode), (LcX8_setAssert, cX8_setAssert), (LcX8_setMaster, cX8_setMaster)]
theorem Pb3_ok : ∀ p ∈ Pb3, ∀ q ∈ p.1, decode p.2 q.1 = .ok (q.2, ilen q.2) := List.forall_mem_cons.mpr ⟨OcX8_init, List.forall_mem_cons.mpr ⟨OcX8_thrown, List.forall_mem_cons.mpr ⟨OcX8_fails, List.forall_mem_cons.mpr ⟨OcX8_in, List.forall_mem_cons.mpr ⟨OcX8_isLamp, List.forall_mem_cons.mpr ⟨OcX8_isList, List.forall_mem_cons.mpr ⟨OcX8_isCue, List.forall_mem_cons.mpr ⟨OcX8_valueOf, List.forall_mem_cons.mpr ⟨OcX8_countProgrammer, List.forall_mem_cons.mpr ⟨OcX8_empties, List.forall_mem_cons.mpr ⟨OcX8_at, List.forall_mem_cons.mpr ⟨OcX8_sourceOf, List.forall_mem_cons.mpr ⟨OcX8_trackedIn, List.forall_mem_cons.mpr ⟨OcX8_valueOfFade, List.forall_mem_cons.mpr ⟨OcX8_decided, List.forall_mem_cons.mpr ⟨OcX8_memberAt, List.forall_mem_cons.mpr ⟨OcX8_effect, List.forall_mem_cons.mpr ⟨OcX8_put, List.forall_mem_cons.mpr ⟨OcX8_begins, List.forall_mem_cons.mpr ⟨OcX8_nextOf, List.forall_mem_cons.mpr ⟨OcX8_addLamp, List.forall_mem_cons.mpr ⟨OcX8_patch, List.forall_mem_cons.mpr ⟨OcX8_addGroup, List.forall_mem_cons.mpr ⟨OcX8_addToGroup, List.forall_mem_cons.mpr ⟨OcX8_isKind, List.forall_mem_cons.mpr ⟨OcX8_isByte, List.forall_mem_cons.mpr ⟨OcX8_addPalette, List.forall_mem_cons.mpr ⟨OcX8_setPalette, List.forall_mem_cons.mpr ⟨OcX8_set, List.forall_mem_cons.mpr ⟨OcX8_point, List.forall_mem_cons.mpr ⟨OcX8_fan, List.forall_mem_cons.mpr ⟨OcX8_knockOut, List.forall_mem_cons.mpr ⟨OcX8_clear, List.forall_mem_cons.mpr ⟨OcX8_record, List.forall_mem_cons.mpr ⟨OcX8_setTimes, List.forall_mem_cons.mpr ⟨OcX8_setFollow, List.forall_mem_cons.mpr ⟨OcX8_setLink, List.forall_mem_cons.mpr ⟨OcX8_setCode, List.forall_mem_cons.mpr ⟨OcX8_setAssert, List.forall_mem_cons.mpr ⟨OcX8_setMaster, fun _ h => absurd h List.not_mem_nil⟩⟩⟩⟩⟩⟩⟩⟩⟩⟩⟩⟩⟩⟩⟩⟩⟩⟩⟩⟩⟩⟩⟩⟩⟩⟩⟩⟩⟩⟩⟩⟩⟩⟩⟩⟩⟩⟩⟩⟩
def Pb4 : List (List (Nat × Instr) × ByteArray) := [(LcX8_setPriority, cX8_setPriority), (LcX8_go, cX8_go), (LcX8_goTo, cX8_goTo), (LcX8_release, cX8_release), (LcX8_update, cX8_update), (LcX8_pass, cX8_pass), (LcX8_code, cX8_code), (LcX8_addEffect, cX8_addEffect), (LcX8_countRunning, cX8_countRunning), (LcX8_start, cX8_start), (LcX8_stop, cX8_stop), (LcX8_isSlot, cX8_isSlot), (LcX8_output, cX8_output), (LcX8_outputBits, cX8_outputBits), (LcX8_lineValue, cX8_lineValue), (LcX8_line, cX8_line), (LcX8_decides, cX8_decides), (LcX8_valueIn, cX8_valueIn), (LcX8_entryOf, cX8_entryOf), (LcX8_tracked, cX8_tracked), (LcX8_source, cX8_source), (LcX8_paletteOf, cX8_paletteOf), (LcX8_cueOf, cX8_cueOf), (LcX8_cues, cX8_cues), (LcX8_isFading, cX8_isFading), (LcX8_time, cX8_time), (LcX8_sum, cX8_sum), (LcX8_litShare, cX8_litShare), (LcX8_meanStored, cX8_meanStored), (LcX8_isSound, cX8_isSound), (LcJxf58ca_isNaN_12338, cJxf58ca_isNaN_12338), (LcJxf58ca_floatToIntBits_5c35a, cJxf58ca_floatToIntBits_5c35a), (LcL_addLamp, cL_addLamp), (LcL_patch, cL_patch), (LcL_addGroup, cL_addGroup), (LcL_addToGroup, cL_addToGroup), (LcL_addPalette, cL_addPalette), (LcL_setPalette, cL_setPalette), (LcL_set, cL_set), (LcL_point, cL_point)]
theorem Pb4_ok : ∀ p ∈ Pb4, ∀ q ∈ p.1, decode p.2 q.1 = .ok (q.2, ilen q.2) := List.forall_mem_cons.mpr ⟨OcX8_setPriority, List.forall_mem_cons.mpr ⟨OcX8_go, List.forall_mem_cons.mpr ⟨OcX8_goTo, List.forall_mem_cons.mpr ⟨OcX8_release, List.forall_mem_cons.mpr ⟨OcX8_update, List.forall_mem_cons.mpr ⟨OcX8_pass, List.forall_mem_cons.mpr ⟨OcX8_code, List.forall_mem_cons.mpr ⟨OcX8_addEffect, List.forall_mem_cons.mpr ⟨OcX8_countRunning, List.forall_mem_cons.mpr ⟨OcX8_start, List.forall_mem_cons.mpr ⟨OcX8_stop, List.forall_mem_cons.mpr ⟨OcX8_isSlot, List.forall_mem_cons.mpr ⟨OcX8_output, List.forall_mem_cons.mpr ⟨OcX8_outputBits, List.forall_mem_cons.mpr ⟨OcX8_lineValue, List.forall_mem_cons.mpr ⟨OcX8_line, List.forall_mem_cons.mpr ⟨OcX8_decides, List.forall_mem_cons.mpr ⟨OcX8_valueIn, List.forall_mem_cons.mpr ⟨OcX8_entryOf, List.forall_mem_cons.mpr ⟨OcX8_tracked, List.forall_mem_cons.mpr ⟨OcX8_source, List.forall_mem_cons.mpr ⟨OcX8_paletteOf, List.forall_mem_cons.mpr ⟨OcX8_cueOf, List.forall_mem_cons.mpr ⟨OcX8_cues, List.forall_mem_cons.mpr ⟨OcX8_isFading, List.forall_mem_cons.mpr ⟨OcX8_time, List.forall_mem_cons.mpr ⟨OcX8_sum, List.forall_mem_cons.mpr ⟨OcX8_litShare, List.forall_mem_cons.mpr ⟨OcX8_meanStored, List.forall_mem_cons.mpr ⟨OcX8_isSound, List.forall_mem_cons.mpr ⟨OcJxf58ca_isNaN_12338, List.forall_mem_cons.mpr ⟨OcJxf58ca_floatToIntBits_5c35a, List.forall_mem_cons.mpr ⟨OcL_addLamp, List.forall_mem_cons.mpr ⟨OcL_patch, List.forall_mem_cons.mpr ⟨OcL_addGroup, List.forall_mem_cons.mpr ⟨OcL_addToGroup, List.forall_mem_cons.mpr ⟨OcL_addPalette, List.forall_mem_cons.mpr ⟨OcL_setPalette, List.forall_mem_cons.mpr ⟨OcL_set, List.forall_mem_cons.mpr ⟨OcL_point, fun _ h => absurd h List.not_mem_nil⟩⟩⟩⟩⟩⟩⟩⟩⟩⟩⟩⟩⟩⟩⟩⟩⟩⟩⟩⟩⟩⟩⟩⟩⟩⟩⟩⟩⟩⟩⟩⟩⟩⟩⟩⟩⟩⟩⟩⟩
def Pb5 : List (List (Nat × Instr) × ByteArray) := [(LcL_fan, cL_fan), (LcL_knockOut, cL_knockOut), (LcL_record, cL_record), (LcL_setTimes, cL_setTimes), (LcL_setFollow, cL_setFollow), (LcL_setLink, cL_setLink), (LcL_setCode, cL_setCode), (LcL_setAssert, cL_setAssert), (LcL_setMaster, cL_setMaster), (LcL_setPriority, cL_setPriority), (LcL_go, cL_go), (LcL_goTo, cL_goTo), (LcL_release, cL_release), (LcL_update, cL_update), (LcL_pass, cL_pass), (LcL_code, cL_code), (LcL_addEffect, cL_addEffect), (LcL_start, cL_start), (LcL_stop, cL_stop), (LcL_output, cL_output), (LcL_outputBits, cL_outputBits), (LcL_line, cL_line), (LcL_decides, cL_decides), (LcL_valueIn, cL_valueIn), (LcL_tracked, cL_tracked), (LcL_source, cL_source), (LcL_paletteOf, cL_paletteOf), (LcL_cueOf, cL_cueOf), (LcL_cues, cL_cues), (LcL_isFading, cL_isFading), (LcL_litShare, cL_litShare), (LcL_meanStored, cL_meanStored), (LcL_law, cL_law)]
theorem Pb5_ok : ∀ p ∈ Pb5, ∀ q ∈ p.1, decode p.2 q.1 = .ok (q.2, ilen q.2) := List.forall_mem_cons.mpr ⟨OcL_fan, List.forall_mem_cons.mpr ⟨OcL_knockOut, List.forall_mem_cons.mpr ⟨OcL_record, List.forall_mem_cons.mpr ⟨OcL_setTimes, List.forall_mem_cons.mpr ⟨OcL_setFollow, List.forall_mem_cons.mpr ⟨OcL_setLink, List.forall_mem_cons.mpr ⟨OcL_setCode, List.forall_mem_cons.mpr ⟨OcL_setAssert, List.forall_mem_cons.mpr ⟨OcL_setMaster, List.forall_mem_cons.mpr ⟨OcL_setPriority, List.forall_mem_cons.mpr ⟨OcL_go, List.forall_mem_cons.mpr ⟨OcL_goTo, List.forall_mem_cons.mpr ⟨OcL_release, List.forall_mem_cons.mpr ⟨OcL_update, List.forall_mem_cons.mpr ⟨OcL_pass, List.forall_mem_cons.mpr ⟨OcL_code, List.forall_mem_cons.mpr ⟨OcL_addEffect, List.forall_mem_cons.mpr ⟨OcL_start, List.forall_mem_cons.mpr ⟨OcL_stop, List.forall_mem_cons.mpr ⟨OcL_output, List.forall_mem_cons.mpr ⟨OcL_outputBits, List.forall_mem_cons.mpr ⟨OcL_line, List.forall_mem_cons.mpr ⟨OcL_decides, List.forall_mem_cons.mpr ⟨OcL_valueIn, List.forall_mem_cons.mpr ⟨OcL_tracked, List.forall_mem_cons.mpr ⟨OcL_source, List.forall_mem_cons.mpr ⟨OcL_paletteOf, List.forall_mem_cons.mpr ⟨OcL_cueOf, List.forall_mem_cons.mpr ⟨OcL_cues, List.forall_mem_cons.mpr ⟨OcL_isFading, List.forall_mem_cons.mpr ⟨OcL_litShare, List.forall_mem_cons.mpr ⟨OcL_meanStored, List.forall_mem_cons.mpr ⟨OcL_law, fun _ h => absurd h List.not_mem_nil⟩⟩⟩⟩⟩⟩⟩⟩⟩⟩⟩⟩⟩⟩⟩⟩⟩⟩⟩⟩⟩⟩⟩⟩⟩⟩⟩⟩⟩⟩⟩⟩⟩
def Pall : List (List (Nat × Instr) × ByteArray) := Pb0 ++ (Pb1 ++ (Pb2 ++ (Pb3 ++ (Pb4 ++ (Pb5)))))
theorem Pall_ok : ∀ p ∈ Pall, ∀ q ∈ p.1, decode p.2 q.1 = .ok (q.2, ilen q.2) := List.forall_mem_append.mpr ⟨Pb0_ok, List.forall_mem_append.mpr ⟨Pb1_ok, List.forall_mem_append.mpr ⟨Pb2_ok, List.forall_mem_append.mpr ⟨Pb3_ok, List.forall_mem_append.mpr ⟨Pb4_ok, Pb5_ok⟩⟩⟩⟩⟩
theorem Pall_eq : Pall = codeT.zip (methT.map fun r => r.2.2.1) := rfl
