/-! methods, words, fields -/
theorem jin_of {ws : List Cond} (ps : List Nat) (h : ws = ps.filterMap (fun i => lw_tbl[i]?)) (h2 : ws.all (fun w => w.onTables && w.keepsH) = true) : ∀ x ∈ ws, x ∈ jGL := by
  intro x hx
  have h3 := List.all_eq_true.mp h2 x hx
  rw [h] at hx
  obtain ⟨i, -, hi⟩ := List.mem_filterMap.mp hx
  exact List.mem_filter.mpr ⟨List.mem_of_getElem? hi, h3⟩
abbrev MX0_holds : JM := (cX0_holds, 9, RX0, (some .boolean), yX0_holds)
theorem jn_X0_holds : jnm MX0_holds 3 := by decide +kernel
theorem jp_X0_holds : plainName MX0_holds.2.2.2.2.cls = true := by decide +kernel
abbrev MX0_isOperand : JM := (cX0_isOperand, 1, RX0, (some .boolean), yX0_isOperand)
theorem jn_X0_isOperand : jnm MX0_isOperand 1 := by decide +kernel
theorem jp_X0_isOperand : plainName MX0_isOperand.2.2.2.2.cls = true := by decide +kernel
abbrev MX0_joined : JM := (cX0_joined, 3, RX0, (some .int), yX0_joined)
theorem jn_X0_joined : jnm MX0_joined 3 := by decide +kernel
theorem jp_X0_joined : plainName MX0_joined.2.2.2.2.cls = true := by decide +kernel
abbrev MX0_pop : JM := (cX0_pop, 1, RX0, (some .int), yX0_pop)
theorem jn_X0_pop : jnm MX0_pop 0 := by decide +kernel
theorem jp_X0_pop : plainName MX0_pop.2.2.2.2.cls = true := by decide +kernel
abbrev MX0_push : JM := (cX0_push, 2, RX0, none, yX0_push)
theorem jn_X0_push : jnm MX0_push 1 := by decide +kernel
theorem jp_X0_push : plainName MX0_push.2.2.2.2.cls = true := by decide +kernel
abbrev MX0_reading : JM := (cX0_reading, 3, RX0, (some .int), yX0_reading)
theorem jn_X0_reading : jnm MX0_reading 3 := by decide +kernel
theorem jp_X0_reading : plainName MX0_reading.2.2.2.2.cls = true := by decide +kernel
abbrev MX1_become : JM := (cX1_become, 2, RX1, none, yX1_become)
theorem jn_X1_become : jnm MX1_become 1 := by decide +kernel
theorem jp_X1_become : plainName MX1_become.2.2.2.2.cls = true := by decide +kernel
abbrev MX1_begin : JM := (cX1_begin, 1, RX1, none, yX1_begin)
theorem jn_X1_begin : jnm MX1_begin 0 := by decide +kernel
theorem jp_X1_begin : plainName MX1_begin.2.2.2.2.cls = true := by decide +kernel
abbrev MX1_hourOfDay : JM := (cX1_hourOfDay, 1, RX1, (some .int), yX1_hourOfDay)
theorem jn_X1_hourOfDay : jnm MX1_hourOfDay 0 := by decide +kernel
theorem jp_X1_hourOfDay : plainName MX1_hourOfDay.2.2.2.2.cls = true := by decide +kernel
abbrev MX1_pipesSounding : JM := (cX1_pipesSounding, 4, RX1, (some .int), yX1_pipesSounding)
theorem jn_X1_pipesSounding : jnm MX1_pipesSounding 1 := by decide +kernel
theorem jp_X1_pipesSounding : plainName MX1_pipesSounding.2.2.2.2.cls = true := by decide +kernel
abbrev MX1_siltIn : JM := (cX1_siltIn, 4, RX1, (some .int), yX1_siltIn)
theorem jn_X1_siltIn : jnm MX1_siltIn 1 := by decide +kernel
theorem jp_X1_siltIn : plainName MX1_siltIn.2.2.2.2.cls = true := by decide +kernel
abbrev MX1_sounds : JM := (cX1_sounds, 2, RX1, (some .boolean), yX1_sounds)
theorem jn_X1_sounds : jnm MX1_sounds 1 := by decide +kernel
theorem jp_X1_sounds : plainName MX1_sounds.2.2.2.2.cls = true := by decide +kernel
abbrev MX2_addStep : JM := (cX2_addStep, 3, RX2, none, yX2_addStep)
theorem jn_X2_addStep : jnm MX2_addStep 2 := by decide +kernel
theorem jp_X2_addStep : plainName MX2_addStep.2.2.2.2.cls = true := by decide +kernel
abbrev MX2_begin : JM := (cX2_begin, 1, RX2, none, yX2_begin)
theorem jn_X2_begin : jnm MX2_begin 0 := by decide +kernel
theorem jp_X2_begin : plainName MX2_begin.2.2.2.2.cls = true := by decide +kernel
abbrev MX2_beginOrder : JM := (cX2_beginOrder, 3, RX2, none, yX2_beginOrder)
theorem jn_X2_beginOrder : jnm MX2_beginOrder 2 := by decide +kernel
theorem jp_X2_beginOrder : plainName MX2_beginOrder.2.2.2.2.cls = true := by decide +kernel
abbrev MX2_endOrder : JM := (cX2_endOrder, 1, RX2, none, yX2_endOrder)
theorem jn_X2_endOrder : jnm MX2_endOrder 0 := by decide +kernel
theorem jp_X2_endOrder : plainName MX2_endOrder.2.2.2.2.cls = true := by decide +kernel
abbrev MX3_addCave : JM := (cX3_addCave, 3, RX3, none, yX3_addCave)
theorem jn_X3_addCave : jnm MX3_addCave 2 := by decide +kernel
theorem jp_X3_addCave : plainName MX3_addCave.2.2.2.2.cls = true := by decide +kernel
abbrev MX3_addNote : JM := (cX3_addNote, 3, RX3, none, yX3_addNote)
theorem jn_X3_addNote : jnm MX3_addNote 1 := by decide +kernel
theorem jp_X3_addNote : plainName MX3_addNote.2.2.2.2.cls = true := by decide +kernel
abbrev MX3_addPipe : JM := (cX3_addPipe, 4, RX3, none, yX3_addPipe)
theorem jn_X3_addPipe : jnm MX3_addPipe 3 := by decide +kernel
theorem jp_X3_addPipe : plainName MX3_addPipe.2.2.2.2.cls = true := by decide +kernel
abbrev MX3_begin : JM := (cX3_begin, 1, RX3, none, yX3_begin)
theorem jn_X3_begin : jnm MX3_begin 0 := by decide +kernel
theorem jp_X3_begin : plainName MX3_begin.2.2.2.2.cls = true := by decide +kernel
abbrev MX3_beginChord : JM := (cX3_beginChord, 1, RX3, none, yX3_beginChord)
theorem jn_X3_beginChord : jnm MX3_beginChord 0 := by decide +kernel
theorem jp_X3_beginChord : plainName MX3_beginChord.2.2.2.2.cls = true := by decide +kernel
abbrev MX3_chordSounds : JM := (cX3_chordSounds, 5, RX3, (some .boolean), yX3_chordSounds)
theorem jn_X3_chordSounds : jnm MX3_chordSounds 2 := by decide +kernel
theorem jp_X3_chordSounds : plainName MX3_chordSounds.2.2.2.2.cls = true := by decide +kernel
abbrev MX3_endChord : JM := (cX3_endChord, 1, RX3, none, yX3_endChord)
theorem jn_X3_endChord : jnm MX3_endChord 0 := by decide +kernel
theorem jp_X3_endChord : plainName MX3_endChord.2.2.2.2.cls = true := by decide +kernel
abbrev MX3_hasNote : JM := (cX3_hasNote, 5, RX3, (some .boolean), yX3_hasNote)
theorem jn_X3_hasNote : jnm MX3_hasNote 2 := by decide +kernel
theorem jp_X3_hasNote : plainName MX3_hasNote.2.2.2.2.cls = true := by decide +kernel
abbrev MX3_needOf : JM := (cX3_needOf, 3, RX3, (some .int), yX3_needOf)
theorem jn_X3_needOf : jnm MX3_needOf 2 := by decide +kernel
theorem jp_X3_needOf : plainName MX3_needOf.2.2.2.2.cls = true := by decide +kernel
abbrev MX3_noteAt : JM := (cX3_noteAt, 3, RX3, (some .int), yX3_noteAt)
theorem jn_X3_noteAt : jnm MX3_noteAt 2 := by decide +kernel
theorem jp_X3_noteAt : plainName MX3_noteAt.2.2.2.2.cls = true := by decide +kernel
abbrev MX3_pipesIn : JM := (cX3_pipesIn, 4, RX3, (some .int), yX3_pipesIn)
theorem jn_X3_pipesIn : jnm MX3_pipesIn 1 := by decide +kernel
theorem jp_X3_pipesIn : plainName MX3_pipesIn.2.2.2.2.cls = true := by decide +kernel
abbrev MX3_sizeOf : JM := (cX3_sizeOf, 2, RX3, (some .int), yX3_sizeOf)
theorem jn_X3_sizeOf : jnm MX3_sizeOf 1 := by decide +kernel
theorem jp_X3_sizeOf : plainName MX3_sizeOf.2.2.2.2.cls = true := by decide +kernel
abbrev MX3_spanOf : JM := (cX3_spanOf, 7, RX3, (some .int), yX3_spanOf)
theorem jn_X3_spanOf : jnm MX3_spanOf 1 := by decide +kernel
theorem jp_X3_spanOf : plainName MX3_spanOf.2.2.2.2.cls = true := by decide +kernel
abbrev MX4_cleanByOrders : JM := (cX4_cleanByOrders, 5, RX4, none, yX4_cleanByOrders)
theorem jn_X4_cleanByOrders : jnm MX4_cleanByOrders 2 := by decide +kernel
theorem jp_X4_cleanByOrders : plainName MX4_cleanByOrders.2.2.2.2.cls = true := by decide +kernel
abbrev MX4_isShut : JM := (cX4_isShut, 6, RX4, (some .boolean), yX4_isShut)
theorem jn_X4_isShut : jnm MX4_isShut 3 := by decide +kernel
theorem jp_X4_isShut : plainName MX4_isShut.2.2.2.2.cls = true := by decide +kernel
abbrev MX4_pressCaves : JM := (cX4_pressCaves, 7, RX4, none, yX4_pressCaves)
theorem jn_X4_pressCaves : jnm MX4_pressCaves 2 := by decide +kernel
theorem jp_X4_pressCaves : plainName MX4_pressCaves.2.2.2.2.cls = true := by decide +kernel
abbrev MX4_run : JM := (cX4_run, 5, RX4, none, yX4_run)
theorem jn_X4_run : jnm MX4_run 3 := by decide +kernel
theorem jp_X4_run : plainName MX4_run.2.2.2.2.cls = true := by decide +kernel
abbrev MX4_siltPipes : JM := (cX4_siltPipes, 5, RX4, none, yX4_siltPipes)
theorem jn_X4_siltPipes : jnm MX4_siltPipes 2 := by decide +kernel
theorem jp_X4_siltPipes : plainName MX4_siltPipes.2.2.2.2.cls = true := by decide +kernel
abbrev MX4_soundChords : JM := (cX4_soundChords, 7, RX4, none, yX4_soundChords)
theorem jn_X4_soundChords : jnm MX4_soundChords 2 := by decide +kernel
theorem jp_X4_soundChords : plainName MX4_soundChords.2.2.2.2.cls = true := by decide +kernel
abbrev MX4_soundPipes : JM := (cX4_soundPipes, 6, RX4, none, yX4_soundPipes)
theorem jn_X4_soundPipes : jnm MX4_soundPipes 2 := by decide +kernel
theorem jp_X4_soundPipes : plainName MX4_soundPipes.2.2.2.2.cls = true := by decide +kernel
abbrev MX5_beginOrder : JM := (cX5_beginOrder, 3, RX5, none, yX5_beginOrder)
theorem jn_X5_beginOrder : jnm MX5_beginOrder 2 := by decide +kernel
theorem jp_X5_beginOrder : plainName MX5_beginOrder.2.2.2.2.cls = true := by decide +kernel
abbrev MX5_blame : JM := (cX5_blame, 2, RX5, none, yX5_blame)
theorem jn_X5_blame : jnm MX5_blame 1 := by decide +kernel
theorem jp_X5_blame : plainName MX5_blame.2.2.2.2.cls = true := by decide +kernel
abbrev MX5_blameOrderTooMany : JM := (cX5_blameOrderTooMany, 1, RX5, none, yX5_blameOrderTooMany)
theorem jn_X5_blameOrderTooMany : jnm MX5_blameOrderTooMany 0 := by decide +kernel
theorem jp_X5_blameOrderTooMany : plainName MX5_blameOrderTooMany.2.2.2.2.cls = true := by decide +kernel
abbrev MX5_both : JM := (cX5_both, 3, RX5, (some .boolean), yX5_both)
theorem jn_X5_both : jnm MX5_both 1 := by decide +kernel
theorem jp_X5_both : plainName MX5_both.2.2.2.2.cls = true := by decide +kernel
abbrev MX5_caveLine : JM := (cX5_caveLine, 2, RX5, (some .boolean), yX5_caveLine)
theorem jn_X5_caveLine : jnm MX5_caveLine 0 := by decide +kernel
theorem jp_X5_caveLine : plainName MX5_caveLine.2.2.2.2.cls = true := by decide +kernel
abbrev MX5_chordLine : JM := (cX5_chordLine, 2, RX5, (some .boolean), yX5_chordLine)
theorem jn_X5_chordLine : jnm MX5_chordLine 0 := by decide +kernel
theorem jp_X5_chordLine : plainName MX5_chordLine.2.2.2.2.cls = true := by decide +kernel
abbrev MX5_chordPipe : JM := (cX5_chordPipe, 2, RX5, (some .boolean), yX5_chordPipe)
theorem jn_X5_chordPipe : jnm MX5_chordPipe 0 := by decide +kernel
theorem jp_X5_chordPipe : plainName MX5_chordPipe.2.2.2.2.cls = true := by decide +kernel
abbrev MX5_cleanLine : JM := (cX5_cleanLine, 2, RX5, (some .boolean), yX5_cleanLine)
theorem jn_X5_cleanLine : jnm MX5_cleanLine 0 := by decide +kernel
theorem jp_X5_cleanLine : plainName MX5_cleanLine.2.2.2.2.cls = true := by decide +kernel
abbrev MX5_comparison : JM := (cX5_comparison, 3, RX5, (some .boolean), yX5_comparison)
theorem jn_X5_comparison : jnm MX5_comparison 1 := by decide +kernel
theorem jp_X5_comparison : plainName MX5_comparison.2.2.2.2.cls = true := by decide +kernel
abbrev MX5_emit : JM := (cX5_emit, 3, RX5, none, yX5_emit)
theorem jn_X5_emit : jnm MX5_emit 2 := by decide +kernel
theorem jp_X5_emit : plainName MX5_emit.2.2.2.2.cls = true := by decide +kernel
abbrev MX5_endOrder : JM := (cX5_endOrder, 1, RX5, none, yX5_endOrder)
theorem jn_X5_endOrder : jnm MX5_endOrder 0 := by decide +kernel
theorem jp_X5_endOrder : plainName MX5_endOrder.2.2.2.2.cls = true := by decide +kernel
abbrev MX5_exchange : JM := (cX5_exchange, 3, RX5, (some (.object "DriftOrgan$Organ")), yX5_exchange)
theorem jn_X5_exchange : jnm MX5_exchange 1 := by decide +kernel
theorem jp_X5_exchange : plainName MX5_exchange.2.2.2.2.cls = true := by decide +kernel
abbrev MX5_extreme : JM := (cX5_extreme, 3, RX5, (some .boolean), yX5_extreme)
theorem jn_X5_extreme : jnm MX5_extreme 1 := by decide +kernel
theorem jp_X5_extreme : plainName MX5_extreme.2.2.2.2.cls = true := by decide +kernel
abbrev MX5_goDeeper : JM := (cX5_goDeeper, 2, RX5, (some .boolean), yX5_goDeeper)
theorem jn_X5_goDeeper : jnm MX5_goDeeper 1 := by decide +kernel
theorem jp_X5_goDeeper : plainName MX5_goDeeper.2.2.2.2.cls = true := by decide +kernel
abbrev MX5_kind : JM := (cX5_kind, 1, RX5, (some .int), yX5_kind)
theorem jn_X5_kind : jnm MX5_kind 0 := by decide +kernel
theorem jp_X5_kind : plainName MX5_kind.2.2.2.2.cls = true := by decide +kernel
abbrev MX5_knownName : JM := (cX5_knownName, 3, RX5, (some .boolean), yX5_knownName)
theorem jn_X5_knownName : jnm MX5_knownName 2 := by decide +kernel
theorem jp_X5_knownName : plainName MX5_knownName.2.2.2.2.cls = true := by decide +kernel
abbrev MX5_line : JM := (cX5_line, 1, RX5, (some .boolean), yX5_line)
theorem jn_X5_line : jnm MX5_line 0 := by decide +kernel
theorem jp_X5_line : plainName MX5_line.2.2.2.2.cls = true := by decide +kernel
abbrev MX5_namedStep : JM := (cX5_namedStep, 5, RX5, (some .boolean), yX5_namedStep)
theorem jn_X5_namedStep : jnm MX5_namedStep 2 := by decide +kernel
theorem jp_X5_namedStep : plainName MX5_namedStep.2.2.2.2.cls = true := by decide +kernel
abbrev MX5_newName : JM := (cX5_newName, 3, RX5, (some .boolean), yX5_newName)
theorem jn_X5_newName : jnm MX5_newName 2 := by decide +kernel
theorem jp_X5_newName : plainName MX5_newName.2.2.2.2.cls = true := by decide +kernel
abbrev MX5_numberIn : JM := (cX5_numberIn, 4, RX5, (some .boolean), yX5_numberIn)
theorem jn_X5_numberIn : jnm MX5_numberIn 2 := by decide +kernel
theorem jp_X5_numberIn : plainName MX5_numberIn.2.2.2.2.cls = true := by decide +kernel
abbrev MX5_numberOf : JM := (cX5_numberOf, 7, RX5, (some .int), yX5_numberOf)
theorem jn_X5_numberOf : jnm MX5_numberOf 3 := by decide +kernel
theorem jp_X5_numberOf : plainName MX5_numberOf.2.2.2.2.cls = true := by decide +kernel
abbrev MX5_pipeLine : JM := (cX5_pipeLine, 3, RX5, (some .boolean), yX5_pipeLine)
theorem jn_X5_pipeLine : jnm MX5_pipeLine 0 := by decide +kernel
theorem jp_X5_pipeLine : plainName MX5_pipeLine.2.2.2.2.cls = true := by decide +kernel
abbrev MX5_product : JM := (cX5_product, 4, RX5, (some .boolean), yX5_product)
theorem jn_X5_product : jnm MX5_product 1 := by decide +kernel
theorem jp_X5_product : plainName MX5_product.2.2.2.2.cls = true := by decide +kernel
abbrev MX5_read : JM := (cX5_read, 3, RX5, (some .int), yX5_read)
theorem jn_X5_read : jnm MX5_read 0 := by decide +kernel
theorem jp_X5_read : plainName MX5_read.2.2.2.2.cls = true := by decide +kernel
abbrev MX5_shutLine : JM := (cX5_shutLine, 2, RX5, (some .boolean), yX5_shutLine)
theorem jn_X5_shutLine : jnm MX5_shutLine 0 := by decide +kernel
theorem jp_X5_shutLine : plainName MX5_shutLine.2.2.2.2.cls = true := by decide +kernel
abbrev MX5_silenceLine : JM := (cX5_silenceLine, 2, RX5, (some .boolean), yX5_silenceLine)
theorem jn_X5_silenceLine : jnm MX5_silenceLine 0 := by decide +kernel
theorem jp_X5_silenceLine : plainName MX5_silenceLine.2.2.2.2.cls = true := by decide +kernel
abbrev MX5_single : JM := (cX5_single, 2, RX5, (some .boolean), yX5_single)
theorem jn_X5_single : jnm MX5_single 1 := by decide +kernel
theorem jp_X5_single : plainName MX5_single.2.2.2.2.cls = true := by decide +kernel
abbrev MX5_sum : JM := (cX5_sum, 4, RX5, (some .boolean), yX5_sum)
theorem jn_X5_sum : jnm MX5_sum 1 := by decide +kernel
theorem jp_X5_sum : plainName MX5_sum.2.2.2.2.cls = true := by decide +kernel
abbrev MX5_swellLine : JM := (cX5_swellLine, 2, RX5, (some .boolean), yX5_swellLine)
theorem jn_X5_swellLine : jnm MX5_swellLine 0 := by decide +kernel
theorem jp_X5_swellLine : plainName MX5_swellLine.2.2.2.2.cls = true := by decide +kernel
abbrev MX5_take : JM := (cX5_take, 2, RX5, (some .boolean), yX5_take)
theorem jn_X5_take : jnm MX5_take 1 := by decide +kernel
theorem jp_X5_take : plainName MX5_take.2.2.2.2.cls = true := by decide +kernel
abbrev MX5_test : JM := (cX5_test, 3, RX5, (some .boolean), yX5_test)
theorem jn_X5_test : jnm MX5_test 1 := by decide +kernel
theorem jp_X5_test : plainName MX5_test.2.2.2.2.cls = true := by decide +kernel
abbrev MX5_value : JM := (cX5_value, 2, RX5, (some .boolean), yX5_value)
theorem jn_X5_value : jnm MX5_value 1 := by decide +kernel
theorem jp_X5_value : plainName MX5_value.2.2.2.2.cls = true := by decide +kernel
abbrev MX6_append : JM := (cX6_append, 3, RX6, none, yX6_append)
theorem jn_X6_append : jnm MX6_append 1 := by decide +kernel
theorem jp_X6_append : plainName MX6_append.2.2.2.2.cls = true := by decide +kernel
abbrev MX6_byteAt : JM := (cX6_byteAt, 2, RX6, (some .int), yX6_byteAt)
theorem jn_X6_byteAt : jnm MX6_byteAt 1 := by decide +kernel
theorem jp_X6_byteAt : plainName MX6_byteAt.2.2.2.2.cls = true := by decide +kernel
abbrev MX6_hasRoomFor : JM := (cX6_hasRoomFor, 2, RX6, (some .boolean), yX6_hasRoomFor)
theorem jn_X6_hasRoomFor : jnm MX6_hasRoomFor 1 := by decide +kernel
theorem jp_X6_hasRoomFor : plainName MX6_hasRoomFor.2.2.2.2.cls = true := by decide +kernel
abbrev MX6_shorten : JM := (cX6_shorten, 2, RX6, none, yX6_shorten)
theorem jn_X6_shorten : jnm MX6_shorten 1 := by decide +kernel
theorem jp_X6_shorten : plainName MX6_shorten.2.2.2.2.cls = true := by decide +kernel
abbrev MX7_behindBlanks : JM := (cX7_behindBlanks, 3, RX7, (some .int), yX7_behindBlanks)
theorem jn_X7_behindBlanks : jnm MX7_behindBlanks 2 := by decide +kernel
theorem jp_X7_behindBlanks : plainName MX7_behindBlanks.2.2.2.2.cls = true := by decide +kernel
abbrev MX7_behindToken : JM := (cX7_behindToken, 5, RX7, (some .int), yX7_behindToken)
theorem jn_X7_behindToken : jnm MX7_behindToken 2 := by decide +kernel
theorem jp_X7_behindToken : plainName MX7_behindToken.2.2.2.2.cls = true := by decide +kernel
abbrev MX7_isBlank : JM := (cX7_isBlank, 1, RX7, (some .boolean), yX7_isBlank)
theorem jn_X7_isBlank : jnm MX7_isBlank 1 := by decide +kernel
theorem jp_X7_isBlank : plainName MX7_isBlank.2.2.2.2.cls = true := by decide +kernel
abbrev MX7_isDigit : JM := (cX7_isDigit, 1, RX7, (some .boolean), yX7_isDigit)
theorem jn_X7_isDigit : jnm MX7_isDigit 1 := by decide +kernel
theorem jp_X7_isDigit : plainName MX7_isDigit.2.2.2.2.cls = true := by decide +kernel
abbrev MX7_isLetter : JM := (cX7_isLetter, 1, RX7, (some .boolean), yX7_isLetter)
theorem jn_X7_isLetter : jnm MX7_isLetter 1 := by decide +kernel
theorem jp_X7_isLetter : plainName MX7_isLetter.2.2.2.2.cls = true := by decide +kernel
abbrev MX7_kindAt : JM := (cX7_kindAt, 2, RX7, (some .int), yX7_kindAt)
theorem jn_X7_kindAt : jnm MX7_kindAt 1 := by decide +kernel
theorem jp_X7_kindAt : plainName MX7_kindAt.2.2.2.2.cls = true := by decide +kernel
abbrev MX7_kindOf : JM := (cX7_kindOf, 5, RX7, (some .int), yX7_kindOf)
theorem jn_X7_kindOf : jnm MX7_kindOf 3 := by decide +kernel
theorem jp_X7_kindOf : plainName MX7_kindOf.2.2.2.2.cls = true := by decide +kernel
abbrev MX7_numberAt : JM := (cX7_numberAt, 2, RX7, (some .int), yX7_numberAt)
theorem jn_X7_numberAt : jnm MX7_numberAt 1 := by decide +kernel
theorem jp_X7_numberAt : plainName MX7_numberAt.2.2.2.2.cls = true := by decide +kernel
abbrev MX7_scan : JM := (cX7_scan, 6, RX7, none, yX7_scan)
theorem jn_X7_scan : jnm MX7_scan 1 := by decide +kernel
theorem jp_X7_scan : plainName MX7_scan.2.2.2.2.cls = true := by decide +kernel
abbrev MX7_startOf : JM := (cX7_startOf, 2, RX7, (some .int), yX7_startOf)
theorem jn_X7_startOf : jnm MX7_startOf 1 := by decide +kernel
theorem jp_X7_startOf : plainName MX7_startOf.2.2.2.2.cls = true := by decide +kernel
abbrev MX7_wordKind : JM := (cX7_wordKind, 8, RX7, (some .int), yX7_wordKind)
theorem jn_X7_wordKind : jnm MX7_wordKind 3 := by decide +kernel
theorem jp_X7_wordKind : plainName MX7_wordKind.2.2.2.2.cls = true := by decide +kernel
abbrev MX7_worthAt : JM := (cX7_worthAt, 2, RX7, (some .long), yX7_worthAt)
theorem jn_X7_worthAt : jnm MX7_worthAt 1 := by decide +kernel
theorem jp_X7_worthAt : plainName MX7_worthAt.2.2.2.2.cls = true := by decide +kernel
abbrev MX7_worthOf : JM := (cX7_worthOf, 8, RX7, (some .long), yX7_worthOf)
theorem jn_X7_worthOf : jnm MX7_worthOf 3 := by decide +kernel
theorem jp_X7_worthOf : plainName MX7_worthOf.2.2.2.2.cls = true := by decide +kernel
abbrev MX8_addSilence : JM := (cX8_addSilence, 3, RX8, none, yX8_addSilence)
theorem jn_X8_addSilence : jnm MX8_addSilence 2 := by decide +kernel
theorem jp_X8_addSilence : plainName MX8_addSilence.2.2.2.2.cls = true := by decide +kernel
abbrev MX8_addSwell : JM := (cX8_addSwell, 4, RX8, none, yX8_addSwell)
theorem jn_X8_addSwell : jnm MX8_addSwell 3 := by decide +kernel
theorem jp_X8_addSwell : plainName MX8_addSwell.2.2.2.2.cls = true := by decide +kernel
abbrev MX8_begin : JM := (cX8_begin, 1, RX8, none, yX8_begin)
theorem jn_X8_begin : jnm MX8_begin 0 := by decide +kernel
theorem jp_X8_begin : plainName MX8_begin.2.2.2.2.cls = true := by decide +kernel
abbrev MX8_heightIn : JM := (cX8_heightIn, 7, RX8, (some .int), yX8_heightIn)
theorem jn_X8_heightIn : jnm MX8_heightIn 2 := by decide +kernel
theorem jp_X8_heightIn : plainName MX8_heightIn.2.2.2.2.cls = true := by decide +kernel
abbrev MX8_isStill : JM := (cX8_isStill, 8, RX8, (some .boolean), yX8_isStill)
theorem jn_X8_isStill : jnm MX8_isStill 1 := by decide +kernel
theorem jp_X8_isStill : plainName MX8_isStill.2.2.2.2.cls = true := by decide +kernel
abbrev MX9_advise : JM := (cX9_advise, 6, RX9, (some .int), yX9_advise)
theorem jn_X9_advise : jnm MX9_advise 1 := by decide +kernel
theorem jp_X9_advise : plainName MX9_advise.2.2.2.2.cls = true := by decide +kernel
abbrev MX9_apart : JM := (cX9_apart, 3, RX9, (some .int), yX9_apart)
theorem jn_X9_apart : jnm MX9_apart 2 := by decide +kernel
theorem jp_X9_apart : plainName MX9_apart.2.2.2.2.cls = true := by decide +kernel
abbrev MX9_at : JM := (cX9_at, 2, RX9, (some .int), yX9_at)
theorem jn_X9_at : jnm MX9_at 2 := by decide +kernel
theorem jp_X9_at : plainName MX9_at.2.2.2.2.cls = true := by decide +kernel
abbrev MX9_best : JM := (cX9_best, 5, RX9, (some .int), yX9_best)
theorem jn_X9_best : jnm MX9_best 1 := by decide +kernel
theorem jp_X9_best : plainName MX9_best.2.2.2.2.cls = true := by decide +kernel
abbrev MX9_cave : JM := (cX9_cave, 3, RX9, (some .int), yX9_cave)
theorem jn_X9_cave : jnm MX9_cave 2 := by decide +kernel
theorem jp_X9_cave : plainName MX9_cave.2.2.2.2.cls = true := by decide +kernel
abbrev MX9_caveFact : JM := (cX9_caveFact, 3, RX9, (some .int), yX9_caveFact)
theorem jn_X9_caveFact : jnm MX9_caveFact 2 := by decide +kernel
theorem jp_X9_caveFact : plainName MX9_caveFact.2.2.2.2.cls = true := by decide +kernel
abbrev MX9_chord : JM := (cX9_chord, 3, RX9, (some .int), yX9_chord)
theorem jn_X9_chord : jnm MX9_chord 2 := by decide +kernel
theorem jp_X9_chord : plainName MX9_chord.2.2.2.2.cls = true := by decide +kernel
abbrev MX9_chordFact : JM := (cX9_chordFact, 3, RX9, (some .int), yX9_chordFact)
theorem jn_X9_chordFact : jnm MX9_chordFact 2 := by decide +kernel
theorem jp_X9_chordFact : plainName MX9_chordFact.2.2.2.2.cls = true := by decide +kernel
abbrev MX9_chordsSounding : JM := (cX9_chordsSounding, 3, RX9, (some .int), yX9_chordsSounding)
theorem jn_X9_chordsSounding : jnm MX9_chordsSounding 0 := by decide +kernel
theorem jp_X9_chordsSounding : plainName MX9_chordsSounding.2.2.2.2.cls = true := by decide +kernel
abbrev MX9_clean : JM := (cX9_clean, 3, RX9, (some .int), yX9_clean)
theorem jn_X9_clean : jnm MX9_clean 1 := by decide +kernel
theorem jp_X9_clean : plainName MX9_clean.2.2.2.2.cls = true := by decide +kernel
abbrev MX9_copy : JM := (cX9_copy, 3, RX9, none, yX9_copy)
theorem jn_X9_copy : jnm MX9_copy 2 := by decide +kernel
theorem jp_X9_copy : plainName MX9_copy.2.2.2.2.cls = true := by decide +kernel
abbrev MX9_count : JM := (cX9_count, 2, RX9, (some .int), yX9_count)
theorem jn_X9_count : jnm MX9_count 1 := by decide +kernel
theorem jp_X9_count : plainName MX9_count.2.2.2.2.cls = true := by decide +kernel
abbrev MX9_countFact : JM := (cX9_countFact, 2, RX9, (some .int), yX9_countFact)
theorem jn_X9_countFact : jnm MX9_countFact 1 := by decide +kernel
theorem jp_X9_countFact : plainName MX9_countFact.2.2.2.2.cls = true := by decide +kernel
abbrev MX9_cut : JM := (cX9_cut, 4, RX9, (some .int), yX9_cut)
theorem jn_X9_cut : jnm MX9_cut 2 := by decide +kernel
theorem jp_X9_cut : plainName MX9_cut.2.2.2.2.cls = true := by decide +kernel
abbrev MX9_digest : JM := (cX9_digest, 5, RX9, (some .long), yX9_digest)
theorem jn_X9_digest : jnm MX9_digest 0 := by decide +kernel
theorem jp_X9_digest : plainName MX9_digest.2.2.2.2.cls = true := by decide +kernel
abbrev MX9_digestChord : JM := (cX9_digestChord, 8, RX9, (some .long), yX9_digestChord)
theorem jn_X9_digestChord : jnm MX9_digestChord 2 := by decide +kernel
theorem jp_X9_digestChord : plainName MX9_digestChord.2.2.2.2.cls = true := by decide +kernel
abbrev MX9_empty : JM := (cX9_empty, 2, RX9, none, yX9_empty)
theorem jn_X9_empty : jnm MX9_empty 1 := by decide +kernel
theorem jp_X9_empty : plainName MX9_empty.2.2.2.2.cls = true := by decide +kernel
abbrev MX9_feed : JM := (cX9_feed, 6, RX9, (some .int), yX9_feed)
theorem jn_X9_feed : jnm MX9_feed 5 := by decide +kernel
theorem jp_X9_feed : plainName MX9_feed.2.2.2.2.cls = true := by decide +kernel
abbrev MX9_foresee : JM := (cX9_foresee, 3, RX9, (some .int), yX9_foresee)
theorem jn_X9_foresee : jnm MX9_foresee 2 := by decide +kernel
theorem jp_X9_foresee : plainName MX9_foresee.2.2.2.2.cls = true := by decide +kernel
abbrev MX9_gainByTide : JM := (cX9_gainByTide, 3, RX9, (some .int), yX9_gainByTide)
theorem jn_X9_gainByTide : jnm MX9_gainByTide 2 := by decide +kernel
theorem jp_X9_gainByTide : plainName MX9_gainByTide.2.2.2.2.cls = true := by decide +kernel
abbrev MX9_isNoPipe : JM := (cX9_isNoPipe, 2, RX9, (some .boolean), yX9_isNoPipe)
theorem jn_X9_isNoPipe : jnm MX9_isNoPipe 1 := by decide +kernel
theorem jp_X9_isNoPipe : plainName MX9_isNoPipe.2.2.2.2.cls = true := by decide +kernel
abbrev MX9_note : JM := (cX9_note, 3, RX9, (some .int), yX9_note)
theorem jn_X9_note : jnm MX9_note 2 := by decide +kernel
theorem jp_X9_note : plainName MX9_note.2.2.2.2.cls = true := by decide +kernel
abbrev MX9_pass : JM := (cX9_pass, 3, RX9, (some .int), yX9_pass)
theorem jn_X9_pass : jnm MX9_pass 1 := by decide +kernel
theorem jp_X9_pass : plainName MX9_pass.2.2.2.2.cls = true := by decide +kernel
abbrev MX9_pipe : JM := (cX9_pipe, 3, RX9, (some .int), yX9_pipe)
theorem jn_X9_pipe : jnm MX9_pipe 2 := by decide +kernel
theorem jp_X9_pipe : plainName MX9_pipe.2.2.2.2.cls = true := by decide +kernel
abbrev MX9_pipeFact : JM := (cX9_pipeFact, 3, RX9, (some .int), yX9_pipeFact)
theorem jn_X9_pipeFact : jnm MX9_pipeFact 2 := by decide +kernel
theorem jp_X9_pipeFact : plainName MX9_pipeFact.2.2.2.2.cls = true := by decide +kernel
abbrev MX9_put : JM := (cX9_put, 3, RX9, none, yX9_put)
theorem jn_X9_put : jnm MX9_put 3 := by decide +kernel
theorem jp_X9_put : plainName MX9_put.2.2.2.2.cls = true := by decide +kernel
abbrev MX9_setTide : JM := (cX9_setTide, 3, RX9, (some .int), yX9_setTide)
theorem jn_X9_setTide : jnm MX9_setTide 1 := by decide +kernel
theorem jp_X9_setTide : plainName MX9_setTide.2.2.2.2.cls = true := by decide +kernel
abbrev MX9_stepsBetween : JM := (cX9_stepsBetween, 5, RX9, (some .int), yX9_stepsBetween)
theorem jn_X9_stepsBetween : jnm MX9_stepsBetween 2 := by decide +kernel
theorem jp_X9_stepsBetween : plainName MX9_stepsBetween.2.2.2.2.cls = true := by decide +kernel
abbrev MX9_teach : JM := (cX9_teach, 2, RX9, (some .int), yX9_teach)
theorem jn_X9_teach : jnm MX9_teach 0 := by decide +kernel
theorem jp_X9_teach : plainName MX9_teach.2.2.2.2.cls = true := by decide +kernel
abbrev MX9_trim : JM := (cX9_trim, 2, RX9, (some .int), yX9_trim)
theorem jn_X9_trim : jnm MX9_trim 1 := by decide +kernel
theorem jp_X9_trim : plainName MX9_trim.2.2.2.2.cls = true := by decide +kernel
abbrev MX9_until : JM := (cX9_until, 3, RX9, (some .int), yX9_until)
theorem jn_X9_until : jnm MX9_until 1 := by decide +kernel
theorem jp_X9_until : plainName MX9_until.2.2.2.2.cls = true := by decide +kernel
theorem jw_429 : Cond.fieldLink RX6 15 "DriftOrgan$Tape" "length" "I" ∈ jGL := jmem 429 (by decide +kernel) rfl
theorem jw_428 : Cond.fieldLink RX6 9 "DriftOrgan$Tape" "bytes" "[B" ∈ jGL := jmem 428 (by decide +kernel) rfl
theorem jw_516 : Cond.fieldLink RX2 30 "DriftOrgan$Orders" "told" "I" ∈ jGL := jmem 516 (by decide +kernel) rfl
theorem jw_520 : Cond.fieldLink RX2 34 "DriftOrgan$Orders" "steps" "I" ∈ jGL := jmem 520 (by decide +kernel) rfl
theorem jw_504 : Cond.fieldLink RX2 9 "DriftOrgan$Orders" "sorts" "[I" ∈ jGL := jmem 504 (by decide +kernel) rfl
theorem jw_226 : Cond.code yX9_put cX9_put 3 none ∈ jGL := jmem 226 (by decide +kernel) rfl
theorem jw_47 : Cond.initialized RX9 ∈ jGL := jmem 47 (by decide +kernel) rfl
theorem jw_225 : Cond.static yX9_put ∈ jGL := jmem 225 (by decide +kernel) rfl
theorem jw_1317 : Cond.methodLinkNest RX2 37 yX9_put "DriftOrgan" ∈ jGL := jmem 1317 (by decide +kernel) rfl
theorem jw_506 : Cond.fieldLink RX2 15 "DriftOrgan$Orders" "targets" "[I" ∈ jGL := jmem 506 (by decide +kernel) rfl
theorem jw_508 : Cond.fieldLink RX2 18 "DriftOrgan$Orders" "firstSteps" "[I" ∈ jGL := jmem 508 (by decide +kernel) rfl
theorem jw_510 : Cond.fieldLink RX2 21 "DriftOrgan$Orders" "endSteps" "[I" ∈ jGL := jmem 510 (by decide +kernel) rfl
theorem jw_512 : Cond.fieldLink RX2 24 "DriftOrgan$Orders" "stepSorts" "[I" ∈ jGL := jmem 512 (by decide +kernel) rfl
theorem jw_514 : Cond.fieldLink RX2 27 "DriftOrgan$Orders" "operands" "[I" ∈ jGL := jmem 514 (by decide +kernel) rfl
theorem jw_652 : Cond.fieldLink RX1 9 "DriftOrgan$Moment" "pressures" "[I" ∈ jGL := jmem 652 (by decide +kernel) rfl
theorem jw_1393 : Cond.code yX9_empty cX9_empty 2 none ∈ jGL := jmem 1393 (by decide +kernel) rfl
theorem jw_1392 : Cond.static yX9_empty ∈ jGL := jmem 1392 (by decide +kernel) rfl
theorem jw_1391 : Cond.methodLinkNest RX1 31 yX9_empty "DriftOrgan" ∈ jGL := jmem 1391 (by decide +kernel) rfl
theorem jw_656 : Cond.fieldLink RX1 15 "DriftOrgan$Moment" "silts" "[I" ∈ jGL := jmem 656 (by decide +kernel) rfl
theorem jw_660 : Cond.fieldLink RX1 18 "DriftOrgan$Moment" "louds" "[I" ∈ jGL := jmem 660 (by decide +kernel) rfl
theorem jw_664 : Cond.fieldLink RX1 21 "DriftOrgan$Moment" "pipeHours" "[I" ∈ jGL := jmem 664 (by decide +kernel) rfl
theorem jw_667 : Cond.fieldLink RX1 24 "DriftOrgan$Moment" "chordHours" "[I" ∈ jGL := jmem 667 (by decide +kernel) rfl
theorem jw_677 : Cond.fieldLink RX1 35 "DriftOrgan$Moment" "listeners" "I" ∈ jGL := jmem 677 (by decide +kernel) rfl
theorem jw_681 : Cond.fieldLink RX1 38 "DriftOrgan$Moment" "complaints" "I" ∈ jGL := jmem 681 (by decide +kernel) rfl
theorem jw_376 : Cond.code yX9_copy cX9_copy 3 none ∈ jGL := jmem 376 (by decide +kernel) rfl
theorem jw_375 : Cond.static yX9_copy ∈ jGL := jmem 375 (by decide +kernel) rfl
theorem jw_374 : Cond.methodLinkNest RX1 41 yX9_copy "DriftOrgan" ∈ jGL := jmem 374 (by decide +kernel) rfl
theorem jw_671 : Cond.fieldLink RX1 45 "DriftOrgan$Moment" "hour" "I" ∈ jGL := jmem 671 (by decide +kernel) rfl
theorem jw_673 : Cond.fieldLink RX1 27 "DriftOrgan$Moment" "tide" "I" ∈ jGL := jmem 673 (by decide +kernel) rfl
theorem jw_163 : Cond.code yX9_at cX9_at 2 (some .int) ∈ jGL := jmem 163 (by decide +kernel) rfl
theorem jw_162 : Cond.static yX9_at ∈ jGL := jmem 162 (by decide +kernel) rfl
theorem jw_161 : Cond.methodLinkNest RX1 48 yX9_at "DriftOrgan" ∈ jGL := jmem 161 (by decide +kernel) rfl
theorem jw_160 : Cond.code yX1_sounds cX1_sounds 2 (some .boolean) ∈ jGL := jmem 160 (by decide +kernel) rfl
theorem jw_56 : Cond.initialized RX1 ∈ jGL := jmem 56 (by decide +kernel) rfl
theorem jw_157 : Cond.methodLink RX1 52 yX1_sounds ∈ jGL := jmem 157 (by decide +kernel) rfl
theorem jw_158 : Cond.instanceMethod yX1_sounds ∈ jGL := jmem 158 (by decide +kernel) rfl
theorem jw_159 : Cond.selects RX1 yX1_sounds yX1_sounds ∈ jGL := jmem 159 (by decide +kernel) rfl
theorem jw_477 : Cond.fieldLink RX8 27 "DriftOrgan$Weather" "swells" "I" ∈ jGL := jmem 477 (by decide +kernel) rfl
theorem jw_480 : Cond.fieldLink RX8 31 "DriftOrgan$Weather" "silences" "I" ∈ jGL := jmem 480 (by decide +kernel) rfl
theorem jw_472 : Cond.fieldLink RX8 9 "DriftOrgan$Weather" "highs" "[I" ∈ jGL := jmem 472 (by decide +kernel) rfl
theorem jw_1267 : Cond.methodLinkNest RX8 34 yX9_put "DriftOrgan" ∈ jGL := jmem 1267 (by decide +kernel) rfl
theorem jw_473 : Cond.fieldLink RX8 15 "DriftOrgan$Weather" "everies" "[I" ∈ jGL := jmem 473 (by decide +kernel) rfl
theorem jw_474 : Cond.fieldLink RX8 18 "DriftOrgan$Weather" "swellFroms" "[I" ∈ jGL := jmem 474 (by decide +kernel) rfl
theorem jw_475 : Cond.fieldLink RX8 21 "DriftOrgan$Weather" "silenceFroms" "[I" ∈ jGL := jmem 475 (by decide +kernel) rfl
theorem jw_476 : Cond.fieldLink RX8 24 "DriftOrgan$Weather" "silenceTos" "[I" ∈ jGL := jmem 476 (by decide +kernel) rfl
theorem jw_208 : Cond.methodLinkNest RX8 38 yX9_at "DriftOrgan" ∈ jGL := jmem 208 (by decide +kernel) rfl
theorem jw_509 : Cond.fieldLinkNest RX0 15 "DriftOrgan$Orders" "firstSteps" "[I" "DriftOrgan" ∈ jGL := jmem 509 (by decide +kernel) rfl
theorem jw_214 : Cond.methodLinkNest RX0 20 yX9_at "DriftOrgan" ∈ jGL := jmem 214 (by decide +kernel) rfl
theorem jw_511 : Cond.fieldLinkNest RX0 24 "DriftOrgan$Orders" "endSteps" "[I" "DriftOrgan" ∈ jGL := jmem 511 (by decide +kernel) rfl
theorem jw_636 : Cond.fieldLink RX0 27 "DriftOrgan$Judge" "top" "I" ∈ jGL := jmem 636 (by decide +kernel) rfl
theorem jw_219 : Cond.code yX0_pop cX0_pop 1 (some .int) ∈ jGL := jmem 219 (by decide +kernel) rfl
theorem jw_55 : Cond.initialized RX0 ∈ jGL := jmem 55 (by decide +kernel) rfl
theorem jw_215 : Cond.methodLink RX0 34 yX0_pop ∈ jGL := jmem 215 (by decide +kernel) rfl
theorem jw_217 : Cond.instanceMethod yX0_pop ∈ jGL := jmem 217 (by decide +kernel) rfl
theorem jw_4 : Cond.selects RX0 yX0_pop yX0_pop ∈ jGL := jmem 4 (by decide +kernel) rfl
theorem jw_513 : Cond.fieldLinkNest RX0 31 "DriftOrgan$Orders" "stepSorts" "[I" "DriftOrgan" ∈ jGL := jmem 513 (by decide +kernel) rfl
theorem jw_229 : Cond.code yX0_isOperand cX0_isOperand 1 (some .boolean) ∈ jGL := jmem 229 (by decide +kernel) rfl
theorem jw_228 : Cond.static yX0_isOperand ∈ jGL := jmem 228 (by decide +kernel) rfl
theorem jw_227 : Cond.methodLink RX0 42 yX0_isOperand ∈ jGL := jmem 227 (by decide +kernel) rfl
theorem jw_223 : Cond.code yX0_push cX0_push 2 none ∈ jGL := jmem 223 (by decide +kernel) rfl
theorem jw_220 : Cond.methodLink RX0 38 yX0_push ∈ jGL := jmem 220 (by decide +kernel) rfl
theorem jw_222 : Cond.instanceMethod yX0_push ∈ jGL := jmem 222 (by decide +kernel) rfl
theorem jw_5 : Cond.selects RX0 yX0_push yX0_push ∈ jGL := jmem 5 (by decide +kernel) rfl
theorem jw_515 : Cond.fieldLinkNest RX0 46 "DriftOrgan$Orders" "operands" "[I" "DriftOrgan" ∈ jGL := jmem 515 (by decide +kernel) rfl
theorem jw_232 : Cond.code yX0_reading cX0_reading 3 (some .int) ∈ jGL := jmem 232 (by decide +kernel) rfl
theorem jw_231 : Cond.static yX0_reading ∈ jGL := jmem 231 (by decide +kernel) rfl
theorem jw_230 : Cond.methodLink RX0 49 yX0_reading ∈ jGL := jmem 230 (by decide +kernel) rfl
theorem jw_239 : Cond.code yX0_joined cX0_joined 3 (some .int) ∈ jGL := jmem 239 (by decide +kernel) rfl
theorem jw_238 : Cond.static yX0_joined ∈ jGL := jmem 238 (by decide +kernel) rfl
theorem jw_237 : Cond.methodLink RX0 53 yX0_joined ∈ jGL := jmem 237 (by decide +kernel) rfl
theorem jw_635 : Cond.fieldLink RX0 9 "DriftOrgan$Judge" "stack" "[I" ∈ jGL := jmem 635 (by decide +kernel) rfl
theorem jw_224 : Cond.methodLinkNest RX0 57 yX9_put "DriftOrgan" ∈ jGL := jmem 224 (by decide +kernel) rfl
theorem jw_236 : Cond.code yX1_hourOfDay cX1_hourOfDay 1 (some .int) ∈ jGL := jmem 236 (by decide +kernel) rfl
theorem jw_233 : Cond.methodLink RX0 61 yX1_hourOfDay ∈ jGL := jmem 233 (by decide +kernel) rfl
theorem jw_234 : Cond.instanceMethod yX1_hourOfDay ∈ jGL := jmem 234 (by decide +kernel) rfl
theorem jw_235 : Cond.selects RX1 yX1_hourOfDay yX1_hourOfDay ∈ jGL := jmem 235 (by decide +kernel) rfl
theorem jw_675 : Cond.fieldLinkNest RX0 66 "DriftOrgan$Moment" "tide" "I" "DriftOrgan" ∈ jGL := jmem 675 (by decide +kernel) rfl
theorem jw_654 : Cond.fieldLinkNest RX0 72 "DriftOrgan$Moment" "pressures" "[I" "DriftOrgan" ∈ jGL := jmem 654 (by decide +kernel) rfl
theorem jw_658 : Cond.fieldLinkNest RX0 75 "DriftOrgan$Moment" "silts" "[I" "DriftOrgan" ∈ jGL := jmem 658 (by decide +kernel) rfl
theorem jw_662 : Cond.fieldLinkNest RX0 78 "DriftOrgan$Moment" "louds" "[I" "DriftOrgan" ∈ jGL := jmem 662 (by decide +kernel) rfl
theorem jw_678 : Cond.fieldLinkNest RX0 69 "DriftOrgan$Moment" "listeners" "I" "DriftOrgan" ∈ jGL := jmem 678 (by decide +kernel) rfl
theorem jw_240 : Cond.methodLink RX0 81 Lib.Math.min.name ∈ jGL := jmem 240 (by decide +kernel) rfl
theorem jw_241 : Cond.static Lib.Math.min.name ∈ jGL := jmem 241 (by decide +kernel) rfl
theorem jw_62 : Cond.initialized "java/lang/Math" ∈ jGL := jmem 62 (by decide +kernel) rfl
theorem jw_242 : Cond.code Lib.Math.min.name Lib.Math.min.code 2 (some .int) ∈ jGL := jmem 242 (by decide +kernel) rfl
theorem jw_243 : Cond.methodLink RX0 87 Lib.Math.max.name ∈ jGL := jmem 243 (by decide +kernel) rfl
theorem jw_244 : Cond.static Lib.Math.max.name ∈ jGL := jmem 244 (by decide +kernel) rfl
theorem jw_245 : Cond.code Lib.Math.max.name Lib.Math.max.code 2 (some .int) ∈ jGL := jmem 245 (by decide +kernel) rfl
theorem jw_562 : Cond.fieldLink RX3 47 "DriftOrgan$Organ" "caves" "I" ∈ jGL := jmem 562 (by decide +kernel) rfl
theorem jw_566 : Cond.fieldLink RX3 51 "DriftOrgan$Organ" "pipes" "I" ∈ jGL := jmem 566 (by decide +kernel) rfl
theorem jw_570 : Cond.fieldLink RX3 54 "DriftOrgan$Organ" "chords" "I" ∈ jGL := jmem 570 (by decide +kernel) rfl
theorem jw_554 : Cond.fieldLink RX3 36 "DriftOrgan$Organ" "weather" "LDriftOrgan$Weather;" ∈ jGL := jmem 554 (by decide +kernel) rfl
theorem jw_1191 : Cond.code yX8_begin cX8_begin 1 none ∈ jGL := jmem 1191 (by decide +kernel) rfl
theorem jw_52 : Cond.initialized RX8 ∈ jGL := jmem 52 (by decide +kernel) rfl
theorem jw_1188 : Cond.methodLink RX3 57 yX8_begin ∈ jGL := jmem 1188 (by decide +kernel) rfl
theorem jw_1189 : Cond.instanceMethod yX8_begin ∈ jGL := jmem 1189 (by decide +kernel) rfl
theorem jw_1190 : Cond.selects RX8 yX8_begin yX8_begin ∈ jGL := jmem 1190 (by decide +kernel) rfl
theorem jw_558 : Cond.fieldLink RX3 43 "DriftOrgan$Organ" "orders" "LDriftOrgan$Orders;" ∈ jGL := jmem 558 (by decide +kernel) rfl
theorem jw_1195 : Cond.code yX2_begin cX2_begin 1 none ∈ jGL := jmem 1195 (by decide +kernel) rfl
theorem jw_53 : Cond.initialized RX2 ∈ jGL := jmem 53 (by decide +kernel) rfl
theorem jw_1192 : Cond.methodLink RX3 60 yX2_begin ∈ jGL := jmem 1192 (by decide +kernel) rfl
theorem jw_1193 : Cond.instanceMethod yX2_begin ∈ jGL := jmem 1193 (by decide +kernel) rfl
theorem jw_1194 : Cond.selects RX2 yX2_begin yX2_begin ∈ jGL := jmem 1194 (by decide +kernel) rfl
theorem jw_538 : Cond.fieldLink RX3 9 "DriftOrgan$Organ" "mouths" "[I" ∈ jGL := jmem 538 (by decide +kernel) rfl
theorem jw_1246 : Cond.methodLinkNest RX3 61 yX9_put "DriftOrgan" ∈ jGL := jmem 1246 (by decide +kernel) rfl
theorem jw_541 : Cond.fieldLink RX3 15 "DriftOrgan$Organ" "deeps" "[I" ∈ jGL := jmem 541 (by decide +kernel) rfl
theorem jw_544 : Cond.fieldLink RX3 18 "DriftOrgan$Organ" "homes" "[I" ∈ jGL := jmem 544 (by decide +kernel) rfl
theorem jw_547 : Cond.fieldLink RX3 21 "DriftOrgan$Organ" "lengths" "[I" ∈ jGL := jmem 547 (by decide +kernel) rfl
theorem jw_549 : Cond.fieldLink RX3 24 "DriftOrgan$Organ" "reeds" "[I" ∈ jGL := jmem 549 (by decide +kernel) rfl
theorem jw_552 : Cond.fieldLink RX3 27 "DriftOrgan$Organ" "sizes" "[I" ∈ jGL := jmem 552 (by decide +kernel) rfl
theorem jw_175 : Cond.code yX3_sizeOf cX3_sizeOf 2 (some .int) ∈ jGL := jmem 175 (by decide +kernel) rfl
theorem jw_51 : Cond.initialized RX3 ∈ jGL := jmem 51 (by decide +kernel) rfl
theorem jw_172 : Cond.methodLink RX3 65 yX3_sizeOf ∈ jGL := jmem 172 (by decide +kernel) rfl
theorem jw_173 : Cond.instanceMethod yX3_sizeOf ∈ jGL := jmem 173 (by decide +kernel) rfl
theorem jw_174 : Cond.selects RX3 yX3_sizeOf yX3_sizeOf ∈ jGL := jmem 174 (by decide +kernel) rfl
theorem jw_553 : Cond.fieldLink RX3 30 "DriftOrgan$Organ" "notes" "[I" ∈ jGL := jmem 553 (by decide +kernel) rfl
theorem jw_176 : Cond.methodLinkNest RX3 69 yX9_at "DriftOrgan" ∈ jGL := jmem 176 (by decide +kernel) rfl
theorem jw_180 : Cond.code yX3_noteAt cX3_noteAt 3 (some .int) ∈ jGL := jmem 180 (by decide +kernel) rfl
theorem jw_177 : Cond.methodLink RX3 73 yX3_noteAt ∈ jGL := jmem 177 (by decide +kernel) rfl
theorem jw_178 : Cond.instanceMethod yX3_noteAt ∈ jGL := jmem 178 (by decide +kernel) rfl
theorem jw_179 : Cond.selects RX3 yX3_noteAt yX3_noteAt ∈ jGL := jmem 179 (by decide +kernel) rfl
theorem jw_181 : Cond.methodLink RX3 77 yX1_sounds ∈ jGL := jmem 181 (by decide +kernel) rfl
theorem jw_277 : Cond.methodLink RX3 83 Lib.Math.min.name ∈ jGL := jmem 277 (by decide +kernel) rfl
theorem jw_278 : Cond.methodLink RX3 88 Lib.Math.max.name ∈ jGL := jmem 278 (by decide +kernel) rfl
theorem jw_336 : Cond.code yX4_pressCaves cX4_pressCaves 7 none ∈ jGL := jmem 336 (by decide +kernel) rfl
theorem jw_54 : Cond.initialized RX4 ∈ jGL := jmem 54 (by decide +kernel) rfl
theorem jw_332 : Cond.methodLink RX4 18 yX4_pressCaves ∈ jGL := jmem 332 (by decide +kernel) rfl
theorem jw_334 : Cond.instanceMethod yX4_pressCaves ∈ jGL := jmem 334 (by decide +kernel) rfl
theorem jw_9 : Cond.selects RX4 yX4_pressCaves yX4_pressCaves ∈ jGL := jmem 9 (by decide +kernel) rfl
theorem jw_346 : Cond.code yX4_soundPipes cX4_soundPipes 6 none ∈ jGL := jmem 346 (by decide +kernel) rfl
theorem jw_343 : Cond.methodLink RX4 22 yX4_soundPipes ∈ jGL := jmem 343 (by decide +kernel) rfl
theorem jw_345 : Cond.instanceMethod yX4_soundPipes ∈ jGL := jmem 345 (by decide +kernel) rfl
theorem jw_10 : Cond.selects RX4 yX4_soundPipes yX4_soundPipes ∈ jGL := jmem 10 (by decide +kernel) rfl
theorem jw_353 : Cond.code yX4_siltPipes cX4_siltPipes 5 none ∈ jGL := jmem 353 (by decide +kernel) rfl
theorem jw_350 : Cond.methodLink RX4 25 yX4_siltPipes ∈ jGL := jmem 350 (by decide +kernel) rfl
theorem jw_352 : Cond.instanceMethod yX4_siltPipes ∈ jGL := jmem 352 (by decide +kernel) rfl
theorem jw_11 : Cond.selects RX4 yX4_siltPipes yX4_siltPipes ∈ jGL := jmem 11 (by decide +kernel) rfl
theorem jw_358 : Cond.code yX4_cleanByOrders cX4_cleanByOrders 5 none ∈ jGL := jmem 358 (by decide +kernel) rfl
theorem jw_355 : Cond.methodLink RX4 28 yX4_cleanByOrders ∈ jGL := jmem 355 (by decide +kernel) rfl
theorem jw_357 : Cond.instanceMethod yX4_cleanByOrders ∈ jGL := jmem 357 (by decide +kernel) rfl
theorem jw_12 : Cond.selects RX4 yX4_cleanByOrders yX4_cleanByOrders ∈ jGL := jmem 12 (by decide +kernel) rfl
theorem jw_362 : Cond.code yX4_soundChords cX4_soundChords 7 none ∈ jGL := jmem 362 (by decide +kernel) rfl
theorem jw_359 : Cond.methodLink RX4 31 yX4_soundChords ∈ jGL := jmem 359 (by decide +kernel) rfl
theorem jw_361 : Cond.instanceMethod yX4_soundChords ∈ jGL := jmem 361 (by decide +kernel) rfl
theorem jw_13 : Cond.selects RX4 yX4_soundChords yX4_soundChords ∈ jGL := jmem 13 (by decide +kernel) rfl
theorem jw_670 : Cond.fieldLinkNest RX4 34 "DriftOrgan$Moment" "hour" "I" "DriftOrgan" ∈ jGL := jmem 670 (by decide +kernel) rfl
theorem jw_555 : Cond.fieldLinkNest RX4 40 "DriftOrgan$Organ" "weather" "LDriftOrgan$Weather;" "DriftOrgan" ∈ jGL := jmem 555 (by decide +kernel) rfl
theorem jw_207 : Cond.code yX8_isStill cX8_isStill 8 (some .boolean) ∈ jGL := jmem 207 (by decide +kernel) rfl
theorem jw_204 : Cond.methodLink RX4 46 yX8_isStill ∈ jGL := jmem 204 (by decide +kernel) rfl
theorem jw_205 : Cond.instanceMethod yX8_isStill ∈ jGL := jmem 205 (by decide +kernel) rfl
theorem jw_206 : Cond.selects RX8 yX8_isStill yX8_isStill ∈ jGL := jmem 206 (by decide +kernel) rfl
theorem jw_559 : Cond.fieldLinkNest RX4 52 "DriftOrgan$Organ" "orders" "LDriftOrgan$Orders;" "DriftOrgan" ∈ jGL := jmem 559 (by decide +kernel) rfl
theorem jw_517 : Cond.fieldLinkNest RX4 56 "DriftOrgan$Orders" "told" "I" "DriftOrgan" ∈ jGL := jmem 517 (by decide +kernel) rfl
theorem jw_505 : Cond.fieldLinkNest RX4 61 "DriftOrgan$Orders" "sorts" "[I" "DriftOrgan" ∈ jGL := jmem 505 (by decide +kernel) rfl
theorem jw_209 : Cond.methodLinkNest RX4 65 yX9_at "DriftOrgan" ∈ jGL := jmem 209 (by decide +kernel) rfl
theorem jw_507 : Cond.fieldLinkNest RX4 69 "DriftOrgan$Orders" "targets" "[I" "DriftOrgan" ∈ jGL := jmem 507 (by decide +kernel) rfl
theorem jw_642 : Cond.fieldLink RX4 12 "DriftOrgan$Play" "judge" "LDriftOrgan$Judge;" ∈ jGL := jmem 642 (by decide +kernel) rfl
theorem jw_213 : Cond.code yX0_holds cX0_holds 9 (some .boolean) ∈ jGL := jmem 213 (by decide +kernel) rfl
theorem jw_210 : Cond.methodLink RX4 72 yX0_holds ∈ jGL := jmem 210 (by decide +kernel) rfl
theorem jw_211 : Cond.instanceMethod yX0_holds ∈ jGL := jmem 211 (by decide +kernel) rfl
theorem jw_212 : Cond.selects RX0 yX0_holds yX0_holds ∈ jGL := jmem 212 (by decide +kernel) rfl
theorem jw_674 : Cond.fieldLinkNest RX4 76 "DriftOrgan$Moment" "tide" "I" "DriftOrgan" ∈ jGL := jmem 674 (by decide +kernel) rfl
theorem jw_340 : Cond.code yX8_heightIn cX8_heightIn 7 (some .int) ∈ jGL := jmem 340 (by decide +kernel) rfl
theorem jw_337 : Cond.methodLink RX4 79 yX8_heightIn ∈ jGL := jmem 337 (by decide +kernel) rfl
theorem jw_338 : Cond.instanceMethod yX8_heightIn ∈ jGL := jmem 338 (by decide +kernel) rfl
theorem jw_339 : Cond.selects RX8 yX8_heightIn yX8_heightIn ∈ jGL := jmem 339 (by decide +kernel) rfl
theorem jw_563 : Cond.fieldLinkNest RX4 83 "DriftOrgan$Organ" "caves" "I" "DriftOrgan" ∈ jGL := jmem 563 (by decide +kernel) rfl
theorem jw_542 : Cond.fieldLinkNest RX4 86 "DriftOrgan$Organ" "deeps" "[I" "DriftOrgan" ∈ jGL := jmem 542 (by decide +kernel) rfl
theorem jw_203 : Cond.code yX4_isShut cX4_isShut 6 (some .boolean) ∈ jGL := jmem 203 (by decide +kernel) rfl
theorem jw_341 : Cond.methodLink RX4 89 yX4_isShut ∈ jGL := jmem 341 (by decide +kernel) rfl
theorem jw_201 : Cond.instanceMethod yX4_isShut ∈ jGL := jmem 201 (by decide +kernel) rfl
theorem jw_202 : Cond.selects RX4 yX4_isShut yX4_isShut ∈ jGL := jmem 202 (by decide +kernel) rfl
theorem jw_653 : Cond.fieldLinkNest RX4 93 "DriftOrgan$Moment" "pressures" "[I" "DriftOrgan" ∈ jGL := jmem 653 (by decide +kernel) rfl
theorem jw_342 : Cond.methodLinkNest RX4 96 yX9_put "DriftOrgan" ∈ jGL := jmem 342 (by decide +kernel) rfl
theorem jw_539 : Cond.fieldLinkNest RX4 100 "DriftOrgan$Organ" "mouths" "[I" "DriftOrgan" ∈ jGL := jmem 539 (by decide +kernel) rfl
theorem jw_567 : Cond.fieldLinkNest RX4 103 "DriftOrgan$Organ" "pipes" "I" "DriftOrgan" ∈ jGL := jmem 567 (by decide +kernel) rfl
theorem jw_545 : Cond.fieldLinkNest RX4 106 "DriftOrgan$Organ" "homes" "[I" "DriftOrgan" ∈ jGL := jmem 545 (by decide +kernel) rfl
theorem jw_657 : Cond.fieldLinkNest RX4 109 "DriftOrgan$Moment" "silts" "[I" "DriftOrgan" ∈ jGL := jmem 657 (by decide +kernel) rfl
theorem jw_262 : Cond.code yX3_needOf cX3_needOf 3 (some .int) ∈ jGL := jmem 262 (by decide +kernel) rfl
theorem jw_347 : Cond.methodLink RX4 112 yX3_needOf ∈ jGL := jmem 347 (by decide +kernel) rfl
theorem jw_260 : Cond.instanceMethod yX3_needOf ∈ jGL := jmem 260 (by decide +kernel) rfl
theorem jw_261 : Cond.selects RX3 yX3_needOf yX3_needOf ∈ jGL := jmem 261 (by decide +kernel) rfl
theorem jw_661 : Cond.fieldLinkNest RX4 115 "DriftOrgan$Moment" "louds" "[I" "DriftOrgan" ∈ jGL := jmem 661 (by decide +kernel) rfl
theorem jw_348 : Cond.methodLink RX4 118 Lib.Math.max.name ∈ jGL := jmem 348 (by decide +kernel) rfl
theorem jw_349 : Cond.methodLink RX4 123 yX1_sounds ∈ jGL := jmem 349 (by decide +kernel) rfl
theorem jw_665 : Cond.fieldLinkNest RX4 126 "DriftOrgan$Moment" "pipeHours" "[I" "DriftOrgan" ∈ jGL := jmem 665 (by decide +kernel) rfl
theorem jw_550 : Cond.fieldLinkNest RX4 129 "DriftOrgan$Organ" "reeds" "[I" "DriftOrgan" ∈ jGL := jmem 550 (by decide +kernel) rfl
theorem jw_354 : Cond.methodLink RX4 132 Lib.Math.min.name ∈ jGL := jmem 354 (by decide +kernel) rfl
theorem jw_363 : Cond.methodLink RX4 135 yX1_hourOfDay ∈ jGL := jmem 363 (by decide +kernel) rfl
theorem jw_571 : Cond.fieldLinkNest RX4 139 "DriftOrgan$Organ" "chords" "I" "DriftOrgan" ∈ jGL := jmem 571 (by decide +kernel) rfl
theorem jw_171 : Cond.code yX3_chordSounds cX3_chordSounds 5 (some .boolean) ∈ jGL := jmem 171 (by decide +kernel) rfl
theorem jw_364 : Cond.methodLink RX4 142 yX3_chordSounds ∈ jGL := jmem 364 (by decide +kernel) rfl
theorem jw_169 : Cond.instanceMethod yX3_chordSounds ∈ jGL := jmem 169 (by decide +kernel) rfl
theorem jw_170 : Cond.selects RX3 yX3_chordSounds yX3_chordSounds ∈ jGL := jmem 170 (by decide +kernel) rfl
theorem jw_365 : Cond.methodLink RX4 146 yX3_sizeOf ∈ jGL := jmem 365 (by decide +kernel) rfl
theorem jw_679 : Cond.fieldLinkNest RX4 150 "DriftOrgan$Moment" "listeners" "I" "DriftOrgan" ∈ jGL := jmem 679 (by decide +kernel) rfl
theorem jw_682 : Cond.fieldLinkNest RX4 153 "DriftOrgan$Moment" "complaints" "I" "DriftOrgan" ∈ jGL := jmem 682 (by decide +kernel) rfl
theorem jw_668 : Cond.fieldLinkNest RX4 156 "DriftOrgan$Moment" "chordHours" "[I" "DriftOrgan" ∈ jGL := jmem 668 (by decide +kernel) rfl
theorem jw_442 : Cond.fieldLink RX7 9 "DriftOrgan$Tokens" "kinds" "[I" ∈ jGL := jmem 442 (by decide +kernel) rfl
theorem jw_1104 : Cond.code yX7_behindBlanks cX7_behindBlanks 3 (some .int) ∈ jGL := jmem 1104 (by decide +kernel) rfl
theorem jw_49 : Cond.initialized RX7 ∈ jGL := jmem 49 (by decide +kernel) rfl
theorem jw_1103 : Cond.static yX7_behindBlanks ∈ jGL := jmem 1103 (by decide +kernel) rfl
theorem jw_1102 : Cond.methodLink RX7 22 yX7_behindBlanks ∈ jGL := jmem 1102 (by decide +kernel) rfl
theorem jw_1114 : Cond.code yX7_behindToken cX7_behindToken 5 (some .int) ∈ jGL := jmem 1114 (by decide +kernel) rfl
theorem jw_1113 : Cond.static yX7_behindToken ∈ jGL := jmem 1113 (by decide +kernel) rfl
theorem jw_1112 : Cond.methodLink RX7 26 yX7_behindToken ∈ jGL := jmem 1112 (by decide +kernel) rfl
theorem jw_1123 : Cond.code yX7_kindOf cX7_kindOf 5 (some .int) ∈ jGL := jmem 1123 (by decide +kernel) rfl
theorem jw_1122 : Cond.static yX7_kindOf ∈ jGL := jmem 1122 (by decide +kernel) rfl
theorem jw_1121 : Cond.methodLink RX7 29 yX7_kindOf ∈ jGL := jmem 1121 (by decide +kernel) rfl
theorem jw_443 : Cond.fieldLink RX7 15 "DriftOrgan$Tokens" "starts" "[I" ∈ jGL := jmem 443 (by decide +kernel) rfl
theorem jw_1176 : Cond.methodLinkNest RX7 33 yX9_put "DriftOrgan" ∈ jGL := jmem 1176 (by decide +kernel) rfl
theorem jw_444 : Cond.fieldLink RX7 18 "DriftOrgan$Tokens" "worths" "[J" ∈ jGL := jmem 444 (by decide +kernel) rfl
theorem jw_1179 : Cond.code yX7_worthOf cX7_worthOf 8 (some .long) ∈ jGL := jmem 1179 (by decide +kernel) rfl
theorem jw_1178 : Cond.static yX7_worthOf ∈ jGL := jmem 1178 (by decide +kernel) rfl
theorem jw_1177 : Cond.methodLink RX7 37 yX7_worthOf ∈ jGL := jmem 1177 (by decide +kernel) rfl
theorem jw_1382 : Cond.methodLinkNest RX7 41 yX9_at "DriftOrgan" ∈ jGL := jmem 1382 (by decide +kernel) rfl
theorem jw_1227 : Cond.code yX7_worthAt cX7_worthAt 2 (some .long) ∈ jGL := jmem 1227 (by decide +kernel) rfl
theorem jw_1241 : Cond.methodLink RX7 45 yX7_worthAt ∈ jGL := jmem 1241 (by decide +kernel) rfl
theorem jw_1225 : Cond.instanceMethod yX7_worthAt ∈ jGL := jmem 1225 (by decide +kernel) rfl
theorem jw_1226 : Cond.selects RX7 yX7_worthAt yX7_worthAt ∈ jGL := jmem 1226 (by decide +kernel) rfl
theorem jw_1108 : Cond.code yX6_byteAt cX6_byteAt 2 (some .int) ∈ jGL := jmem 1108 (by decide +kernel) rfl
theorem jw_48 : Cond.initialized RX6 ∈ jGL := jmem 48 (by decide +kernel) rfl
theorem jw_1105 : Cond.methodLink RX7 49 yX6_byteAt ∈ jGL := jmem 1105 (by decide +kernel) rfl
theorem jw_1106 : Cond.instanceMethod yX6_byteAt ∈ jGL := jmem 1106 (by decide +kernel) rfl
theorem jw_1107 : Cond.selects RX6 yX6_byteAt yX6_byteAt ∈ jGL := jmem 1107 (by decide +kernel) rfl
theorem jw_1111 : Cond.code yX7_isBlank cX7_isBlank 1 (some .boolean) ∈ jGL := jmem 1111 (by decide +kernel) rfl
theorem jw_1110 : Cond.static yX7_isBlank ∈ jGL := jmem 1110 (by decide +kernel) rfl
theorem jw_1109 : Cond.methodLink RX7 55 yX7_isBlank ∈ jGL := jmem 1109 (by decide +kernel) rfl
theorem jw_1117 : Cond.code yX7_isLetter cX7_isLetter 1 (some .boolean) ∈ jGL := jmem 1117 (by decide +kernel) rfl
theorem jw_1116 : Cond.static yX7_isLetter ∈ jGL := jmem 1116 (by decide +kernel) rfl
theorem jw_1115 : Cond.methodLink RX7 59 yX7_isLetter ∈ jGL := jmem 1115 (by decide +kernel) rfl
theorem jw_1120 : Cond.code yX7_isDigit cX7_isDigit 1 (some .boolean) ∈ jGL := jmem 1120 (by decide +kernel) rfl
theorem jw_1119 : Cond.static yX7_isDigit ∈ jGL := jmem 1119 (by decide +kernel) rfl
theorem jw_1118 : Cond.methodLink RX7 62 yX7_isDigit ∈ jGL := jmem 1118 (by decide +kernel) rfl
theorem jw_1126 : Cond.code yX7_wordKind cX7_wordKind 8 (some .int) ∈ jGL := jmem 1126 (by decide +kernel) rfl
theorem jw_1125 : Cond.static yX7_wordKind ∈ jGL := jmem 1125 (by decide +kernel) rfl
theorem jw_1124 : Cond.methodLink RX7 65 yX7_wordKind ∈ jGL := jmem 1124 (by decide +kernel) rfl
theorem jw_705 : Cond.fieldLink RX9 10 "DriftOrgan" "tape" "LDriftOrgan$Tape;" ∈ jGL := jmem 705 (by decide +kernel) rfl
theorem jw_1064 : Cond.code yX6_hasRoomFor cX6_hasRoomFor 2 (some .boolean) ∈ jGL := jmem 1064 (by decide +kernel) rfl
theorem jw_1061 : Cond.methodLink RX9 60 yX6_hasRoomFor ∈ jGL := jmem 1061 (by decide +kernel) rfl
theorem jw_1062 : Cond.instanceMethod yX6_hasRoomFor ∈ jGL := jmem 1062 (by decide +kernel) rfl
theorem jw_1063 : Cond.selects RX6 yX6_hasRoomFor yX6_hasRoomFor ∈ jGL := jmem 1063 (by decide +kernel) rfl
theorem jw_1084 : Cond.code yX6_append cX6_append 3 none ∈ jGL := jmem 1084 (by decide +kernel) rfl
theorem jw_1081 : Cond.methodLink RX9 71 yX6_append ∈ jGL := jmem 1081 (by decide +kernel) rfl
theorem jw_1082 : Cond.instanceMethod yX6_append ∈ jGL := jmem 1082 (by decide +kernel) rfl
theorem jw_1083 : Cond.selects RX6 yX6_append yX6_append ∈ jGL := jmem 1083 (by decide +kernel) rfl
theorem jw_430 : Cond.fieldLinkNest RX9 75 "DriftOrgan$Tape" "length" "I" "DriftOrgan" ∈ jGL := jmem 430 (by decide +kernel) rfl
theorem jw_1093 : Cond.code yX6_shorten cX6_shorten 2 none ∈ jGL := jmem 1093 (by decide +kernel) rfl
theorem jw_1090 : Cond.methodLink RX9 83 yX6_shorten ∈ jGL := jmem 1090 (by decide +kernel) rfl
theorem jw_1091 : Cond.instanceMethod yX6_shorten ∈ jGL := jmem 1091 (by decide +kernel) rfl
theorem jw_1092 : Cond.selects RX6 yX6_shorten yX6_shorten ∈ jGL := jmem 1092 (by decide +kernel) rfl
theorem jw_706 : Cond.fieldLink RX9 19 "DriftOrgan" "tokens" "LDriftOrgan$Tokens;" ∈ jGL := jmem 706 (by decide +kernel) rfl
theorem jw_1101 : Cond.code yX7_scan cX7_scan 6 none ∈ jGL := jmem 1101 (by decide +kernel) rfl
theorem jw_1098 : Cond.methodLink RX9 86 yX7_scan ∈ jGL := jmem 1098 (by decide +kernel) rfl
theorem jw_1099 : Cond.instanceMethod yX7_scan ∈ jGL := jmem 1099 (by decide +kernel) rfl
theorem jw_1100 : Cond.selects RX7 yX7_scan yX7_scan ∈ jGL := jmem 1100 (by decide +kernel) rfl
theorem jw_707 : Cond.fieldLink RX9 28 "DriftOrgan" "reader" "LDriftOrgan$Reader;" ∈ jGL := jmem 707 (by decide +kernel) rfl
theorem jw_1183 : Cond.code yX5_read cX5_read 3 (some .int) ∈ jGL := jmem 1183 (by decide +kernel) rfl
theorem jw_50 : Cond.initialized RX5 ∈ jGL := jmem 50 (by decide +kernel) rfl
theorem jw_1180 : Cond.methodLink RX9 90 yX5_read ∈ jGL := jmem 1180 (by decide +kernel) rfl
theorem jw_1181 : Cond.instanceMethod yX5_read ∈ jGL := jmem 1181 (by decide +kernel) rfl
theorem jw_1182 : Cond.selects RX5 yX5_read yX5_read ∈ jGL := jmem 1182 (by decide +kernel) rfl
theorem jw_712 : Cond.fieldLink RX9 56 "DriftOrgan" "faultAt" "I" ∈ jGL := jmem 712 (by decide +kernel) rfl
theorem jw_711 : Cond.fieldLink RX9 52 "DriftOrgan" "organ" "LDriftOrgan$Organ;" ∈ jGL := jmem 711 (by decide +kernel) rfl
theorem jw_1386 : Cond.code yX5_exchange cX5_exchange 3 (some (.object "DriftOrgan$Organ")) ∈ jGL := jmem 1386 (by decide +kernel) rfl
theorem jw_1383 : Cond.methodLink RX9 101 yX5_exchange ∈ jGL := jmem 1383 (by decide +kernel) rfl
theorem jw_1384 : Cond.instanceMethod yX5_exchange ∈ jGL := jmem 1384 (by decide +kernel) rfl
theorem jw_1385 : Cond.selects RX5 yX5_exchange yX5_exchange ∈ jGL := jmem 1385 (by decide +kernel) rfl
theorem jw_607 : Cond.fieldLinkNest RX9 94 "DriftOrgan$Reader" "faultToken" "I" "DriftOrgan" ∈ jGL := jmem 607 (by decide +kernel) rfl
theorem jw_1381 : Cond.code yX7_startOf cX7_startOf 2 (some .int) ∈ jGL := jmem 1381 (by decide +kernel) rfl
theorem jw_1378 : Cond.methodLink RX9 97 yX7_startOf ∈ jGL := jmem 1378 (by decide +kernel) rfl
theorem jw_1379 : Cond.instanceMethod yX7_startOf ∈ jGL := jmem 1379 (by decide +kernel) rfl
theorem jw_1380 : Cond.selects RX7 yX7_startOf yX7_startOf ∈ jGL := jmem 1380 (by decide +kernel) rfl
theorem jw_709 : Cond.fieldLink RX9 42 "DriftOrgan" "now" "LDriftOrgan$Moment;" ∈ jGL := jmem 709 (by decide +kernel) rfl
theorem jw_1390 : Cond.code yX1_begin cX1_begin 1 none ∈ jGL := jmem 1390 (by decide +kernel) rfl
theorem jw_1387 : Cond.methodLink RX9 105 yX1_begin ∈ jGL := jmem 1387 (by decide +kernel) rfl
theorem jw_1388 : Cond.instanceMethod yX1_begin ∈ jGL := jmem 1388 (by decide +kernel) rfl
theorem jw_1389 : Cond.selects RX1 yX1_begin yX1_begin ∈ jGL := jmem 1389 (by decide +kernel) rfl
theorem jw_152 : Cond.code yX9_countFact cX9_countFact 2 (some .int) ∈ jGL := jmem 152 (by decide +kernel) rfl
theorem jw_148 : Cond.methodLink RX9 113 yX9_countFact ∈ jGL := jmem 148 (by decide +kernel) rfl
theorem jw_150 : Cond.instanceMethod yX9_countFact ∈ jGL := jmem 150 (by decide +kernel) rfl
theorem jw_1 : Cond.selects RX9 yX9_countFact yX9_countFact ∈ jGL := jmem 1 (by decide +kernel) rfl
theorem jw_564 : Cond.fieldLinkNest RX9 116 "DriftOrgan$Organ" "caves" "I" "DriftOrgan" ∈ jGL := jmem 564 (by decide +kernel) rfl
theorem jw_194 : Cond.code yX9_caveFact cX9_caveFact 3 (some .int) ∈ jGL := jmem 194 (by decide +kernel) rfl
theorem jw_191 : Cond.methodLink RX9 121 yX9_caveFact ∈ jGL := jmem 191 (by decide +kernel) rfl
theorem jw_193 : Cond.instanceMethod yX9_caveFact ∈ jGL := jmem 193 (by decide +kernel) rfl
theorem jw_3 : Cond.selects RX9 yX9_caveFact yX9_caveFact ∈ jGL := jmem 3 (by decide +kernel) rfl
theorem jw_253 : Cond.code yX9_isNoPipe cX9_isNoPipe 2 (some .boolean) ∈ jGL := jmem 253 (by decide +kernel) rfl
theorem jw_250 : Cond.methodLink RX9 125 yX9_isNoPipe ∈ jGL := jmem 250 (by decide +kernel) rfl
theorem jw_252 : Cond.instanceMethod yX9_isNoPipe ∈ jGL := jmem 252 (by decide +kernel) rfl
theorem jw_6 : Cond.selects RX9 yX9_isNoPipe yX9_isNoPipe ∈ jGL := jmem 6 (by decide +kernel) rfl
theorem jw_258 : Cond.code yX9_pipeFact cX9_pipeFact 3 (some .int) ∈ jGL := jmem 258 (by decide +kernel) rfl
theorem jw_255 : Cond.methodLink RX9 130 yX9_pipeFact ∈ jGL := jmem 255 (by decide +kernel) rfl
theorem jw_257 : Cond.instanceMethod yX9_pipeFact ∈ jGL := jmem 257 (by decide +kernel) rfl
theorem jw_7 : Cond.selects RX9 yX9_pipeFact yX9_pipeFact ∈ jGL := jmem 7 (by decide +kernel) rfl
theorem jw_572 : Cond.fieldLinkNest RX9 133 "DriftOrgan$Organ" "chords" "I" "DriftOrgan" ∈ jGL := jmem 572 (by decide +kernel) rfl
theorem jw_271 : Cond.code yX9_chordFact cX9_chordFact 3 (some .int) ∈ jGL := jmem 271 (by decide +kernel) rfl
theorem jw_268 : Cond.methodLink RX9 138 yX9_chordFact ∈ jGL := jmem 268 (by decide +kernel) rfl
theorem jw_270 : Cond.instanceMethod yX9_chordFact ∈ jGL := jmem 270 (by decide +kernel) rfl
theorem jw_8 : Cond.selects RX9 yX9_chordFact yX9_chordFact ∈ jGL := jmem 8 (by decide +kernel) rfl
theorem jw_272 : Cond.methodLink RX9 141 yX3_sizeOf ∈ jGL := jmem 272 (by decide +kernel) rfl
theorem jw_284 : Cond.methodLink RX9 146 yX3_noteAt ∈ jGL := jmem 284 (by decide +kernel) rfl
theorem jw_548 : Cond.fieldLinkNest RX9 151 "DriftOrgan$Organ" "lengths" "[I" "DriftOrgan" ∈ jGL := jmem 548 (by decide +kernel) rfl
theorem jw_195 : Cond.methodLink RX9 155 yX9_at ∈ jGL := jmem 195 (by decide +kernel) rfl
theorem jw_292 : Cond.code yX9_stepsBetween cX9_stepsBetween 5 (some .int) ∈ jGL := jmem 292 (by decide +kernel) rfl
theorem jw_291 : Cond.static yX9_stepsBetween ∈ jGL := jmem 291 (by decide +kernel) rfl
theorem jw_290 : Cond.methodLink RX9 159 yX9_stepsBetween ∈ jGL := jmem 290 (by decide +kernel) rfl
theorem jw_676 : Cond.fieldLinkNest RX9 168 "DriftOrgan$Moment" "tide" "I" "DriftOrgan" ∈ jGL := jmem 676 (by decide +kernel) rfl
theorem jw_659 : Cond.fieldLinkNest RX9 181 "DriftOrgan$Moment" "silts" "[I" "DriftOrgan" ∈ jGL := jmem 659 (by decide +kernel) rfl
theorem jw_317 : Cond.methodLink RX9 184 yX9_put ∈ jGL := jmem 317 (by decide +kernel) rfl
theorem jw_680 : Cond.fieldLinkNest RX9 192 "DriftOrgan$Moment" "listeners" "I" "DriftOrgan" ∈ jGL := jmem 680 (by decide +kernel) rfl
theorem jw_708 : Cond.fieldLink RX9 35 "DriftOrgan" "play" "LDriftOrgan$Play;" ∈ jGL := jmem 708 (by decide +kernel) rfl
theorem jw_331 : Cond.code yX4_run cX4_run 5 none ∈ jGL := jmem 331 (by decide +kernel) rfl
theorem jw_328 : Cond.methodLink RX9 195 yX4_run ∈ jGL := jmem 328 (by decide +kernel) rfl
theorem jw_329 : Cond.instanceMethod yX4_run ∈ jGL := jmem 329 (by decide +kernel) rfl
theorem jw_330 : Cond.selects RX4 yX4_run yX4_run ∈ jGL := jmem 330 (by decide +kernel) rfl
theorem jw_710 : Cond.fieldLink RX9 46 "DriftOrgan" "trial" "LDriftOrgan$Moment;" ∈ jGL := jmem 710 (by decide +kernel) rfl
theorem jw_373 : Cond.code yX1_become cX1_become 2 none ∈ jGL := jmem 373 (by decide +kernel) rfl
theorem jw_370 : Cond.methodLink RX9 199 yX1_become ∈ jGL := jmem 370 (by decide +kernel) rfl
theorem jw_371 : Cond.instanceMethod yX1_become ∈ jGL := jmem 371 (by decide +kernel) rfl
theorem jw_372 : Cond.selects RX1 yX1_become yX1_become ∈ jGL := jmem 372 (by decide +kernel) rfl
theorem jw_377 : Cond.methodLink RX9 203 yX1_sounds ∈ jGL := jmem 377 (by decide +kernel) rfl
theorem jw_569 : Cond.fieldLinkNest RX9 211 "DriftOrgan$Organ" "pipes" "I" "DriftOrgan" ∈ jGL := jmem 569 (by decide +kernel) rfl
theorem jw_185 : Cond.code yX1_siltIn cX1_siltIn 4 (some .int) ∈ jGL := jmem 185 (by decide +kernel) rfl
theorem jw_182 : Cond.methodLink RX9 217 yX1_siltIn ∈ jGL := jmem 182 (by decide +kernel) rfl
theorem jw_183 : Cond.instanceMethod yX1_siltIn ∈ jGL := jmem 183 (by decide +kernel) rfl
theorem jw_184 : Cond.selects RX1 yX1_siltIn yX1_siltIn ∈ jGL := jmem 184 (by decide +kernel) rfl
theorem jw_683 : Cond.fieldLinkNest RX9 208 "DriftOrgan$Moment" "complaints" "I" "DriftOrgan" ∈ jGL := jmem 683 (by decide +kernel) rfl
theorem jw_156 : Cond.code yX1_pipesSounding cX1_pipesSounding 4 (some .int) ∈ jGL := jmem 156 (by decide +kernel) rfl
theorem jw_153 : Cond.methodLink RX9 214 yX1_pipesSounding ∈ jGL := jmem 153 (by decide +kernel) rfl
theorem jw_154 : Cond.instanceMethod yX1_pipesSounding ∈ jGL := jmem 154 (by decide +kernel) rfl
theorem jw_155 : Cond.selects RX1 yX1_pipesSounding yX1_pipesSounding ∈ jGL := jmem 155 (by decide +kernel) rfl
theorem jw_390 : Cond.code yX9_gainByTide cX9_gainByTide 3 (some .int) ∈ jGL := jmem 390 (by decide +kernel) rfl
theorem jw_387 : Cond.methodLink RX9 220 yX9_gainByTide ∈ jGL := jmem 387 (by decide +kernel) rfl
theorem jw_389 : Cond.instanceMethod yX9_gainByTide ∈ jGL := jmem 389 (by decide +kernel) rfl
theorem jw_14 : Cond.selects RX9 yX9_gainByTide yX9_gainByTide ∈ jGL := jmem 14 (by decide +kernel) rfl
theorem jw_399 : Cond.constantLong RX9 226 827 ∈ jGL := jmem 399 (by decide +kernel) rfl
theorem jw_400 : Cond.constantLong RX9 228 31 ∈ jGL := jmem 400 (by decide +kernel) rfl
theorem jw_404 : Cond.code yX9_digestChord cX9_digestChord 8 (some .long) ∈ jGL := jmem 404 (by decide +kernel) rfl
theorem jw_401 : Cond.methodLink RX9 230 yX9_digestChord ∈ jGL := jmem 401 (by decide +kernel) rfl
theorem jw_403 : Cond.instanceMethod yX9_digestChord ∈ jGL := jmem 403 (by decide +kernel) rfl
theorem jw_15 : Cond.selects RX9 yX9_digestChord yX9_digestChord ∈ jGL := jmem 15 (by decide +kernel) rfl
theorem jw_557 : Cond.fieldLinkNest RX9 164 "DriftOrgan$Organ" "weather" "LDriftOrgan$Weather;" "DriftOrgan" ∈ jGL := jmem 557 (by decide +kernel) rfl
theorem jw_672 : Cond.fieldLinkNest RX9 234 "DriftOrgan$Moment" "hour" "I" "DriftOrgan" ∈ jGL := jmem 672 (by decide +kernel) rfl
theorem jw_405 : Cond.methodLink RX9 171 yX8_heightIn ∈ jGL := jmem 405 (by decide +kernel) rfl
theorem jw_479 : Cond.fieldLinkNest RX9 237 "DriftOrgan$Weather" "swells" "I" "DriftOrgan" ∈ jGL := jmem 479 (by decide +kernel) rfl
theorem jw_482 : Cond.fieldLinkNest RX9 240 "DriftOrgan$Weather" "silences" "I" "DriftOrgan" ∈ jGL := jmem 482 (by decide +kernel) rfl
theorem jw_561 : Cond.fieldLinkNest RX9 243 "DriftOrgan$Organ" "orders" "LDriftOrgan$Orders;" "DriftOrgan" ∈ jGL := jmem 561 (by decide +kernel) rfl
theorem jw_519 : Cond.fieldLinkNest RX9 247 "DriftOrgan$Orders" "told" "I" "DriftOrgan" ∈ jGL := jmem 519 (by decide +kernel) rfl
theorem jw_167 : Cond.code yX9_chordsSounding cX9_chordsSounding 3 (some .int) ∈ jGL := jmem 167 (by decide +kernel) rfl
theorem jw_164 : Cond.methodLink RX9 252 yX9_chordsSounding ∈ jGL := jmem 164 (by decide +kernel) rfl
theorem jw_166 : Cond.instanceMethod yX9_chordsSounding ∈ jGL := jmem 166 (by decide +kernel) rfl
theorem jw_2 : Cond.selects RX9 yX9_chordsSounding yX9_chordsSounding ∈ jGL := jmem 2 (by decide +kernel) rfl
theorem jw_200 : Cond.methodLink RX9 267 yX4_isShut ∈ jGL := jmem 200 (by decide +kernel) rfl
theorem jw_540 : Cond.fieldLinkNest RX9 255 "DriftOrgan$Organ" "mouths" "[I" "DriftOrgan" ∈ jGL := jmem 540 (by decide +kernel) rfl
theorem jw_543 : Cond.fieldLinkNest RX9 258 "DriftOrgan$Organ" "deeps" "[I" "DriftOrgan" ∈ jGL := jmem 543 (by decide +kernel) rfl
theorem jw_655 : Cond.fieldLinkNest RX9 261 "DriftOrgan$Moment" "pressures" "[I" "DriftOrgan" ∈ jGL := jmem 655 (by decide +kernel) rfl
theorem jw_199 : Cond.code yX3_pipesIn cX3_pipesIn 4 (some .int) ∈ jGL := jmem 199 (by decide +kernel) rfl
theorem jw_196 : Cond.methodLink RX9 264 yX3_pipesIn ∈ jGL := jmem 196 (by decide +kernel) rfl
theorem jw_197 : Cond.instanceMethod yX3_pipesIn ∈ jGL := jmem 197 (by decide +kernel) rfl
theorem jw_198 : Cond.selects RX3 yX3_pipesIn yX3_pipesIn ∈ jGL := jmem 198 (by decide +kernel) rfl
theorem jw_666 : Cond.fieldLinkNest RX9 280 "DriftOrgan$Moment" "pipeHours" "[I" "DriftOrgan" ∈ jGL := jmem 666 (by decide +kernel) rfl
theorem jw_546 : Cond.fieldLinkNest RX9 271 "DriftOrgan$Organ" "homes" "[I" "DriftOrgan" ∈ jGL := jmem 546 (by decide +kernel) rfl
theorem jw_551 : Cond.fieldLinkNest RX9 274 "DriftOrgan$Organ" "reeds" "[I" "DriftOrgan" ∈ jGL := jmem 551 (by decide +kernel) rfl
theorem jw_663 : Cond.fieldLinkNest RX9 223 "DriftOrgan$Moment" "louds" "[I" "DriftOrgan" ∈ jGL := jmem 663 (by decide +kernel) rfl
theorem jw_259 : Cond.methodLink RX9 277 yX3_needOf ∈ jGL := jmem 259 (by decide +kernel) rfl
theorem jw_669 : Cond.fieldLinkNest RX9 290 "DriftOrgan$Moment" "chordHours" "[I" "DriftOrgan" ∈ jGL := jmem 669 (by decide +kernel) rfl
theorem jw_168 : Cond.methodLink RX9 283 yX3_chordSounds ∈ jGL := jmem 168 (by decide +kernel) rfl
theorem jw_276 : Cond.code yX3_spanOf cX3_spanOf 7 (some .int) ∈ jGL := jmem 276 (by decide +kernel) rfl
theorem jw_273 : Cond.methodLink RX9 287 yX3_spanOf ∈ jGL := jmem 273 (by decide +kernel) rfl
theorem jw_274 : Cond.instanceMethod yX3_spanOf ∈ jGL := jmem 274 (by decide +kernel) rfl
theorem jw_275 : Cond.selects RX3 yX3_spanOf yX3_spanOf ∈ jGL := jmem 275 (by decide +kernel) rfl
theorem jw_603 : Cond.fieldLink RX5 24 "DriftOrgan$Reader" "draft" "LDriftOrgan$Organ;" ∈ jGL := jmem 603 (by decide +kernel) rfl
theorem jw_1187 : Cond.code yX3_begin cX3_begin 1 none ∈ jGL := jmem 1187 (by decide +kernel) rfl
theorem jw_1184 : Cond.methodLink RX5 32 yX3_begin ∈ jGL := jmem 1184 (by decide +kernel) rfl
theorem jw_1185 : Cond.instanceMethod yX3_begin ∈ jGL := jmem 1185 (by decide +kernel) rfl
theorem jw_1186 : Cond.selects RX3 yX3_begin yX3_begin ∈ jGL := jmem 1186 (by decide +kernel) rfl
theorem jw_604 : Cond.fieldLink RX5 35 "DriftOrgan$Reader" "next" "I" ∈ jGL := jmem 604 (by decide +kernel) rfl
theorem jw_605 : Cond.fieldLink RX5 39 "DriftOrgan$Reader" "fault" "I" ∈ jGL := jmem 605 (by decide +kernel) rfl
theorem jw_606 : Cond.fieldLink RX5 54 "DriftOrgan$Reader" "faultToken" "I" ∈ jGL := jmem 606 (by decide +kernel) rfl
theorem jw_1199 : Cond.code yX5_kind cX5_kind 1 (some .int) ∈ jGL := jmem 1199 (by decide +kernel) rfl
theorem jw_1196 : Cond.methodLink RX5 42 yX5_kind ∈ jGL := jmem 1196 (by decide +kernel) rfl
theorem jw_1198 : Cond.instanceMethod yX5_kind ∈ jGL := jmem 1198 (by decide +kernel) rfl
theorem jw_16 : Cond.selects RX5 yX5_kind yX5_kind ∈ jGL := jmem 16 (by decide +kernel) rfl
theorem jw_1207 : Cond.code yX5_line cX5_line 1 (some .boolean) ∈ jGL := jmem 1207 (by decide +kernel) rfl
theorem jw_1204 : Cond.methodLink RX5 46 yX5_line ∈ jGL := jmem 1204 (by decide +kernel) rfl
theorem jw_1206 : Cond.instanceMethod yX5_line ∈ jGL := jmem 1206 (by decide +kernel) rfl
theorem jw_17 : Cond.selects RX5 yX5_line yX5_line ∈ jGL := jmem 17 (by decide +kernel) rfl
theorem jw_1215 : Cond.code yX5_take cX5_take 2 (some .boolean) ∈ jGL := jmem 1215 (by decide +kernel) rfl
theorem jw_1212 : Cond.methodLink RX5 50 yX5_take ∈ jGL := jmem 1212 (by decide +kernel) rfl
theorem jw_1214 : Cond.instanceMethod yX5_take ∈ jGL := jmem 1214 (by decide +kernel) rfl
theorem jw_19 : Cond.selects RX5 yX5_take yX5_take ∈ jGL := jmem 19 (by decide +kernel) rfl
theorem jw_599 : Cond.fieldLink RX5 28 "DriftOrgan$Reader" "tokens" "LDriftOrgan$Tokens;" ∈ jGL := jmem 599 (by decide +kernel) rfl
theorem jw_1203 : Cond.code yX7_kindAt cX7_kindAt 2 (some .int) ∈ jGL := jmem 1203 (by decide +kernel) rfl
theorem jw_1200 : Cond.methodLink RX5 57 yX7_kindAt ∈ jGL := jmem 1200 (by decide +kernel) rfl
theorem jw_1201 : Cond.instanceMethod yX7_kindAt ∈ jGL := jmem 1201 (by decide +kernel) rfl
theorem jw_1202 : Cond.selects RX7 yX7_kindAt yX7_kindAt ∈ jGL := jmem 1202 (by decide +kernel) rfl
theorem jw_1211 : Cond.code yX5_caveLine cX5_caveLine 2 (some .boolean) ∈ jGL := jmem 1211 (by decide +kernel) rfl
theorem jw_1208 : Cond.methodLink RX5 63 yX5_caveLine ∈ jGL := jmem 1208 (by decide +kernel) rfl
theorem jw_1210 : Cond.instanceMethod yX5_caveLine ∈ jGL := jmem 1210 (by decide +kernel) rfl
theorem jw_18 : Cond.selects RX5 yX5_caveLine yX5_caveLine ∈ jGL := jmem 18 (by decide +kernel) rfl
theorem jw_1250 : Cond.code yX5_pipeLine cX5_pipeLine 3 (some .boolean) ∈ jGL := jmem 1250 (by decide +kernel) rfl
theorem jw_1247 : Cond.methodLink RX5 66 yX5_pipeLine ∈ jGL := jmem 1247 (by decide +kernel) rfl
theorem jw_1249 : Cond.instanceMethod yX5_pipeLine ∈ jGL := jmem 1249 (by decide +kernel) rfl
theorem jw_24 : Cond.selects RX5 yX5_pipeLine yX5_pipeLine ∈ jGL := jmem 24 (by decide +kernel) rfl
theorem jw_1262 : Cond.code yX5_swellLine cX5_swellLine 2 (some .boolean) ∈ jGL := jmem 1262 (by decide +kernel) rfl
theorem jw_1259 : Cond.methodLink RX5 69 yX5_swellLine ∈ jGL := jmem 1259 (by decide +kernel) rfl
theorem jw_1261 : Cond.instanceMethod yX5_swellLine ∈ jGL := jmem 1261 (by decide +kernel) rfl
theorem jw_26 : Cond.selects RX5 yX5_swellLine yX5_swellLine ∈ jGL := jmem 26 (by decide +kernel) rfl
theorem jw_1271 : Cond.code yX5_silenceLine cX5_silenceLine 2 (some .boolean) ∈ jGL := jmem 1271 (by decide +kernel) rfl
theorem jw_1268 : Cond.methodLink RX5 72 yX5_silenceLine ∈ jGL := jmem 1268 (by decide +kernel) rfl
theorem jw_1270 : Cond.instanceMethod yX5_silenceLine ∈ jGL := jmem 1270 (by decide +kernel) rfl
theorem jw_27 : Cond.selects RX5 yX5_silenceLine yX5_silenceLine ∈ jGL := jmem 27 (by decide +kernel) rfl
theorem jw_1279 : Cond.code yX5_chordLine cX5_chordLine 2 (some .boolean) ∈ jGL := jmem 1279 (by decide +kernel) rfl
theorem jw_1276 : Cond.methodLink RX5 75 yX5_chordLine ∈ jGL := jmem 1276 (by decide +kernel) rfl
theorem jw_1278 : Cond.instanceMethod yX5_chordLine ∈ jGL := jmem 1278 (by decide +kernel) rfl
theorem jw_28 : Cond.selects RX5 yX5_chordLine yX5_chordLine ∈ jGL := jmem 28 (by decide +kernel) rfl
theorem jw_1304 : Cond.code yX5_shutLine cX5_shutLine 2 (some .boolean) ∈ jGL := jmem 1304 (by decide +kernel) rfl
theorem jw_1301 : Cond.methodLink RX5 78 yX5_shutLine ∈ jGL := jmem 1301 (by decide +kernel) rfl
theorem jw_1303 : Cond.instanceMethod yX5_shutLine ∈ jGL := jmem 1303 (by decide +kernel) rfl
theorem jw_30 : Cond.selects RX5 yX5_shutLine yX5_shutLine ∈ jGL := jmem 30 (by decide +kernel) rfl
theorem jw_1377 : Cond.code yX5_cleanLine cX5_cleanLine 2 (some .boolean) ∈ jGL := jmem 1377 (by decide +kernel) rfl
theorem jw_1374 : Cond.methodLink RX5 81 yX5_cleanLine ∈ jGL := jmem 1374 (by decide +kernel) rfl
theorem jw_1376 : Cond.instanceMethod yX5_cleanLine ∈ jGL := jmem 1376 (by decide +kernel) rfl
theorem jw_45 : Cond.selects RX5 yX5_cleanLine yX5_cleanLine ∈ jGL := jmem 45 (by decide +kernel) rfl
theorem jw_600 : Cond.fieldLink RX5 9 "DriftOrgan$Reader" "caveNames" "[I" ∈ jGL := jmem 600 (by decide +kernel) rfl
theorem jw_565 : Cond.fieldLinkNest RX5 84 "DriftOrgan$Organ" "caves" "I" "DriftOrgan" ∈ jGL := jmem 565 (by decide +kernel) rfl
theorem jw_1219 : Cond.code yX5_newName cX5_newName 3 (some .boolean) ∈ jGL := jmem 1219 (by decide +kernel) rfl
theorem jw_1216 : Cond.methodLink RX5 87 yX5_newName ∈ jGL := jmem 1216 (by decide +kernel) rfl
theorem jw_1218 : Cond.instanceMethod yX5_newName ∈ jGL := jmem 1218 (by decide +kernel) rfl
theorem jw_20 : Cond.selects RX5 yX5_newName yX5_newName ∈ jGL := jmem 20 (by decide +kernel) rfl
theorem jw_1236 : Cond.code yX5_numberIn cX5_numberIn 4 (some .boolean) ∈ jGL := jmem 1236 (by decide +kernel) rfl
theorem jw_1233 : Cond.methodLink RX5 91 yX5_numberIn ∈ jGL := jmem 1233 (by decide +kernel) rfl
theorem jw_1235 : Cond.instanceMethod yX5_numberIn ∈ jGL := jmem 1235 (by decide +kernel) rfl
theorem jw_23 : Cond.selects RX5 yX5_numberIn yX5_numberIn ∈ jGL := jmem 23 (by decide +kernel) rfl
theorem jw_1240 : Cond.code yX7_numberAt cX7_numberAt 2 (some .int) ∈ jGL := jmem 1240 (by decide +kernel) rfl
theorem jw_1237 : Cond.methodLink RX5 95 yX7_numberAt ∈ jGL := jmem 1237 (by decide +kernel) rfl
theorem jw_1238 : Cond.instanceMethod yX7_numberAt ∈ jGL := jmem 1238 (by decide +kernel) rfl
theorem jw_1239 : Cond.selects RX7 yX7_numberAt yX7_numberAt ∈ jGL := jmem 1239 (by decide +kernel) rfl
theorem jw_1245 : Cond.code yX3_addCave cX3_addCave 3 none ∈ jGL := jmem 1245 (by decide +kernel) rfl
theorem jw_1242 : Cond.methodLink RX5 98 yX3_addCave ∈ jGL := jmem 1242 (by decide +kernel) rfl
theorem jw_1243 : Cond.instanceMethod yX3_addCave ∈ jGL := jmem 1243 (by decide +kernel) rfl
theorem jw_1244 : Cond.selects RX3 yX3_addCave yX3_addCave ∈ jGL := jmem 1244 (by decide +kernel) rfl
theorem jw_601 : Cond.fieldLink RX5 15 "DriftOrgan$Reader" "pipeNames" "[I" ∈ jGL := jmem 601 (by decide +kernel) rfl
theorem jw_568 : Cond.fieldLinkNest RX5 102 "DriftOrgan$Organ" "pipes" "I" "DriftOrgan" ∈ jGL := jmem 568 (by decide +kernel) rfl
theorem jw_1254 : Cond.code yX5_knownName cX5_knownName 3 (some .boolean) ∈ jGL := jmem 1254 (by decide +kernel) rfl
theorem jw_1251 : Cond.methodLink RX5 105 yX5_knownName ∈ jGL := jmem 1251 (by decide +kernel) rfl
theorem jw_1253 : Cond.instanceMethod yX5_knownName ∈ jGL := jmem 1253 (by decide +kernel) rfl
theorem jw_25 : Cond.selects RX5 yX5_knownName yX5_knownName ∈ jGL := jmem 25 (by decide +kernel) rfl
theorem jw_1223 : Cond.code yX5_numberOf cX5_numberOf 7 (some .int) ∈ jGL := jmem 1223 (by decide +kernel) rfl
theorem jw_1220 : Cond.methodLink RX5 108 yX5_numberOf ∈ jGL := jmem 1220 (by decide +kernel) rfl
theorem jw_1222 : Cond.instanceMethod yX5_numberOf ∈ jGL := jmem 1222 (by decide +kernel) rfl
theorem jw_21 : Cond.selects RX5 yX5_numberOf yX5_numberOf ∈ jGL := jmem 21 (by decide +kernel) rfl
theorem jw_1258 : Cond.code yX3_addPipe cX3_addPipe 4 none ∈ jGL := jmem 1258 (by decide +kernel) rfl
theorem jw_1255 : Cond.methodLink RX5 112 yX3_addPipe ∈ jGL := jmem 1255 (by decide +kernel) rfl
theorem jw_1256 : Cond.instanceMethod yX3_addPipe ∈ jGL := jmem 1256 (by decide +kernel) rfl
theorem jw_1257 : Cond.selects RX3 yX3_addPipe yX3_addPipe ∈ jGL := jmem 1257 (by decide +kernel) rfl
theorem jw_556 : Cond.fieldLinkNest RX5 116 "DriftOrgan$Organ" "weather" "LDriftOrgan$Weather;" "DriftOrgan" ∈ jGL := jmem 556 (by decide +kernel) rfl
theorem jw_478 : Cond.fieldLinkNest RX5 120 "DriftOrgan$Weather" "swells" "I" "DriftOrgan" ∈ jGL := jmem 478 (by decide +kernel) rfl
theorem jw_1231 : Cond.code yX5_blame cX5_blame 2 none ∈ jGL := jmem 1231 (by decide +kernel) rfl
theorem jw_1228 : Cond.methodLink RX5 125 yX5_blame ∈ jGL := jmem 1228 (by decide +kernel) rfl
theorem jw_1230 : Cond.instanceMethod yX5_blame ∈ jGL := jmem 1230 (by decide +kernel) rfl
theorem jw_22 : Cond.selects RX5 yX5_blame yX5_blame ∈ jGL := jmem 22 (by decide +kernel) rfl
theorem jw_1266 : Cond.code yX8_addSwell cX8_addSwell 4 none ∈ jGL := jmem 1266 (by decide +kernel) rfl
theorem jw_1263 : Cond.methodLink RX5 129 yX8_addSwell ∈ jGL := jmem 1263 (by decide +kernel) rfl
theorem jw_1264 : Cond.instanceMethod yX8_addSwell ∈ jGL := jmem 1264 (by decide +kernel) rfl
theorem jw_1265 : Cond.selects RX8 yX8_addSwell yX8_addSwell ∈ jGL := jmem 1265 (by decide +kernel) rfl
theorem jw_481 : Cond.fieldLinkNest RX5 132 "DriftOrgan$Weather" "silences" "I" "DriftOrgan" ∈ jGL := jmem 481 (by decide +kernel) rfl
theorem jw_1275 : Cond.code yX8_addSilence cX8_addSilence 3 none ∈ jGL := jmem 1275 (by decide +kernel) rfl
theorem jw_1272 : Cond.methodLink RX5 135 yX8_addSilence ∈ jGL := jmem 1272 (by decide +kernel) rfl
theorem jw_1273 : Cond.instanceMethod yX8_addSilence ∈ jGL := jmem 1273 (by decide +kernel) rfl
theorem jw_1274 : Cond.selects RX8 yX8_addSilence yX8_addSilence ∈ jGL := jmem 1274 (by decide +kernel) rfl
theorem jw_602 : Cond.fieldLink RX5 18 "DriftOrgan$Reader" "chordNames" "[I" ∈ jGL := jmem 602 (by decide +kernel) rfl
theorem jw_573 : Cond.fieldLinkNest RX5 138 "DriftOrgan$Organ" "chords" "I" "DriftOrgan" ∈ jGL := jmem 573 (by decide +kernel) rfl
theorem jw_1287 : Cond.code yX5_chordPipe cX5_chordPipe 2 (some .boolean) ∈ jGL := jmem 1287 (by decide +kernel) rfl
theorem jw_1284 : Cond.methodLink RX5 144 yX5_chordPipe ∈ jGL := jmem 1284 (by decide +kernel) rfl
theorem jw_1286 : Cond.instanceMethod yX5_chordPipe ∈ jGL := jmem 1286 (by decide +kernel) rfl
theorem jw_29 : Cond.selects RX5 yX5_chordPipe yX5_chordPipe ∈ jGL := jmem 29 (by decide +kernel) rfl
theorem jw_1283 : Cond.code yX3_beginChord cX3_beginChord 1 none ∈ jGL := jmem 1283 (by decide +kernel) rfl
theorem jw_1280 : Cond.methodLink RX5 141 yX3_beginChord ∈ jGL := jmem 1280 (by decide +kernel) rfl
theorem jw_1281 : Cond.instanceMethod yX3_beginChord ∈ jGL := jmem 1281 (by decide +kernel) rfl
theorem jw_1282 : Cond.selects RX3 yX3_beginChord yX3_beginChord ∈ jGL := jmem 1282 (by decide +kernel) rfl
theorem jw_1300 : Cond.code yX3_endChord cX3_endChord 1 none ∈ jGL := jmem 1300 (by decide +kernel) rfl
theorem jw_1297 : Cond.methodLink RX5 147 yX3_endChord ∈ jGL := jmem 1297 (by decide +kernel) rfl
theorem jw_1298 : Cond.instanceMethod yX3_endChord ∈ jGL := jmem 1298 (by decide +kernel) rfl
theorem jw_1299 : Cond.selects RX3 yX3_endChord yX3_endChord ∈ jGL := jmem 1299 (by decide +kernel) rfl
theorem jw_1288 : Cond.methodLink RX5 150 yX3_sizeOf ∈ jGL := jmem 1288 (by decide +kernel) rfl
theorem jw_1292 : Cond.code yX3_hasNote cX3_hasNote 5 (some .boolean) ∈ jGL := jmem 1292 (by decide +kernel) rfl
theorem jw_1289 : Cond.methodLink RX5 153 yX3_hasNote ∈ jGL := jmem 1289 (by decide +kernel) rfl
theorem jw_1290 : Cond.instanceMethod yX3_hasNote ∈ jGL := jmem 1290 (by decide +kernel) rfl
theorem jw_1291 : Cond.selects RX3 yX3_hasNote yX3_hasNote ∈ jGL := jmem 1291 (by decide +kernel) rfl
theorem jw_1296 : Cond.code yX3_addNote cX3_addNote 3 none ∈ jGL := jmem 1296 (by decide +kernel) rfl
theorem jw_1293 : Cond.methodLink RX5 156 yX3_addNote ∈ jGL := jmem 1293 (by decide +kernel) rfl
theorem jw_1294 : Cond.instanceMethod yX3_addNote ∈ jGL := jmem 1294 (by decide +kernel) rfl
theorem jw_1295 : Cond.selects RX3 yX3_addNote yX3_addNote ∈ jGL := jmem 1295 (by decide +kernel) rfl
theorem jw_1308 : Cond.code yX5_blameOrderTooMany cX5_blameOrderTooMany 1 none ∈ jGL := jmem 1308 (by decide +kernel) rfl
theorem jw_1305 : Cond.methodLink RX5 159 yX5_blameOrderTooMany ∈ jGL := jmem 1305 (by decide +kernel) rfl
theorem jw_1307 : Cond.instanceMethod yX5_blameOrderTooMany ∈ jGL := jmem 1307 (by decide +kernel) rfl
theorem jw_31 : Cond.selects RX5 yX5_blameOrderTooMany yX5_blameOrderTooMany ∈ jGL := jmem 31 (by decide +kernel) rfl
theorem jw_1312 : Cond.code yX5_beginOrder cX5_beginOrder 3 none ∈ jGL := jmem 1312 (by decide +kernel) rfl
theorem jw_1309 : Cond.methodLink RX5 162 yX5_beginOrder ∈ jGL := jmem 1309 (by decide +kernel) rfl
theorem jw_1311 : Cond.instanceMethod yX5_beginOrder ∈ jGL := jmem 1311 (by decide +kernel) rfl
theorem jw_32 : Cond.selects RX5 yX5_beginOrder yX5_beginOrder ∈ jGL := jmem 32 (by decide +kernel) rfl
theorem jw_1321 : Cond.code yX5_test cX5_test 3 (some .boolean) ∈ jGL := jmem 1321 (by decide +kernel) rfl
theorem jw_1318 : Cond.methodLink RX5 165 yX5_test ∈ jGL := jmem 1318 (by decide +kernel) rfl
theorem jw_1320 : Cond.instanceMethod yX5_test ∈ jGL := jmem 1320 (by decide +kernel) rfl
theorem jw_33 : Cond.selects RX5 yX5_test yX5_test ∈ jGL := jmem 33 (by decide +kernel) rfl
theorem jw_1369 : Cond.code yX5_endOrder cX5_endOrder 1 none ∈ jGL := jmem 1369 (by decide +kernel) rfl
theorem jw_1366 : Cond.methodLink RX5 168 yX5_endOrder ∈ jGL := jmem 1366 (by decide +kernel) rfl
theorem jw_1368 : Cond.instanceMethod yX5_endOrder ∈ jGL := jmem 1368 (by decide +kernel) rfl
theorem jw_44 : Cond.selects RX5 yX5_endOrder yX5_endOrder ∈ jGL := jmem 44 (by decide +kernel) rfl
theorem jw_560 : Cond.fieldLinkNest RX5 171 "DriftOrgan$Organ" "orders" "LDriftOrgan$Orders;" "DriftOrgan" ∈ jGL := jmem 560 (by decide +kernel) rfl
theorem jw_518 : Cond.fieldLinkNest RX5 175 "DriftOrgan$Orders" "told" "I" "DriftOrgan" ∈ jGL := jmem 518 (by decide +kernel) rfl
theorem jw_1316 : Cond.code yX2_beginOrder cX2_beginOrder 3 none ∈ jGL := jmem 1316 (by decide +kernel) rfl
theorem jw_1313 : Cond.methodLink RX5 180 yX2_beginOrder ∈ jGL := jmem 1313 (by decide +kernel) rfl
theorem jw_1314 : Cond.instanceMethod yX2_beginOrder ∈ jGL := jmem 1314 (by decide +kernel) rfl
theorem jw_1315 : Cond.selects RX2 yX2_beginOrder yX2_beginOrder ∈ jGL := jmem 1315 (by decide +kernel) rfl
theorem jw_1373 : Cond.code yX2_endOrder cX2_endOrder 1 none ∈ jGL := jmem 1373 (by decide +kernel) rfl
theorem jw_1370 : Cond.methodLink RX5 181 yX2_endOrder ∈ jGL := jmem 1370 (by decide +kernel) rfl
theorem jw_1371 : Cond.instanceMethod yX2_endOrder ∈ jGL := jmem 1371 (by decide +kernel) rfl
theorem jw_1372 : Cond.selects RX2 yX2_endOrder yX2_endOrder ∈ jGL := jmem 1372 (by decide +kernel) rfl
theorem jw_1232 : Cond.methodLinkNest RX5 182 yX9_put "DriftOrgan" ∈ jGL := jmem 1232 (by decide +kernel) rfl
theorem jw_1224 : Cond.methodLink RX5 186 yX7_worthAt ∈ jGL := jmem 1224 (by decide +kernel) rfl
theorem jw_1341 : Cond.code yX2_addStep cX2_addStep 3 none ∈ jGL := jmem 1341 (by decide +kernel) rfl
theorem jw_1338 : Cond.methodLink RX5 190 yX2_addStep ∈ jGL := jmem 1338 (by decide +kernel) rfl
theorem jw_1339 : Cond.instanceMethod yX2_addStep ∈ jGL := jmem 1339 (by decide +kernel) rfl
theorem jw_1340 : Cond.selects RX2 yX2_addStep yX2_addStep ∈ jGL := jmem 1340 (by decide +kernel) rfl
theorem jw_1325 : Cond.code yX5_both cX5_both 3 (some .boolean) ∈ jGL := jmem 1325 (by decide +kernel) rfl
theorem jw_1322 : Cond.methodLink RX5 193 yX5_both ∈ jGL := jmem 1322 (by decide +kernel) rfl
theorem jw_1324 : Cond.instanceMethod yX5_both ∈ jGL := jmem 1324 (by decide +kernel) rfl
theorem jw_34 : Cond.selects RX5 yX5_both yX5_both ∈ jGL := jmem 34 (by decide +kernel) rfl
theorem jw_1337 : Cond.code yX5_emit cX5_emit 3 none ∈ jGL := jmem 1337 (by decide +kernel) rfl
theorem jw_1334 : Cond.methodLink RX5 196 yX5_emit ∈ jGL := jmem 1334 (by decide +kernel) rfl
theorem jw_1336 : Cond.instanceMethod yX5_emit ∈ jGL := jmem 1336 (by decide +kernel) rfl
theorem jw_37 : Cond.selects RX5 yX5_emit yX5_emit ∈ jGL := jmem 37 (by decide +kernel) rfl
theorem jw_1329 : Cond.code yX5_single cX5_single 2 (some .boolean) ∈ jGL := jmem 1329 (by decide +kernel) rfl
theorem jw_1326 : Cond.methodLink RX5 199 yX5_single ∈ jGL := jmem 1326 (by decide +kernel) rfl
theorem jw_1328 : Cond.instanceMethod yX5_single ∈ jGL := jmem 1328 (by decide +kernel) rfl
theorem jw_35 : Cond.selects RX5 yX5_single yX5_single ∈ jGL := jmem 35 (by decide +kernel) rfl
theorem jw_1349 : Cond.code yX5_comparison cX5_comparison 3 (some .boolean) ∈ jGL := jmem 1349 (by decide +kernel) rfl
theorem jw_1346 : Cond.methodLink RX5 208 yX5_comparison ∈ jGL := jmem 1346 (by decide +kernel) rfl
theorem jw_1348 : Cond.instanceMethod yX5_comparison ∈ jGL := jmem 1348 (by decide +kernel) rfl
theorem jw_39 : Cond.selects RX5 yX5_comparison yX5_comparison ∈ jGL := jmem 39 (by decide +kernel) rfl
theorem jw_1345 : Cond.code yX5_namedStep cX5_namedStep 5 (some .boolean) ∈ jGL := jmem 1345 (by decide +kernel) rfl
theorem jw_1342 : Cond.methodLink RX5 205 yX5_namedStep ∈ jGL := jmem 1342 (by decide +kernel) rfl
theorem jw_1344 : Cond.instanceMethod yX5_namedStep ∈ jGL := jmem 1344 (by decide +kernel) rfl
theorem jw_38 : Cond.selects RX5 yX5_namedStep yX5_namedStep ∈ jGL := jmem 38 (by decide +kernel) rfl
theorem jw_1333 : Cond.code yX5_goDeeper cX5_goDeeper 2 (some .boolean) ∈ jGL := jmem 1333 (by decide +kernel) rfl
theorem jw_1330 : Cond.methodLink RX5 202 yX5_goDeeper ∈ jGL := jmem 1330 (by decide +kernel) rfl
theorem jw_1332 : Cond.instanceMethod yX5_goDeeper ∈ jGL := jmem 1332 (by decide +kernel) rfl
theorem jw_36 : Cond.selects RX5 yX5_goDeeper yX5_goDeeper ∈ jGL := jmem 36 (by decide +kernel) rfl
theorem jw_1353 : Cond.code yX5_sum cX5_sum 4 (some .boolean) ∈ jGL := jmem 1353 (by decide +kernel) rfl
theorem jw_1350 : Cond.methodLink RX5 211 yX5_sum ∈ jGL := jmem 1350 (by decide +kernel) rfl
theorem jw_1352 : Cond.instanceMethod yX5_sum ∈ jGL := jmem 1352 (by decide +kernel) rfl
theorem jw_40 : Cond.selects RX5 yX5_sum yX5_sum ∈ jGL := jmem 40 (by decide +kernel) rfl
theorem jw_1357 : Cond.code yX5_product cX5_product 4 (some .boolean) ∈ jGL := jmem 1357 (by decide +kernel) rfl
theorem jw_1354 : Cond.methodLink RX5 214 yX5_product ∈ jGL := jmem 1354 (by decide +kernel) rfl
theorem jw_1356 : Cond.instanceMethod yX5_product ∈ jGL := jmem 1356 (by decide +kernel) rfl
theorem jw_41 : Cond.selects RX5 yX5_product yX5_product ∈ jGL := jmem 41 (by decide +kernel) rfl
theorem jw_1361 : Cond.code yX5_value cX5_value 2 (some .boolean) ∈ jGL := jmem 1361 (by decide +kernel) rfl
theorem jw_1358 : Cond.methodLink RX5 217 yX5_value ∈ jGL := jmem 1358 (by decide +kernel) rfl
theorem jw_1360 : Cond.instanceMethod yX5_value ∈ jGL := jmem 1360 (by decide +kernel) rfl
theorem jw_42 : Cond.selects RX5 yX5_value yX5_value ∈ jGL := jmem 42 (by decide +kernel) rfl
theorem jw_1365 : Cond.code yX5_extreme cX5_extreme 3 (some .boolean) ∈ jGL := jmem 1365 (by decide +kernel) rfl
theorem jw_1362 : Cond.methodLink RX5 220 yX5_extreme ∈ jGL := jmem 1362 (by decide +kernel) rfl
theorem jw_1364 : Cond.instanceMethod yX5_extreme ∈ jGL := jmem 1364 (by decide +kernel) rfl
theorem jw_43 : Cond.selects RX5 yX5_extreme yX5_extreme ∈ jGL := jmem 43 (by decide +kernel) rfl
