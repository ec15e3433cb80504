/-! methods, words, fields -/
theorem jin_of {ws : List Cond} (ps : List Nat) (h : ws = ps.filterMap (fun i => lw_tbl[i]?)) (h2 : ws.all (fun w => w.onTables && w.keepsH) = true) : ∀ x ∈ ws, x ∈ jGL := by
  intro x hx
  have h3 := List.all_eq_true.mp h2 x hx
  rw [h] at hx
  obtain ⟨i, -, hi⟩ := List.mem_filterMap.mp hx
  exact List.mem_filter.mpr ⟨List.mem_of_getElem? hi, h3⟩
abbrev MX0_holds : JM := (cX0_holds, 9, RX0, (some .boolean), yX0_holds)
theorem jn_X0_holds : jnm MX0_holds 3 := by decide +kernel
theorem jp_X0_holds : plainName MX0_holds.2.2.2.2.cls = true := by decide +kernel
abbrev MX0_isOperand : JM := (cX0_isOperand, 1, RX0, (some .boolean), yX0_isOperand)
theorem jn_X0_isOperand : jnm MX0_isOperand 1 := by decide +kernel
theorem jp_X0_isOperand : plainName MX0_isOperand.2.2.2.2.cls = true := by decide +kernel
abbrev MX0_joined : JM := (cX0_joined, 3, RX0, (some .int), yX0_joined)
theorem jn_X0_joined : jnm MX0_joined 3 := by decide +kernel
theorem jp_X0_joined : plainName MX0_joined.2.2.2.2.cls = true := by decide +kernel
abbrev MX0_pop : JM := (cX0_pop, 1, RX0, (some .int), yX0_pop)
theorem jn_X0_pop : jnm MX0_pop 0 := by decide +kernel
theorem jp_X0_pop : plainName MX0_pop.2.2.2.2.cls = true := by decide +kernel
abbrev MX0_push : JM := (cX0_push, 2, RX0, none, yX0_push)
theorem jn_X0_push : jnm MX0_push 1 := by decide +kernel
theorem jp_X0_push : plainName MX0_push.2.2.2.2.cls = true := by decide +kernel
abbrev MX0_reading : JM := (cX0_reading, 3, RX0, (some .int), yX0_reading)
theorem jn_X0_reading : jnm MX0_reading 3 := by decide +kernel
theorem jp_X0_reading : plainName MX0_reading.2.2.2.2.cls = true := by decide +kernel
abbrev MX10_empty : JM := (cX10_empty, 1, RX10, none, yX10_empty)
theorem jn_X10_empty : jnm MX10_empty 0 := by decide +kernel
theorem jp_X10_empty : plainName MX10_empty.2.2.2.2.cls = true := by decide +kernel
abbrev MX10_node : JM := (cX10_node, 4, RX10, (some .int), yX10_node)
theorem jn_X10_node : jnm MX10_node 3 := by decide +kernel
theorem jp_X10_node : plainName MX10_node.2.2.2.2.cls = true := by decide +kernel
abbrev MX11_advise : JM := (cX11_advise, 6, RX11, (some .int), yX11_advise)
theorem jn_X11_advise : jnm MX11_advise 1 := by decide +kernel
theorem jp_X11_advise : plainName MX11_advise.2.2.2.2.cls = true := by decide +kernel
abbrev MX11_apart : JM := (cX11_apart, 7, RX11, (some .int), yX11_apart)
theorem jn_X11_apart : jnm MX11_apart 2 := by decide +kernel
theorem jp_X11_apart : plainName MX11_apart.2.2.2.2.cls = true := by decide +kernel
abbrev MX11_append : JM := (cX11_append, 3, RX11, none, yX11_append)
theorem jn_X11_append : jnm MX11_append 1 := by decide +kernel
theorem jp_X11_append : plainName MX11_append.2.2.2.2.cls = true := by decide +kernel
abbrev MX11_best : JM := (cX11_best, 5, RX11, (some .int), yX11_best)
theorem jn_X11_best : jnm MX11_best 1 := by decide +kernel
theorem jp_X11_best : plainName MX11_best.2.2.2.2.cls = true := by decide +kernel
abbrev MX11_blow : JM := (cX11_blow, 4, RX11, none, yX11_blow)
theorem jn_X11_blow : jnm MX11_blow 2 := by decide +kernel
theorem jp_X11_blow : plainName MX11_blow.2.2.2.2.cls = true := by decide +kernel
abbrev MX11_both : JM := (cX11_both, 4, RX11, (some .int), yX11_both)
theorem jn_X11_both : jnm MX11_both 1 := by decide +kernel
theorem jp_X11_both : plainName MX11_both.2.2.2.2.cls = true := by decide +kernel
abbrev MX11_byteAt : JM := (cX11_byteAt, 2, RX11, (some .int), yX11_byteAt)
theorem jn_X11_byteAt : jnm MX11_byteAt 1 := by decide +kernel
theorem jp_X11_byteAt : plainName MX11_byteAt.2.2.2.2.cls = true := by decide +kernel
abbrev MX11_cave : JM := (cX11_cave, 3, RX11, (some .int), yX11_cave)
theorem jn_X11_cave : jnm MX11_cave 2 := by decide +kernel
theorem jp_X11_cave : plainName MX11_cave.2.2.2.2.cls = true := by decide +kernel
abbrev MX11_caveTold : JM := (cX11_caveTold, 3, RX11, (some .int), yX11_caveTold)
theorem jn_X11_caveTold : jnm MX11_caveTold 2 := by decide +kernel
theorem jp_X11_caveTold : plainName MX11_caveTold.2.2.2.2.cls = true := by decide +kernel
abbrev MX11_change : JM := (cX11_change, 3, RX11, none, yX11_change)
theorem jn_X11_change : jnm MX11_change 0 := by decide +kernel
theorem jp_X11_change : plainName MX11_change.2.2.2.2.cls = true := by decide +kernel
abbrev MX11_chime : JM := (cX11_chime, 3, RX11, none, yX11_chime)
theorem jn_X11_chime : jnm MX11_chime 2 := by decide +kernel
theorem jp_X11_chime : plainName MX11_chime.2.2.2.2.cls = true := by decide +kernel
abbrev MX11_chimes : JM := (cX11_chimes, 5, RX11, (some .boolean), yX11_chimes)
theorem jn_X11_chimes : jnm MX11_chimes 2 := by decide +kernel
theorem jp_X11_chimes : plainName MX11_chimes.2.2.2.2.cls = true := by decide +kernel
abbrev MX11_chiming : JM := (cX11_chiming, 3, RX11, (some .int), yX11_chiming)
theorem jn_X11_chiming : jnm MX11_chiming 0 := by decide +kernel
theorem jp_X11_chiming : plainName MX11_chiming.2.2.2.2.cls = true := by decide +kernel
abbrev MX11_chord : JM := (cX11_chord, 3, RX11, (some .int), yX11_chord)
theorem jn_X11_chord : jnm MX11_chord 2 := by decide +kernel
theorem jp_X11_chord : plainName MX11_chord.2.2.2.2.cls = true := by decide +kernel
abbrev MX11_chordTold : JM := (cX11_chordTold, 3, RX11, (some .int), yX11_chordTold)
theorem jn_X11_chordTold : jnm MX11_chordTold 2 := by decide +kernel
theorem jp_X11_chordTold : plainName MX11_chordTold.2.2.2.2.cls = true := by decide +kernel
abbrev MX11_clean : JM := (cX11_clean, 2, RX11, (some .int), yX11_clean)
theorem jn_X11_clean : jnm MX11_clean 1 := by decide +kernel
theorem jp_X11_clean : plainName MX11_clean.2.2.2.2.cls = true := by decide +kernel
abbrev MX11_count : JM := (cX11_count, 2, RX11, (some .int), yX11_count)
theorem jn_X11_count : jnm MX11_count 1 := by decide +kernel
theorem jp_X11_count : plainName MX11_count.2.2.2.2.cls = true := by decide +kernel
abbrev MX11_counted : JM := (cX11_counted, 2, RX11, (some .int), yX11_counted)
theorem jn_X11_counted : jnm MX11_counted 1 := by decide +kernel
theorem jp_X11_counted : plainName MX11_counted.2.2.2.2.cls = true := by decide +kernel
abbrev MX11_cut : JM := (cX11_cut, 3, RX11, (some .int), yX11_cut)
theorem jn_X11_cut : jnm MX11_cut 2 := by decide +kernel
theorem jp_X11_cut : plainName MX11_cut.2.2.2.2.cls = true := by decide +kernel
abbrev MX11_deeper : JM := (cX11_deeper, 1, RX11, none, yX11_deeper)
theorem jn_X11_deeper : jnm MX11_deeper 0 := by decide +kernel
theorem jp_X11_deeper : plainName MX11_deeper.2.2.2.2.cls = true := by decide +kernel
abbrev MX11_digest : JM := (cX11_digest, 5, RX11, (some .long), yX11_digest)
theorem jn_X11_digest : jnm MX11_digest 0 := by decide +kernel
theorem jp_X11_digest : plainName MX11_digest.2.2.2.2.cls = true := by decide +kernel
abbrev MX11_errorAt : JM := (cX11_errorAt, 1, RX11, (some .int), yX11_errorAt)
theorem jn_X11_errorAt : jnm MX11_errorAt 0 := by decide +kernel
theorem jp_X11_errorAt : plainName MX11_errorAt.2.2.2.2.cls = true := by decide +kernel
abbrev MX11_fail : JM := (cX11_fail, 1, RX11, none, yX11_fail)
theorem jn_X11_fail : jnm MX11_fail 0 := by decide +kernel
theorem jp_X11_fail : plainName MX11_fail.2.2.2.2.cls = true := by decide +kernel
abbrev MX11_feed : JM := (cX11_feed, 6, RX11, (some .int), yX11_feed)
theorem jn_X11_feed : jnm MX11_feed 5 := by decide +kernel
theorem jp_X11_feed : plainName MX11_feed.2.2.2.2.cls = true := by decide +kernel
abbrev MX11_find : JM := (cX11_find, 5, RX11, (some .int), yX11_find)
theorem jn_X11_find : jnm MX11_find 3 := by decide +kernel
theorem jp_X11_find : plainName MX11_find.2.2.2.2.cls = true := by decide +kernel
abbrev MX11_foresee : JM := (cX11_foresee, 3, RX11, (some .int), yX11_foresee)
theorem jn_X11_foresee : jnm MX11_foresee 2 := by decide +kernel
theorem jp_X11_foresee : plainName MX11_foresee.2.2.2.2.cls = true := by decide +kernel
abbrev MX11_fresh : JM := (cX11_fresh, 5, RX11, (some .int), yX11_fresh)
theorem jn_X11_fresh : jnm MX11_fresh 3 := by decide +kernel
theorem jp_X11_fresh : plainName MX11_fresh.2.2.2.2.cls = true := by decide +kernel
abbrev MX11_height : JM := (cX11_height, 2, RX11, (some .int), yX11_height)
theorem jn_X11_height : jnm MX11_height 1 := by decide +kernel
theorem jp_X11_height : plainName MX11_height.2.2.2.2.cls = true := by decide +kernel
abbrev MX11_heightOf : JM := (cX11_heightOf, 6, RX11, (some .int), yX11_heightOf)
theorem jn_X11_heightOf : jnm MX11_heightOf 2 := by decide +kernel
theorem jp_X11_heightOf : plainName MX11_heightOf.2.2.2.2.cls = true := by decide +kernel
abbrev MX11_holds : JM := (cX11_holds, 5, RX11, (some .boolean), yX11_holds)
theorem jn_X11_holds : jnm MX11_holds 2 := by decide +kernel
theorem jp_X11_holds : plainName MX11_holds.2.2.2.2.cls = true := by decide +kernel
abbrev MX11_inner : JM := (cX11_inner, 2, RX11, (some .int), yX11_inner)
theorem jn_X11_inner : jnm MX11_inner 0 := by decide +kernel
theorem jp_X11_inner : plainName MX11_inner.2.2.2.2.cls = true := by decide +kernel
abbrev MX11_is : JM := (cX11_is, 3, RX11, (some .boolean), yX11_is)
theorem jn_X11_is : jnm MX11_is 2 := by decide +kernel
theorem jp_X11_is : plainName MX11_is.2.2.2.2.cls = true := by decide +kernel
abbrev MX11_isCave : JM := (cX11_isCave, 2, RX11, (some .boolean), yX11_isCave)
theorem jn_X11_isCave : jnm MX11_isCave 1 := by decide +kernel
theorem jp_X11_isCave : plainName MX11_isCave.2.2.2.2.cls = true := by decide +kernel
abbrev MX11_isChord : JM := (cX11_isChord, 2, RX11, (some .boolean), yX11_isChord)
theorem jn_X11_isChord : jnm MX11_isChord 1 := by decide +kernel
theorem jp_X11_isChord : plainName MX11_isChord.2.2.2.2.cls = true := by decide +kernel
abbrev MX11_isDigit : JM := (cX11_isDigit, 1, RX11, (some .boolean), yX11_isDigit)
theorem jn_X11_isDigit : jnm MX11_isDigit 1 := by decide +kernel
theorem jp_X11_isDigit : plainName MX11_isDigit.2.2.2.2.cls = true := by decide +kernel
abbrev MX11_isIn : JM := (cX11_isIn, 3, RX11, (some .boolean), yX11_isIn)
theorem jn_X11_isIn : jnm MX11_isIn 3 := by decide +kernel
theorem jp_X11_isIn : plainName MX11_isIn.2.2.2.2.cls = true := by decide +kernel
abbrev MX11_isLetter : JM := (cX11_isLetter, 1, RX11, (some .boolean), yX11_isLetter)
theorem jn_X11_isLetter : jnm MX11_isLetter 1 := by decide +kernel
theorem jp_X11_isLetter : plainName MX11_isLetter.2.2.2.2.cls = true := by decide +kernel
abbrev MX11_isOk : JM := (cX11_isOk, 1, RX11, (some .boolean), yX11_isOk)
theorem jn_X11_isOk : jnm MX11_isOk 0 := by decide +kernel
theorem jp_X11_isOk : plainName MX11_isOk.2.2.2.2.cls = true := by decide +kernel
abbrev MX11_isPipe : JM := (cX11_isPipe, 2, RX11, (some .boolean), yX11_isPipe)
theorem jn_X11_isPipe : jnm MX11_isPipe 1 := by decide +kernel
theorem jp_X11_isPipe : plainName MX11_isPipe.2.2.2.2.cls = true := by decide +kernel
abbrev MX11_isQuiet : JM := (cX11_isQuiet, 7, RX11, (some .boolean), yX11_isQuiet)
theorem jn_X11_isQuiet : jnm MX11_isQuiet 1 := by decide +kernel
theorem jp_X11_isQuiet : plainName MX11_isQuiet.2.2.2.2.cls = true := by decide +kernel
abbrev MX11_isSame : JM := (cX11_isSame, 4, RX11, (some .boolean), yX11_isSame)
theorem jn_X11_isSame : jnm MX11_isSame 2 := by decide +kernel
theorem jp_X11_isSame : plainName MX11_isSame.2.2.2.2.cls = true := by decide +kernel
abbrev MX11_isShut : JM := (cX11_isShut, 5, RX11, (some .boolean), yX11_isShut)
theorem jn_X11_isShut : jnm MX11_isShut 2 := by decide +kernel
theorem jp_X11_isShut : plainName MX11_isShut.2.2.2.2.cls = true := by decide +kernel
abbrev MX11_isSilent : JM := (cX11_isSilent, 2, RX11, (some .boolean), yX11_isSilent)
theorem jn_X11_isSilent : jnm MX11_isSilent 1 := by decide +kernel
theorem jp_X11_isSilent : plainName MX11_isSilent.2.2.2.2.cls = true := by decide +kernel
abbrev MX11_isWord : JM := (cX11_isWord, 5, RX11, (some .boolean), yX11_isWord)
theorem jn_X11_isWord : jnm MX11_isWord 3 := by decide +kernel
theorem jp_X11_isWord : plainName MX11_isWord.2.2.2.2.cls = true := by decide +kernel
abbrev MX11_known : JM := (cX11_known, 5, RX11, (some .int), yX11_known)
theorem jn_X11_known : jnm MX11_known 2 := by decide +kernel
theorem jp_X11_known : plainName MX11_known.2.2.2.2.cls = true := by decide +kernel
abbrev MX11_knownCave : JM := (cX11_knownCave, 1, RX11, (some .int), yX11_knownCave)
theorem jn_X11_knownCave : jnm MX11_knownCave 0 := by decide +kernel
theorem jp_X11_knownCave : plainName MX11_knownCave.2.2.2.2.cls = true := by decide +kernel
abbrev MX11_knownPipe : JM := (cX11_knownPipe, 1, RX11, (some .int), yX11_knownPipe)
theorem jn_X11_knownPipe : jnm MX11_knownPipe 0 := by decide +kernel
theorem jp_X11_knownPipe : plainName MX11_knownPipe.2.2.2.2.cls = true := by decide +kernel
abbrev MX11_lengthOf : JM := (cX11_lengthOf, 2, RX11, (some .int), yX11_lengthOf)
theorem jn_X11_lengthOf : jnm MX11_lengthOf 1 := by decide +kernel
theorem jp_X11_lengthOf : plainName MX11_lengthOf.2.2.2.2.cls = true := by decide +kernel
abbrev MX11_line : JM := (cX11_line, 1, RX11, none, yX11_line)
theorem jn_X11_line : jnm MX11_line 0 := by decide +kernel
theorem jp_X11_line : plainName MX11_line.2.2.2.2.cls = true := by decide +kernel
abbrev MX11_lookAhead : JM := (cX11_lookAhead, 1, RX11, none, yX11_lookAhead)
theorem jn_X11_lookAhead : jnm MX11_lookAhead 0 := by decide +kernel
theorem jp_X11_lookAhead : plainName MX11_lookAhead.2.2.2.2.cls = true := by decide +kernel
abbrev MX11_mean : JM := (cX11_mean, 3, RX11, (some .double), yX11_mean)
theorem jn_X11_mean : jnm MX11_mean 0 := by decide +kernel
theorem jp_X11_mean : plainName MX11_mean.2.2.2.2.cls = true := by decide +kernel
abbrev MX11_name : JM := (cX11_name, 1, RX11, (some .int), yX11_name)
theorem jn_X11_name : jnm MX11_name 0 := by decide +kernel
theorem jp_X11_name : plainName MX11_name.2.2.2.2.cls = true := by decide +kernel
abbrev MX11_need : JM := (cX11_need, 3, RX11, (some .int), yX11_need)
theorem jn_X11_need : jnm MX11_need 2 := by decide +kernel
theorem jp_X11_need : plainName MX11_need.2.2.2.2.cls = true := by decide +kernel
abbrev MX11_no : JM := (cX11_no, 2, RX11, (some .int), yX11_no)
theorem jn_X11_no : jnm MX11_no 1 := by decide +kernel
theorem jp_X11_no : plainName MX11_no.2.2.2.2.cls = true := by decide +kernel
abbrev MX11_note : JM := (cX11_note, 3, RX11, (some .int), yX11_note)
theorem jn_X11_note : jnm MX11_note 2 := by decide +kernel
theorem jp_X11_note : plainName MX11_note.2.2.2.2.cls = true := by decide +kernel
abbrev MX11_number : JM := (cX11_number, 3, RX11, (some .int), yX11_number)
theorem jn_X11_number : jnm MX11_number 2 := by decide +kernel
theorem jp_X11_number : plainName MX11_number.2.2.2.2.cls = true := by decide +kernel
abbrev MX11_one : JM := (cX11_one, 2, RX11, (some .int), yX11_one)
theorem jn_X11_one : jnm MX11_one 0 := by decide +kernel
theorem jp_X11_one : plainName MX11_one.2.2.2.2.cls = true := by decide +kernel
abbrev MX11_pair : JM := (cX11_pair, 2, RX11, (some .int), yX11_pair)
theorem jn_X11_pair : jnm MX11_pair 0 := by decide +kernel
theorem jp_X11_pair : plainName MX11_pair.2.2.2.2.cls = true := by decide +kernel
abbrev MX11_parts : JM := (cX11_parts, 2, RX11, (some .int), yX11_parts)
theorem jn_X11_parts : jnm MX11_parts 2 := by decide +kernel
theorem jp_X11_parts : plainName MX11_parts.2.2.2.2.cls = true := by decide +kernel
abbrev MX11_pass : JM := (cX11_pass, 3, RX11, none, yX11_pass)
theorem jn_X11_pass : jnm MX11_pass 1 := by decide +kernel
theorem jp_X11_pass : plainName MX11_pass.2.2.2.2.cls = true := by decide +kernel
abbrev MX11_passAll : JM := (cX11_passAll, 4, RX11, none, yX11_passAll)
theorem jn_X11_passAll : jnm MX11_passAll 2 := by decide +kernel
theorem jp_X11_passAll : plainName MX11_passAll.2.2.2.2.cls = true := by decide +kernel
abbrev MX11_pass_ : JM := (cX11_pass_, 3, RX11, (some .int), yX11_pass_)
theorem jn_X11_pass_ : jnm MX11_pass_ 1 := by decide +kernel
theorem jp_X11_pass_ : plainName MX11_pass_.2.2.2.2.cls = true := by decide +kernel
abbrev MX11_pipe : JM := (cX11_pipe, 3, RX11, (some .int), yX11_pipe)
theorem jn_X11_pipe : jnm MX11_pipe 2 := by decide +kernel
theorem jp_X11_pipe : plainName MX11_pipe.2.2.2.2.cls = true := by decide +kernel
abbrev MX11_pipeTold : JM := (cX11_pipeTold, 3, RX11, (some .int), yX11_pipeTold)
theorem jn_X11_pipeTold : jnm MX11_pipeTold 2 := by decide +kernel
theorem jp_X11_pipeTold : plainName MX11_pipeTold.2.2.2.2.cls = true := by decide +kernel
abbrev MX11_pipesOf : JM := (cX11_pipesOf, 4, RX11, (some .int), yX11_pipesOf)
theorem jn_X11_pipesOf : jnm MX11_pipesOf 1 := by decide +kernel
theorem jp_X11_pipesOf : plainName MX11_pipesOf.2.2.2.2.cls = true := by decide +kernel
abbrev MX11_press : JM := (cX11_press, 4, RX11, none, yX11_press)
theorem jn_X11_press : jnm MX11_press 2 := by decide +kernel
theorem jp_X11_press : plainName MX11_press.2.2.2.2.cls = true := by decide +kernel
abbrev MX11_product : JM := (cX11_product, 3, RX11, (some .int), yX11_product)
theorem jn_X11_product : jnm MX11_product 0 := by decide +kernel
theorem jp_X11_product : plainName MX11_product.2.2.2.2.cls = true := by decide +kernel
abbrev MX11_put : JM := (cX11_put, 4, RX11, (some .int), yX11_put)
theorem jn_X11_put : jnm MX11_put 2 := by decide +kernel
theorem jp_X11_put : plainName MX11_put.2.2.2.2.cls = true := by decide +kernel
abbrev MX11_read : JM := (cX11_read, 4, RX11, none, yX11_read)
theorem jn_X11_read : jnm MX11_read 2 := by decide +kernel
theorem jp_X11_read : plainName MX11_read.2.2.2.2.cls = true := by decide +kernel
abbrev MX11_readCave : JM := (cX11_readCave, 4, RX11, none, yX11_readCave)
theorem jn_X11_readCave : jnm MX11_readCave 0 := by decide +kernel
theorem jp_X11_readCave : plainName MX11_readCave.2.2.2.2.cls = true := by decide +kernel
abbrev MX11_readChord : JM := (cX11_readChord, 5, RX11, none, yX11_readChord)
theorem jn_X11_readChord : jnm MX11_readChord 0 := by decide +kernel
theorem jp_X11_readChord : plainName MX11_readChord.2.2.2.2.cls = true := by decide +kernel
abbrev MX11_readNote : JM := (cX11_readNote, 9, RX11, (some .int), yX11_readNote)
theorem jn_X11_readNote : jnm MX11_readNote 3 := by decide +kernel
theorem jp_X11_readNote : plainName MX11_readNote.2.2.2.2.cls = true := by decide +kernel
abbrev MX11_readNumber : JM := (cX11_readNumber, 5, RX11, none, yX11_readNumber)
theorem jn_X11_readNumber : jnm MX11_readNumber 2 := by decide +kernel
theorem jp_X11_readNumber : plainName MX11_readNumber.2.2.2.2.cls = true := by decide +kernel
abbrev MX11_readOrder : JM := (cX11_readOrder, 4, RX11, none, yX11_readOrder)
theorem jn_X11_readOrder : jnm MX11_readOrder 1 := by decide +kernel
theorem jp_X11_readOrder : plainName MX11_readOrder.2.2.2.2.cls = true := by decide +kernel
abbrev MX11_readPipe : JM := (cX11_readPipe, 5, RX11, none, yX11_readPipe)
theorem jn_X11_readPipe : jnm MX11_readPipe 0 := by decide +kernel
theorem jp_X11_readPipe : plainName MX11_readPipe.2.2.2.2.cls = true := by decide +kernel
abbrev MX11_readSilence : JM := (cX11_readSilence, 3, RX11, none, yX11_readSilence)
theorem jn_X11_readSilence : jnm MX11_readSilence 0 := by decide +kernel
theorem jp_X11_readSilence : plainName MX11_readSilence.2.2.2.2.cls = true := by decide +kernel
abbrev MX11_readSwell : JM := (cX11_readSwell, 4, RX11, none, yX11_readSwell)
theorem jn_X11_readSwell : jnm MX11_readSwell 0 := by decide +kernel
theorem jp_X11_readSwell : plainName MX11_readSwell.2.2.2.2.cls = true := by decide +kernel
abbrev MX11_readWord : JM := (cX11_readWord, 5, RX11, none, yX11_readWord)
theorem jn_X11_readWord : jnm MX11_readWord 2 := by decide +kernel
theorem jp_X11_readWord : plainName MX11_readWord.2.2.2.2.cls = true := by decide +kernel
abbrev MX11_reckon : JM := (cX11_reckon, 5, RX11, (some .int), yX11_reckon)
theorem jn_X11_reckon : jnm MX11_reckon 2 := by decide +kernel
theorem jp_X11_reckon : plainName MX11_reckon.2.2.2.2.cls = true := by decide +kernel
abbrev MX11_reedOf : JM := (cX11_reedOf, 2, RX11, (some .int), yX11_reedOf)
theorem jn_X11_reedOf : jnm MX11_reedOf 1 := by decide +kernel
theorem jp_X11_reedOf : plainName MX11_reedOf.2.2.2.2.cls = true := by decide +kernel
abbrev MX11_setTide : JM := (cX11_setTide, 2, RX11, (some .int), yX11_setTide)
theorem jn_X11_setTide : jnm MX11_setTide 1 := by decide +kernel
theorem jp_X11_setTide : plainName MX11_setTide.2.2.2.2.cls = true := by decide +kernel
abbrev MX11_settle : JM := (cX11_settle, 5, RX11, none, yX11_settle)
theorem jn_X11_settle : jnm MX11_settle 2 := by decide +kernel
theorem jp_X11_settle : plainName MX11_settle.2.2.2.2.cls = true := by decide +kernel
abbrev MX11_silt : JM := (cX11_silt, 4, RX11, (some .int), yX11_silt)
theorem jn_X11_silt : jnm MX11_silt 1 := by decide +kernel
theorem jp_X11_silt : plainName MX11_silt.2.2.2.2.cls = true := by decide +kernel
abbrev MX11_single : JM := (cX11_single, 3, RX11, (some .int), yX11_single)
theorem jn_X11_single : jnm MX11_single 0 := by decide +kernel
theorem jp_X11_single : plainName MX11_single.2.2.2.2.cls = true := by decide +kernel
abbrev MX11_sounding : JM := (cX11_sounding, 4, RX11, (some .int), yX11_sounding)
theorem jn_X11_sounding : jnm MX11_sounding 1 := by decide +kernel
theorem jp_X11_sounding : plainName MX11_sounding.2.2.2.2.cls = true := by decide +kernel
abbrev MX11_split : JM := (cX11_split, 4, RX11, none, yX11_split)
theorem jn_X11_split : jnm MX11_split 0 := by decide +kernel
theorem jp_X11_split : plainName MX11_split.2.2.2.2.cls = true := by decide +kernel
abbrev MX11_sum : JM := (cX11_sum, 3, RX11, (some .int), yX11_sum)
theorem jn_X11_sum : jnm MX11_sum 0 := by decide +kernel
theorem jp_X11_sum : plainName MX11_sum.2.2.2.2.cls = true := by decide +kernel
abbrev MX11_take : JM := (cX11_take, 3, RX11, none, yX11_take)
theorem jn_X11_take : jnm MX11_take 2 := by decide +kernel
theorem jp_X11_take : plainName MX11_take.2.2.2.2.cls = true := by decide +kernel
abbrev MX11_teach : JM := (cX11_teach, 3, RX11, (some .int), yX11_teach)
theorem jn_X11_teach : jnm MX11_teach 0 := by decide +kernel
theorem jp_X11_teach : plainName MX11_teach.2.2.2.2.cls = true := by decide +kernel
abbrev MX11_tell : JM := (cX11_tell, 3, RX11, none, yX11_tell)
theorem jn_X11_tell : jnm MX11_tell 2 := by decide +kernel
theorem jp_X11_tell : plainName MX11_tell.2.2.2.2.cls = true := by decide +kernel
abbrev MX11_test : JM := (cX11_test, 2, RX11, (some .int), yX11_test)
theorem jn_X11_test : jnm MX11_test 0 := by decide +kernel
theorem jp_X11_test : plainName MX11_test.2.2.2.2.cls = true := by decide +kernel
abbrev MX11_thrown : JM := (cX11_thrown, 1, RX11, (some .int), yX11_thrown)
theorem jn_X11_thrown : jnm MX11_thrown 0 := by decide +kernel
theorem jp_X11_thrown : plainName MX11_thrown.2.2.2.2.cls = true := by decide +kernel
abbrev MX11_trim : JM := (cX11_trim, 2, RX11, (some .int), yX11_trim)
theorem jn_X11_trim : jnm MX11_trim 1 := by decide +kernel
theorem jp_X11_trim : plainName MX11_trim.2.2.2.2.cls = true := by decide +kernel
abbrev MX11_until : JM := (cX11_until, 3, RX11, (some .int), yX11_until)
theorem jn_X11_until : jnm MX11_until 1 := by decide +kernel
theorem jp_X11_until : plainName MX11_until.2.2.2.2.cls = true := by decide +kernel
abbrev MX11_wide : JM := (cX11_wide, 5, RX11, (some .int), yX11_wide)
theorem jn_X11_wide : jnm MX11_wide 1 := by decide +kernel
theorem jp_X11_wide : plainName MX11_wide.2.2.2.2.cls = true := by decide +kernel
abbrev MX1_become : JM := (cX1_become, 2, RX1, none, yX1_become)
theorem jn_X1_become : jnm MX1_become 1 := by decide +kernel
theorem jp_X1_become : plainName MX1_become.2.2.2.2.cls = true := by decide +kernel
abbrev MX1_begin : JM := (cX1_begin, 1, RX1, none, yX1_begin)
theorem jn_X1_begin : jnm MX1_begin 0 := by decide +kernel
theorem jp_X1_begin : plainName MX1_begin.2.2.2.2.cls = true := by decide +kernel
abbrev MX1_hourOfDay : JM := (cX1_hourOfDay, 1, RX1, (some .int), yX1_hourOfDay)
theorem jn_X1_hourOfDay : jnm MX1_hourOfDay 0 := by decide +kernel
theorem jp_X1_hourOfDay : plainName MX1_hourOfDay.2.2.2.2.cls = true := by decide +kernel
abbrev MX1_pipesSounding : JM := (cX1_pipesSounding, 4, RX1, (some .int), yX1_pipesSounding)
theorem jn_X1_pipesSounding : jnm MX1_pipesSounding 1 := by decide +kernel
theorem jp_X1_pipesSounding : plainName MX1_pipesSounding.2.2.2.2.cls = true := by decide +kernel
abbrev MX1_siltIn : JM := (cX1_siltIn, 4, RX1, (some .int), yX1_siltIn)
theorem jn_X1_siltIn : jnm MX1_siltIn 1 := by decide +kernel
theorem jp_X1_siltIn : plainName MX1_siltIn.2.2.2.2.cls = true := by decide +kernel
abbrev MX1_sounds : JM := (cX1_sounds, 2, RX1, (some .boolean), yX1_sounds)
theorem jn_X1_sounds : jnm MX1_sounds 1 := by decide +kernel
theorem jp_X1_sounds : plainName MX1_sounds.2.2.2.2.cls = true := by decide +kernel
abbrev MX2_addStep : JM := (cX2_addStep, 3, RX2, none, yX2_addStep)
theorem jn_X2_addStep : jnm MX2_addStep 2 := by decide +kernel
theorem jp_X2_addStep : plainName MX2_addStep.2.2.2.2.cls = true := by decide +kernel
abbrev MX2_begin : JM := (cX2_begin, 1, RX2, none, yX2_begin)
theorem jn_X2_begin : jnm MX2_begin 0 := by decide +kernel
theorem jp_X2_begin : plainName MX2_begin.2.2.2.2.cls = true := by decide +kernel
abbrev MX2_beginOrder : JM := (cX2_beginOrder, 3, RX2, none, yX2_beginOrder)
theorem jn_X2_beginOrder : jnm MX2_beginOrder 2 := by decide +kernel
theorem jp_X2_beginOrder : plainName MX2_beginOrder.2.2.2.2.cls = true := by decide +kernel
abbrev MX2_endOrder : JM := (cX2_endOrder, 1, RX2, none, yX2_endOrder)
theorem jn_X2_endOrder : jnm MX2_endOrder 0 := by decide +kernel
theorem jp_X2_endOrder : plainName MX2_endOrder.2.2.2.2.cls = true := by decide +kernel
abbrev MX3_addCave : JM := (cX3_addCave, 3, RX3, none, yX3_addCave)
theorem jn_X3_addCave : jnm MX3_addCave 2 := by decide +kernel
theorem jp_X3_addCave : plainName MX3_addCave.2.2.2.2.cls = true := by decide +kernel
abbrev MX3_addNote : JM := (cX3_addNote, 3, RX3, none, yX3_addNote)
theorem jn_X3_addNote : jnm MX3_addNote 1 := by decide +kernel
theorem jp_X3_addNote : plainName MX3_addNote.2.2.2.2.cls = true := by decide +kernel
abbrev MX3_addPipe : JM := (cX3_addPipe, 4, RX3, none, yX3_addPipe)
theorem jn_X3_addPipe : jnm MX3_addPipe 3 := by decide +kernel
theorem jp_X3_addPipe : plainName MX3_addPipe.2.2.2.2.cls = true := by decide +kernel
abbrev MX3_begin : JM := (cX3_begin, 1, RX3, none, yX3_begin)
theorem jn_X3_begin : jnm MX3_begin 0 := by decide +kernel
theorem jp_X3_begin : plainName MX3_begin.2.2.2.2.cls = true := by decide +kernel
abbrev MX3_beginChord : JM := (cX3_beginChord, 1, RX3, none, yX3_beginChord)
theorem jn_X3_beginChord : jnm MX3_beginChord 0 := by decide +kernel
theorem jp_X3_beginChord : plainName MX3_beginChord.2.2.2.2.cls = true := by decide +kernel
abbrev MX3_chordSounds : JM := (cX3_chordSounds, 5, RX3, (some .boolean), yX3_chordSounds)
theorem jn_X3_chordSounds : jnm MX3_chordSounds 2 := by decide +kernel
theorem jp_X3_chordSounds : plainName MX3_chordSounds.2.2.2.2.cls = true := by decide +kernel
abbrev MX3_endChord : JM := (cX3_endChord, 1, RX3, none, yX3_endChord)
theorem jn_X3_endChord : jnm MX3_endChord 0 := by decide +kernel
theorem jp_X3_endChord : plainName MX3_endChord.2.2.2.2.cls = true := by decide +kernel
abbrev MX3_hasNote : JM := (cX3_hasNote, 5, RX3, (some .boolean), yX3_hasNote)
theorem jn_X3_hasNote : jnm MX3_hasNote 2 := by decide +kernel
theorem jp_X3_hasNote : plainName MX3_hasNote.2.2.2.2.cls = true := by decide +kernel
abbrev MX3_needOf : JM := (cX3_needOf, 3, RX3, (some .int), yX3_needOf)
theorem jn_X3_needOf : jnm MX3_needOf 2 := by decide +kernel
theorem jp_X3_needOf : plainName MX3_needOf.2.2.2.2.cls = true := by decide +kernel
abbrev MX3_noteAt : JM := (cX3_noteAt, 3, RX3, (some .int), yX3_noteAt)
theorem jn_X3_noteAt : jnm MX3_noteAt 2 := by decide +kernel
theorem jp_X3_noteAt : plainName MX3_noteAt.2.2.2.2.cls = true := by decide +kernel
abbrev MX3_pipesIn : JM := (cX3_pipesIn, 4, RX3, (some .int), yX3_pipesIn)
theorem jn_X3_pipesIn : jnm MX3_pipesIn 1 := by decide +kernel
theorem jp_X3_pipesIn : plainName MX3_pipesIn.2.2.2.2.cls = true := by decide +kernel
abbrev MX3_sizeOf : JM := (cX3_sizeOf, 2, RX3, (some .int), yX3_sizeOf)
theorem jn_X3_sizeOf : jnm MX3_sizeOf 1 := by decide +kernel
theorem jp_X3_sizeOf : plainName MX3_sizeOf.2.2.2.2.cls = true := by decide +kernel
abbrev MX3_spanOf : JM := (cX3_spanOf, 7, RX3, (some .int), yX3_spanOf)
theorem jn_X3_spanOf : jnm MX3_spanOf 1 := by decide +kernel
theorem jp_X3_spanOf : plainName MX3_spanOf.2.2.2.2.cls = true := by decide +kernel
abbrev MX4_cleanByOrders : JM := (cX4_cleanByOrders, 5, RX4, none, yX4_cleanByOrders)
theorem jn_X4_cleanByOrders : jnm MX4_cleanByOrders 2 := by decide +kernel
theorem jp_X4_cleanByOrders : plainName MX4_cleanByOrders.2.2.2.2.cls = true := by decide +kernel
abbrev MX4_isShut : JM := (cX4_isShut, 6, RX4, (some .boolean), yX4_isShut)
theorem jn_X4_isShut : jnm MX4_isShut 3 := by decide +kernel
theorem jp_X4_isShut : plainName MX4_isShut.2.2.2.2.cls = true := by decide +kernel
abbrev MX4_pressCaves : JM := (cX4_pressCaves, 7, RX4, none, yX4_pressCaves)
theorem jn_X4_pressCaves : jnm MX4_pressCaves 2 := by decide +kernel
theorem jp_X4_pressCaves : plainName MX4_pressCaves.2.2.2.2.cls = true := by decide +kernel
abbrev MX4_run : JM := (cX4_run, 5, RX4, none, yX4_run)
theorem jn_X4_run : jnm MX4_run 3 := by decide +kernel
theorem jp_X4_run : plainName MX4_run.2.2.2.2.cls = true := by decide +kernel
abbrev MX4_siltPipes : JM := (cX4_siltPipes, 5, RX4, none, yX4_siltPipes)
theorem jn_X4_siltPipes : jnm MX4_siltPipes 2 := by decide +kernel
theorem jp_X4_siltPipes : plainName MX4_siltPipes.2.2.2.2.cls = true := by decide +kernel
abbrev MX4_soundChords : JM := (cX4_soundChords, 7, RX4, none, yX4_soundChords)
theorem jn_X4_soundChords : jnm MX4_soundChords 2 := by decide +kernel
theorem jp_X4_soundChords : plainName MX4_soundChords.2.2.2.2.cls = true := by decide +kernel
abbrev MX4_soundPipes : JM := (cX4_soundPipes, 6, RX4, none, yX4_soundPipes)
theorem jn_X4_soundPipes : jnm MX4_soundPipes 2 := by decide +kernel
theorem jp_X4_soundPipes : plainName MX4_soundPipes.2.2.2.2.cls = true := by decide +kernel
abbrev MX5_beginOrder : JM := (cX5_beginOrder, 3, RX5, none, yX5_beginOrder)
theorem jn_X5_beginOrder : jnm MX5_beginOrder 2 := by decide +kernel
theorem jp_X5_beginOrder : plainName MX5_beginOrder.2.2.2.2.cls = true := by decide +kernel
abbrev MX5_blame : JM := (cX5_blame, 2, RX5, none, yX5_blame)
theorem jn_X5_blame : jnm MX5_blame 1 := by decide +kernel
theorem jp_X5_blame : plainName MX5_blame.2.2.2.2.cls = true := by decide +kernel
abbrev MX5_blameOrderTooMany : JM := (cX5_blameOrderTooMany, 1, RX5, none, yX5_blameOrderTooMany)
theorem jn_X5_blameOrderTooMany : jnm MX5_blameOrderTooMany 0 := by decide +kernel
theorem jp_X5_blameOrderTooMany : plainName MX5_blameOrderTooMany.2.2.2.2.cls = true := by decide +kernel
abbrev MX5_both : JM := (cX5_both, 3, RX5, (some .boolean), yX5_both)
theorem jn_X5_both : jnm MX5_both 1 := by decide +kernel
theorem jp_X5_both : plainName MX5_both.2.2.2.2.cls = true := by decide +kernel
abbrev MX5_caveLine : JM := (cX5_caveLine, 2, RX5, (some .boolean), yX5_caveLine)
theorem jn_X5_caveLine : jnm MX5_caveLine 0 := by decide +kernel
theorem jp_X5_caveLine : plainName MX5_caveLine.2.2.2.2.cls = true := by decide +kernel
abbrev MX5_chordLine : JM := (cX5_chordLine, 2, RX5, (some .boolean), yX5_chordLine)
theorem jn_X5_chordLine : jnm MX5_chordLine 0 := by decide +kernel
theorem jp_X5_chordLine : plainName MX5_chordLine.2.2.2.2.cls = true := by decide +kernel
abbrev MX5_chordPipe : JM := (cX5_chordPipe, 2, RX5, (some .boolean), yX5_chordPipe)
theorem jn_X5_chordPipe : jnm MX5_chordPipe 0 := by decide +kernel
theorem jp_X5_chordPipe : plainName MX5_chordPipe.2.2.2.2.cls = true := by decide +kernel
abbrev MX5_cleanLine : JM := (cX5_cleanLine, 2, RX5, (some .boolean), yX5_cleanLine)
theorem jn_X5_cleanLine : jnm MX5_cleanLine 0 := by decide +kernel
theorem jp_X5_cleanLine : plainName MX5_cleanLine.2.2.2.2.cls = true := by decide +kernel
abbrev MX5_comparison : JM := (cX5_comparison, 3, RX5, (some .boolean), yX5_comparison)
theorem jn_X5_comparison : jnm MX5_comparison 1 := by decide +kernel
theorem jp_X5_comparison : plainName MX5_comparison.2.2.2.2.cls = true := by decide +kernel
abbrev MX5_emit : JM := (cX5_emit, 3, RX5, none, yX5_emit)
theorem jn_X5_emit : jnm MX5_emit 2 := by decide +kernel
theorem jp_X5_emit : plainName MX5_emit.2.2.2.2.cls = true := by decide +kernel
abbrev MX5_endOrder : JM := (cX5_endOrder, 1, RX5, none, yX5_endOrder)
theorem jn_X5_endOrder : jnm MX5_endOrder 0 := by decide +kernel
theorem jp_X5_endOrder : plainName MX5_endOrder.2.2.2.2.cls = true := by decide +kernel
abbrev MX5_exchange : JM := (cX5_exchange, 3, RX5, (some (.object "DriftOrgan$Organ")), yX5_exchange)
theorem jn_X5_exchange : jnm MX5_exchange 1 := by decide +kernel
theorem jp_X5_exchange : plainName MX5_exchange.2.2.2.2.cls = true := by decide +kernel
abbrev MX5_extreme : JM := (cX5_extreme, 3, RX5, (some .boolean), yX5_extreme)
theorem jn_X5_extreme : jnm MX5_extreme 1 := by decide +kernel
theorem jp_X5_extreme : plainName MX5_extreme.2.2.2.2.cls = true := by decide +kernel
abbrev MX5_goDeeper : JM := (cX5_goDeeper, 2, RX5, (some .boolean), yX5_goDeeper)
theorem jn_X5_goDeeper : jnm MX5_goDeeper 1 := by decide +kernel
theorem jp_X5_goDeeper : plainName MX5_goDeeper.2.2.2.2.cls = true := by decide +kernel
abbrev MX5_kind : JM := (cX5_kind, 1, RX5, (some .int), yX5_kind)
theorem jn_X5_kind : jnm MX5_kind 0 := by decide +kernel
theorem jp_X5_kind : plainName MX5_kind.2.2.2.2.cls = true := by decide +kernel
abbrev MX5_knownName : JM := (cX5_knownName, 3, RX5, (some .boolean), yX5_knownName)
theorem jn_X5_knownName : jnm MX5_knownName 2 := by decide +kernel
theorem jp_X5_knownName : plainName MX5_knownName.2.2.2.2.cls = true := by decide +kernel
abbrev MX5_line : JM := (cX5_line, 1, RX5, (some .boolean), yX5_line)
theorem jn_X5_line : jnm MX5_line 0 := by decide +kernel
theorem jp_X5_line : plainName MX5_line.2.2.2.2.cls = true := by decide +kernel
abbrev MX5_namedStep : JM := (cX5_namedStep, 5, RX5, (some .boolean), yX5_namedStep)
theorem jn_X5_namedStep : jnm MX5_namedStep 2 := by decide +kernel
theorem jp_X5_namedStep : plainName MX5_namedStep.2.2.2.2.cls = true := by decide +kernel
abbrev MX5_newName : JM := (cX5_newName, 3, RX5, (some .boolean), yX5_newName)
theorem jn_X5_newName : jnm MX5_newName 2 := by decide +kernel
theorem jp_X5_newName : plainName MX5_newName.2.2.2.2.cls = true := by decide +kernel
abbrev MX5_numberIn : JM := (cX5_numberIn, 4, RX5, (some .boolean), yX5_numberIn)
theorem jn_X5_numberIn : jnm MX5_numberIn 2 := by decide +kernel
theorem jp_X5_numberIn : plainName MX5_numberIn.2.2.2.2.cls = true := by decide +kernel
abbrev MX5_numberOf : JM := (cX5_numberOf, 7, RX5, (some .int), yX5_numberOf)
theorem jn_X5_numberOf : jnm MX5_numberOf 3 := by decide +kernel
theorem jp_X5_numberOf : plainName MX5_numberOf.2.2.2.2.cls = true := by decide +kernel
abbrev MX5_pipeLine : JM := (cX5_pipeLine, 3, RX5, (some .boolean), yX5_pipeLine)
theorem jn_X5_pipeLine : jnm MX5_pipeLine 0 := by decide +kernel
theorem jp_X5_pipeLine : plainName MX5_pipeLine.2.2.2.2.cls = true := by decide +kernel
abbrev MX5_product : JM := (cX5_product, 4, RX5, (some .boolean), yX5_product)
theorem jn_X5_product : jnm MX5_product 1 := by decide +kernel
theorem jp_X5_product : plainName MX5_product.2.2.2.2.cls = true := by decide +kernel
abbrev MX5_read : JM := (cX5_read, 3, RX5, (some .int), yX5_read)
theorem jn_X5_read : jnm MX5_read 0 := by decide +kernel
theorem jp_X5_read : plainName MX5_read.2.2.2.2.cls = true := by decide +kernel
abbrev MX5_shutLine : JM := (cX5_shutLine, 2, RX5, (some .boolean), yX5_shutLine)
theorem jn_X5_shutLine : jnm MX5_shutLine 0 := by decide +kernel
theorem jp_X5_shutLine : plainName MX5_shutLine.2.2.2.2.cls = true := by decide +kernel
abbrev MX5_silenceLine : JM := (cX5_silenceLine, 2, RX5, (some .boolean), yX5_silenceLine)
theorem jn_X5_silenceLine : jnm MX5_silenceLine 0 := by decide +kernel
theorem jp_X5_silenceLine : plainName MX5_silenceLine.2.2.2.2.cls = true := by decide +kernel
abbrev MX5_single : JM := (cX5_single, 2, RX5, (some .boolean), yX5_single)
theorem jn_X5_single : jnm MX5_single 1 := by decide +kernel
theorem jp_X5_single : plainName MX5_single.2.2.2.2.cls = true := by decide +kernel
abbrev MX5_sum : JM := (cX5_sum, 4, RX5, (some .boolean), yX5_sum)
theorem jn_X5_sum : jnm MX5_sum 1 := by decide +kernel
theorem jp_X5_sum : plainName MX5_sum.2.2.2.2.cls = true := by decide +kernel
abbrev MX5_swellLine : JM := (cX5_swellLine, 2, RX5, (some .boolean), yX5_swellLine)
theorem jn_X5_swellLine : jnm MX5_swellLine 0 := by decide +kernel
theorem jp_X5_swellLine : plainName MX5_swellLine.2.2.2.2.cls = true := by decide +kernel
abbrev MX5_take : JM := (cX5_take, 2, RX5, (some .boolean), yX5_take)
theorem jn_X5_take : jnm MX5_take 1 := by decide +kernel
theorem jp_X5_take : plainName MX5_take.2.2.2.2.cls = true := by decide +kernel
abbrev MX5_test : JM := (cX5_test, 3, RX5, (some .boolean), yX5_test)
theorem jn_X5_test : jnm MX5_test 1 := by decide +kernel
theorem jp_X5_test : plainName MX5_test.2.2.2.2.cls = true := by decide +kernel
abbrev MX5_value : JM := (cX5_value, 2, RX5, (some .boolean), yX5_value)
theorem jn_X5_value : jnm MX5_value 1 := by decide +kernel
theorem jp_X5_value : plainName MX5_value.2.2.2.2.cls = true := by decide +kernel
abbrev MX6_append : JM := (cX6_append, 3, RX6, none, yX6_append)
theorem jn_X6_append : jnm MX6_append 1 := by decide +kernel
theorem jp_X6_append : plainName MX6_append.2.2.2.2.cls = true := by decide +kernel
abbrev MX6_byteAt : JM := (cX6_byteAt, 2, RX6, (some .int), yX6_byteAt)
theorem jn_X6_byteAt : jnm MX6_byteAt 1 := by decide +kernel
theorem jp_X6_byteAt : plainName MX6_byteAt.2.2.2.2.cls = true := by decide +kernel
abbrev MX6_hasRoomFor : JM := (cX6_hasRoomFor, 2, RX6, (some .boolean), yX6_hasRoomFor)
theorem jn_X6_hasRoomFor : jnm MX6_hasRoomFor 1 := by decide +kernel
theorem jp_X6_hasRoomFor : plainName MX6_hasRoomFor.2.2.2.2.cls = true := by decide +kernel
abbrev MX6_shorten : JM := (cX6_shorten, 2, RX6, none, yX6_shorten)
theorem jn_X6_shorten : jnm MX6_shorten 1 := by decide +kernel
theorem jp_X6_shorten : plainName MX6_shorten.2.2.2.2.cls = true := by decide +kernel
abbrev MX7_behindBlanks : JM := (cX7_behindBlanks, 3, RX7, (some .int), yX7_behindBlanks)
theorem jn_X7_behindBlanks : jnm MX7_behindBlanks 2 := by decide +kernel
theorem jp_X7_behindBlanks : plainName MX7_behindBlanks.2.2.2.2.cls = true := by decide +kernel
abbrev MX7_behindToken : JM := (cX7_behindToken, 5, RX7, (some .int), yX7_behindToken)
theorem jn_X7_behindToken : jnm MX7_behindToken 2 := by decide +kernel
theorem jp_X7_behindToken : plainName MX7_behindToken.2.2.2.2.cls = true := by decide +kernel
abbrev MX7_isBlank : JM := (cX7_isBlank, 1, RX7, (some .boolean), yX7_isBlank)
theorem jn_X7_isBlank : jnm MX7_isBlank 1 := by decide +kernel
theorem jp_X7_isBlank : plainName MX7_isBlank.2.2.2.2.cls = true := by decide +kernel
abbrev MX7_isDigit : JM := (cX7_isDigit, 1, RX7, (some .boolean), yX7_isDigit)
theorem jn_X7_isDigit : jnm MX7_isDigit 1 := by decide +kernel
theorem jp_X7_isDigit : plainName MX7_isDigit.2.2.2.2.cls = true := by decide +kernel
abbrev MX7_isLetter : JM := (cX7_isLetter, 1, RX7, (some .boolean), yX7_isLetter)
theorem jn_X7_isLetter : jnm MX7_isLetter 1 := by decide +kernel
theorem jp_X7_isLetter : plainName MX7_isLetter.2.2.2.2.cls = true := by decide +kernel
abbrev MX7_kindAt : JM := (cX7_kindAt, 2, RX7, (some .int), yX7_kindAt)
theorem jn_X7_kindAt : jnm MX7_kindAt 1 := by decide +kernel
theorem jp_X7_kindAt : plainName MX7_kindAt.2.2.2.2.cls = true := by decide +kernel
abbrev MX7_kindOf : JM := (cX7_kindOf, 5, RX7, (some .int), yX7_kindOf)
theorem jn_X7_kindOf : jnm MX7_kindOf 3 := by decide +kernel
theorem jp_X7_kindOf : plainName MX7_kindOf.2.2.2.2.cls = true := by decide +kernel
abbrev MX7_numberAt : JM := (cX7_numberAt, 2, RX7, (some .int), yX7_numberAt)
theorem jn_X7_numberAt : jnm MX7_numberAt 1 := by decide +kernel
theorem jp_X7_numberAt : plainName MX7_numberAt.2.2.2.2.cls = true := by decide +kernel
abbrev MX7_scan : JM := (cX7_scan, 6, RX7, none, yX7_scan)
theorem jn_X7_scan : jnm MX7_scan 1 := by decide +kernel
theorem jp_X7_scan : plainName MX7_scan.2.2.2.2.cls = true := by decide +kernel
abbrev MX7_startOf : JM := (cX7_startOf, 2, RX7, (some .int), yX7_startOf)
theorem jn_X7_startOf : jnm MX7_startOf 1 := by decide +kernel
theorem jp_X7_startOf : plainName MX7_startOf.2.2.2.2.cls = true := by decide +kernel
abbrev MX7_wordKind : JM := (cX7_wordKind, 8, RX7, (some .int), yX7_wordKind)
theorem jn_X7_wordKind : jnm MX7_wordKind 3 := by decide +kernel
theorem jp_X7_wordKind : plainName MX7_wordKind.2.2.2.2.cls = true := by decide +kernel
abbrev MX7_worthAt : JM := (cX7_worthAt, 2, RX7, (some .long), yX7_worthAt)
theorem jn_X7_worthAt : jnm MX7_worthAt 1 := by decide +kernel
theorem jp_X7_worthAt : plainName MX7_worthAt.2.2.2.2.cls = true := by decide +kernel
abbrev MX7_worthOf : JM := (cX7_worthOf, 8, RX7, (some .long), yX7_worthOf)
theorem jn_X7_worthOf : jnm MX7_worthOf 3 := by decide +kernel
theorem jp_X7_worthOf : plainName MX7_worthOf.2.2.2.2.cls = true := by decide +kernel
abbrev MX8_addSilence : JM := (cX8_addSilence, 3, RX8, none, yX8_addSilence)
theorem jn_X8_addSilence : jnm MX8_addSilence 2 := by decide +kernel
theorem jp_X8_addSilence : plainName MX8_addSilence.2.2.2.2.cls = true := by decide +kernel
abbrev MX8_addSwell : JM := (cX8_addSwell, 4, RX8, none, yX8_addSwell)
theorem jn_X8_addSwell : jnm MX8_addSwell 3 := by decide +kernel
theorem jp_X8_addSwell : plainName MX8_addSwell.2.2.2.2.cls = true := by decide +kernel
abbrev MX8_begin : JM := (cX8_begin, 1, RX8, none, yX8_begin)
theorem jn_X8_begin : jnm MX8_begin 0 := by decide +kernel
theorem jp_X8_begin : plainName MX8_begin.2.2.2.2.cls = true := by decide +kernel
abbrev MX8_heightIn : JM := (cX8_heightIn, 7, RX8, (some .int), yX8_heightIn)
theorem jn_X8_heightIn : jnm MX8_heightIn 2 := by decide +kernel
theorem jp_X8_heightIn : plainName MX8_heightIn.2.2.2.2.cls = true := by decide +kernel
abbrev MX8_isStill : JM := (cX8_isStill, 8, RX8, (some .boolean), yX8_isStill)
theorem jn_X8_isStill : jnm MX8_isStill 1 := by decide +kernel
theorem jp_X8_isStill : plainName MX8_isStill.2.2.2.2.cls = true := by decide +kernel
abbrev MX9_advise : JM := (cX9_advise, 6, RX9, (some .int), yX9_advise)
theorem jn_X9_advise : jnm MX9_advise 1 := by decide +kernel
theorem jp_X9_advise : plainName MX9_advise.2.2.2.2.cls = true := by decide +kernel
abbrev MX9_apart : JM := (cX9_apart, 3, RX9, (some .int), yX9_apart)
theorem jn_X9_apart : jnm MX9_apart 2 := by decide +kernel
theorem jp_X9_apart : plainName MX9_apart.2.2.2.2.cls = true := by decide +kernel
abbrev MX9_at : JM := (cX9_at, 2, RX9, (some .int), yX9_at)
theorem jn_X9_at : jnm MX9_at 2 := by decide +kernel
theorem jp_X9_at : plainName MX9_at.2.2.2.2.cls = true := by decide +kernel
abbrev MX9_best : JM := (cX9_best, 5, RX9, (some .int), yX9_best)
theorem jn_X9_best : jnm MX9_best 1 := by decide +kernel
theorem jp_X9_best : plainName MX9_best.2.2.2.2.cls = true := by decide +kernel
abbrev MX9_cave : JM := (cX9_cave, 3, RX9, (some .int), yX9_cave)
theorem jn_X9_cave : jnm MX9_cave 2 := by decide +kernel
theorem jp_X9_cave : plainName MX9_cave.2.2.2.2.cls = true := by decide +kernel
abbrev MX9_caveFact : JM := (cX9_caveFact, 3, RX9, (some .int), yX9_caveFact)
theorem jn_X9_caveFact : jnm MX9_caveFact 2 := by decide +kernel
theorem jp_X9_caveFact : plainName MX9_caveFact.2.2.2.2.cls = true := by decide +kernel
abbrev MX9_chord : JM := (cX9_chord, 3, RX9, (some .int), yX9_chord)
theorem jn_X9_chord : jnm MX9_chord 2 := by decide +kernel
theorem jp_X9_chord : plainName MX9_chord.2.2.2.2.cls = true := by decide +kernel
abbrev MX9_chordFact : JM := (cX9_chordFact, 3, RX9, (some .int), yX9_chordFact)
theorem jn_X9_chordFact : jnm MX9_chordFact 2 := by decide +kernel
theorem jp_X9_chordFact : plainName MX9_chordFact.2.2.2.2.cls = true := by decide +kernel
abbrev MX9_chordsSounding : JM := (cX9_chordsSounding, 3, RX9, (some .int), yX9_chordsSounding)
theorem jn_X9_chordsSounding : jnm MX9_chordsSounding 0 := by decide +kernel
theorem jp_X9_chordsSounding : plainName MX9_chordsSounding.2.2.2.2.cls = true := by decide +kernel
abbrev MX9_clean : JM := (cX9_clean, 3, RX9, (some .int), yX9_clean)
theorem jn_X9_clean : jnm MX9_clean 1 := by decide +kernel
theorem jp_X9_clean : plainName MX9_clean.2.2.2.2.cls = true := by decide +kernel
abbrev MX9_copy : JM := (cX9_copy, 3, RX9, none, yX9_copy)
theorem jn_X9_copy : jnm MX9_copy 2 := by decide +kernel
theorem jp_X9_copy : plainName MX9_copy.2.2.2.2.cls = true := by decide +kernel
abbrev MX9_count : JM := (cX9_count, 2, RX9, (some .int), yX9_count)
theorem jn_X9_count : jnm MX9_count 1 := by decide +kernel
theorem jp_X9_count : plainName MX9_count.2.2.2.2.cls = true := by decide +kernel
abbrev MX9_countFact : JM := (cX9_countFact, 2, RX9, (some .int), yX9_countFact)
theorem jn_X9_countFact : jnm MX9_countFact 1 := by decide +kernel
theorem jp_X9_countFact : plainName MX9_countFact.2.2.2.2.cls = true := by decide +kernel
abbrev MX9_cut : JM := (cX9_cut, 4, RX9, (some .int), yX9_cut)
theorem jn_X9_cut : jnm MX9_cut 2 := by decide +kernel
theorem jp_X9_cut : plainName MX9_cut.2.2.2.2.cls = true := by decide +kernel
abbrev MX9_digest : JM := (cX9_digest, 5, RX9, (some .long), yX9_digest)
theorem jn_X9_digest : jnm MX9_digest 0 := by decide +kernel
theorem jp_X9_digest : plainName MX9_digest.2.2.2.2.cls = true := by decide +kernel
abbrev MX9_digestChord : JM := (cX9_digestChord, 8, RX9, (some .long), yX9_digestChord)
theorem jn_X9_digestChord : jnm MX9_digestChord 2 := by decide +kernel
theorem jp_X9_digestChord : plainName MX9_digestChord.2.2.2.2.cls = true := by decide +kernel
abbrev MX9_empty : JM := (cX9_empty, 2, RX9, none, yX9_empty)
theorem jn_X9_empty : jnm MX9_empty 1 := by decide +kernel
theorem jp_X9_empty : plainName MX9_empty.2.2.2.2.cls = true := by decide +kernel
abbrev MX9_errorAt : JM := (cX9_errorAt, 1, RX9, (some .int), yX9_errorAt)
theorem jn_X9_errorAt : jnm MX9_errorAt 0 := by decide +kernel
theorem jp_X9_errorAt : plainName MX9_errorAt.2.2.2.2.cls = true := by decide +kernel
abbrev MX9_feed : JM := (cX9_feed, 6, RX9, (some .int), yX9_feed)
theorem jn_X9_feed : jnm MX9_feed 5 := by decide +kernel
theorem jp_X9_feed : plainName MX9_feed.2.2.2.2.cls = true := by decide +kernel
abbrev MX9_foresee : JM := (cX9_foresee, 3, RX9, (some .int), yX9_foresee)
theorem jn_X9_foresee : jnm MX9_foresee 2 := by decide +kernel
theorem jp_X9_foresee : plainName MX9_foresee.2.2.2.2.cls = true := by decide +kernel
abbrev MX9_gainByTide : JM := (cX9_gainByTide, 3, RX9, (some .int), yX9_gainByTide)
theorem jn_X9_gainByTide : jnm MX9_gainByTide 2 := by decide +kernel
theorem jp_X9_gainByTide : plainName MX9_gainByTide.2.2.2.2.cls = true := by decide +kernel
abbrev MX9_height : JM := (cX9_height, 2, RX9, (some .int), yX9_height)
theorem jn_X9_height : jnm MX9_height 1 := by decide +kernel
theorem jp_X9_height : plainName MX9_height.2.2.2.2.cls = true := by decide +kernel
abbrev MX9_isNoPipe : JM := (cX9_isNoPipe, 2, RX9, (some .boolean), yX9_isNoPipe)
theorem jn_X9_isNoPipe : jnm MX9_isNoPipe 1 := by decide +kernel
theorem jp_X9_isNoPipe : plainName MX9_isNoPipe.2.2.2.2.cls = true := by decide +kernel
abbrev MX9_isSilent : JM := (cX9_isSilent, 2, RX9, (some .boolean), yX9_isSilent)
theorem jn_X9_isSilent : jnm MX9_isSilent 1 := by decide +kernel
theorem jp_X9_isSilent : plainName MX9_isSilent.2.2.2.2.cls = true := by decide +kernel
abbrev MX9_mean : JM := (cX9_mean, 4, RX9, (some .double), yX9_mean)
theorem jn_X9_mean : jnm MX9_mean 0 := by decide +kernel
theorem jp_X9_mean : plainName MX9_mean.2.2.2.2.cls = true := by decide +kernel
abbrev MX9_note : JM := (cX9_note, 3, RX9, (some .int), yX9_note)
theorem jn_X9_note : jnm MX9_note 2 := by decide +kernel
theorem jp_X9_note : plainName MX9_note.2.2.2.2.cls = true := by decide +kernel
abbrev MX9_pass : JM := (cX9_pass, 3, RX9, (some .int), yX9_pass)
theorem jn_X9_pass : jnm MX9_pass 1 := by decide +kernel
theorem jp_X9_pass : plainName MX9_pass.2.2.2.2.cls = true := by decide +kernel
abbrev MX9_pipe : JM := (cX9_pipe, 3, RX9, (some .int), yX9_pipe)
theorem jn_X9_pipe : jnm MX9_pipe 2 := by decide +kernel
theorem jp_X9_pipe : plainName MX9_pipe.2.2.2.2.cls = true := by decide +kernel
abbrev MX9_pipeFact : JM := (cX9_pipeFact, 3, RX9, (some .int), yX9_pipeFact)
theorem jn_X9_pipeFact : jnm MX9_pipeFact 2 := by decide +kernel
theorem jp_X9_pipeFact : plainName MX9_pipeFact.2.2.2.2.cls = true := by decide +kernel
abbrev MX9_put : JM := (cX9_put, 3, RX9, none, yX9_put)
theorem jn_X9_put : jnm MX9_put 3 := by decide +kernel
theorem jp_X9_put : plainName MX9_put.2.2.2.2.cls = true := by decide +kernel
abbrev MX9_setTide : JM := (cX9_setTide, 3, RX9, (some .int), yX9_setTide)
theorem jn_X9_setTide : jnm MX9_setTide 1 := by decide +kernel
theorem jp_X9_setTide : plainName MX9_setTide.2.2.2.2.cls = true := by decide +kernel
abbrev MX9_stepsBetween : JM := (cX9_stepsBetween, 5, RX9, (some .int), yX9_stepsBetween)
theorem jn_X9_stepsBetween : jnm MX9_stepsBetween 2 := by decide +kernel
theorem jp_X9_stepsBetween : plainName MX9_stepsBetween.2.2.2.2.cls = true := by decide +kernel
abbrev MX9_teach : JM := (cX9_teach, 2, RX9, (some .int), yX9_teach)
theorem jn_X9_teach : jnm MX9_teach 0 := by decide +kernel
theorem jp_X9_teach : plainName MX9_teach.2.2.2.2.cls = true := by decide +kernel
abbrev MX9_trim : JM := (cX9_trim, 2, RX9, (some .int), yX9_trim)
theorem jn_X9_trim : jnm MX9_trim 1 := by decide +kernel
theorem jp_X9_trim : plainName MX9_trim.2.2.2.2.cls = true := by decide +kernel
abbrev MX9_until : JM := (cX9_until, 3, RX9, (some .int), yX9_until)
theorem jn_X9_until : jnm MX9_until 1 := by decide +kernel
theorem jp_X9_until : plainName MX9_until.2.2.2.2.cls = true := by decide +kernel
theorem jw_155 : Cond.fieldLink RX6 15 "DriftOrgan$Tape" "length" "I" ∈ jGL := jmem 155 (by decide +kernel) rfl
theorem jw_154 : Cond.fieldLink RX6 9 "DriftOrgan$Tape" "bytes" "[B" ∈ jGL := jmem 154 (by decide +kernel) rfl
theorem jw_243 : Cond.fieldLink RX2 30 "DriftOrgan$Orders" "told" "I" ∈ jGL := jmem 243 (by decide +kernel) rfl
theorem jw_247 : Cond.fieldLink RX2 34 "DriftOrgan$Orders" "steps" "I" ∈ jGL := jmem 247 (by decide +kernel) rfl
theorem jw_231 : Cond.fieldLink RX2 9 "DriftOrgan$Orders" "sorts" "[I" ∈ jGL := jmem 231 (by decide +kernel) rfl
theorem jw_603 : Cond.code yX9_put cX9_put 3 none ∈ jGL := jmem 603 (by decide +kernel) rfl
theorem jw_115 : Cond.initialized RX9 ∈ jGL := jmem 115 (by decide +kernel) rfl
theorem jw_602 : Cond.static yX9_put ∈ jGL := jmem 602 (by decide +kernel) rfl
theorem jw_759 : Cond.methodLinkNest RX2 37 yX9_put "DriftOrgan" ∈ jGL := jmem 759 (by decide +kernel) rfl
theorem jw_233 : Cond.fieldLink RX2 15 "DriftOrgan$Orders" "targets" "[I" ∈ jGL := jmem 233 (by decide +kernel) rfl
theorem jw_235 : Cond.fieldLink RX2 18 "DriftOrgan$Orders" "firstSteps" "[I" ∈ jGL := jmem 235 (by decide +kernel) rfl
theorem jw_237 : Cond.fieldLink RX2 21 "DriftOrgan$Orders" "endSteps" "[I" ∈ jGL := jmem 237 (by decide +kernel) rfl
theorem jw_239 : Cond.fieldLink RX2 24 "DriftOrgan$Orders" "stepSorts" "[I" ∈ jGL := jmem 239 (by decide +kernel) rfl
theorem jw_241 : Cond.fieldLink RX2 27 "DriftOrgan$Orders" "operands" "[I" ∈ jGL := jmem 241 (by decide +kernel) rfl
theorem jw_381 : Cond.fieldLink RX1 9 "DriftOrgan$Moment" "pressures" "[I" ∈ jGL := jmem 381 (by decide +kernel) rfl
theorem jw_835 : Cond.code yX9_empty cX9_empty 2 none ∈ jGL := jmem 835 (by decide +kernel) rfl
theorem jw_834 : Cond.static yX9_empty ∈ jGL := jmem 834 (by decide +kernel) rfl
theorem jw_833 : Cond.methodLinkNest RX1 31 yX9_empty "DriftOrgan" ∈ jGL := jmem 833 (by decide +kernel) rfl
theorem jw_385 : Cond.fieldLink RX1 15 "DriftOrgan$Moment" "silts" "[I" ∈ jGL := jmem 385 (by decide +kernel) rfl
theorem jw_389 : Cond.fieldLink RX1 18 "DriftOrgan$Moment" "louds" "[I" ∈ jGL := jmem 389 (by decide +kernel) rfl
theorem jw_393 : Cond.fieldLink RX1 21 "DriftOrgan$Moment" "pipeHours" "[I" ∈ jGL := jmem 393 (by decide +kernel) rfl
theorem jw_396 : Cond.fieldLink RX1 24 "DriftOrgan$Moment" "chordHours" "[I" ∈ jGL := jmem 396 (by decide +kernel) rfl
theorem jw_406 : Cond.fieldLink RX1 35 "DriftOrgan$Moment" "listeners" "I" ∈ jGL := jmem 406 (by decide +kernel) rfl
theorem jw_410 : Cond.fieldLink RX1 38 "DriftOrgan$Moment" "complaints" "I" ∈ jGL := jmem 410 (by decide +kernel) rfl
theorem jw_1225 : Cond.code yX9_copy cX9_copy 3 none ∈ jGL := jmem 1225 (by decide +kernel) rfl
theorem jw_1224 : Cond.static yX9_copy ∈ jGL := jmem 1224 (by decide +kernel) rfl
theorem jw_1223 : Cond.methodLinkNest RX1 41 yX9_copy "DriftOrgan" ∈ jGL := jmem 1223 (by decide +kernel) rfl
theorem jw_400 : Cond.fieldLink RX1 45 "DriftOrgan$Moment" "hour" "I" ∈ jGL := jmem 400 (by decide +kernel) rfl
theorem jw_402 : Cond.fieldLink RX1 27 "DriftOrgan$Moment" "tide" "I" ∈ jGL := jmem 402 (by decide +kernel) rfl
theorem jw_725 : Cond.code yX9_at cX9_at 2 (some .int) ∈ jGL := jmem 725 (by decide +kernel) rfl
theorem jw_724 : Cond.static yX9_at ∈ jGL := jmem 724 (by decide +kernel) rfl
theorem jw_852 : Cond.methodLinkNest RX1 48 yX9_at "DriftOrgan" ∈ jGL := jmem 852 (by decide +kernel) rfl
theorem jw_851 : Cond.code yX1_sounds cX1_sounds 2 (some .boolean) ∈ jGL := jmem 851 (by decide +kernel) rfl
theorem jw_124 : Cond.initialized RX1 ∈ jGL := jmem 124 (by decide +kernel) rfl
theorem jw_848 : Cond.methodLink RX1 52 yX1_sounds ∈ jGL := jmem 848 (by decide +kernel) rfl
theorem jw_849 : Cond.instanceMethod yX1_sounds ∈ jGL := jmem 849 (by decide +kernel) rfl
theorem jw_850 : Cond.selects RX1 yX1_sounds yX1_sounds ∈ jGL := jmem 850 (by decide +kernel) rfl
theorem jw_204 : Cond.fieldLink RX8 27 "DriftOrgan$Weather" "swells" "I" ∈ jGL := jmem 204 (by decide +kernel) rfl
theorem jw_207 : Cond.fieldLink RX8 31 "DriftOrgan$Weather" "silences" "I" ∈ jGL := jmem 207 (by decide +kernel) rfl
theorem jw_199 : Cond.fieldLink RX8 9 "DriftOrgan$Weather" "highs" "[I" ∈ jGL := jmem 199 (by decide +kernel) rfl
theorem jw_698 : Cond.methodLinkNest RX8 34 yX9_put "DriftOrgan" ∈ jGL := jmem 698 (by decide +kernel) rfl
theorem jw_200 : Cond.fieldLink RX8 15 "DriftOrgan$Weather" "everies" "[I" ∈ jGL := jmem 200 (by decide +kernel) rfl
theorem jw_201 : Cond.fieldLink RX8 18 "DriftOrgan$Weather" "swellFroms" "[I" ∈ jGL := jmem 201 (by decide +kernel) rfl
theorem jw_202 : Cond.fieldLink RX8 21 "DriftOrgan$Weather" "silenceFroms" "[I" ∈ jGL := jmem 202 (by decide +kernel) rfl
theorem jw_203 : Cond.fieldLink RX8 24 "DriftOrgan$Weather" "silenceTos" "[I" ∈ jGL := jmem 203 (by decide +kernel) rfl
theorem jw_893 : Cond.methodLinkNest RX8 38 yX9_at "DriftOrgan" ∈ jGL := jmem 893 (by decide +kernel) rfl
theorem jw_236 : Cond.fieldLinkNest RX0 15 "DriftOrgan$Orders" "firstSteps" "[I" "DriftOrgan" ∈ jGL := jmem 236 (by decide +kernel) rfl
theorem jw_899 : Cond.methodLinkNest RX0 20 yX9_at "DriftOrgan" ∈ jGL := jmem 899 (by decide +kernel) rfl
theorem jw_238 : Cond.fieldLinkNest RX0 24 "DriftOrgan$Orders" "endSteps" "[I" "DriftOrgan" ∈ jGL := jmem 238 (by decide +kernel) rfl
theorem jw_365 : Cond.fieldLink RX0 27 "DriftOrgan$Judge" "top" "I" ∈ jGL := jmem 365 (by decide +kernel) rfl
theorem jw_903 : Cond.code yX0_pop cX0_pop 1 (some .int) ∈ jGL := jmem 903 (by decide +kernel) rfl
theorem jw_123 : Cond.initialized RX0 ∈ jGL := jmem 123 (by decide +kernel) rfl
theorem jw_900 : Cond.methodLink RX0 34 yX0_pop ∈ jGL := jmem 900 (by decide +kernel) rfl
theorem jw_902 : Cond.instanceMethod yX0_pop ∈ jGL := jmem 902 (by decide +kernel) rfl
theorem jw_33 : Cond.selects RX0 yX0_pop yX0_pop ∈ jGL := jmem 33 (by decide +kernel) rfl
theorem jw_240 : Cond.fieldLinkNest RX0 31 "DriftOrgan$Orders" "stepSorts" "[I" "DriftOrgan" ∈ jGL := jmem 240 (by decide +kernel) rfl
theorem jw_911 : Cond.code yX0_isOperand cX0_isOperand 1 (some .boolean) ∈ jGL := jmem 911 (by decide +kernel) rfl
theorem jw_910 : Cond.static yX0_isOperand ∈ jGL := jmem 910 (by decide +kernel) rfl
theorem jw_909 : Cond.methodLink RX0 42 yX0_isOperand ∈ jGL := jmem 909 (by decide +kernel) rfl
theorem jw_907 : Cond.code yX0_push cX0_push 2 none ∈ jGL := jmem 907 (by decide +kernel) rfl
theorem jw_904 : Cond.methodLink RX0 38 yX0_push ∈ jGL := jmem 904 (by decide +kernel) rfl
theorem jw_906 : Cond.instanceMethod yX0_push ∈ jGL := jmem 906 (by decide +kernel) rfl
theorem jw_34 : Cond.selects RX0 yX0_push yX0_push ∈ jGL := jmem 34 (by decide +kernel) rfl
theorem jw_242 : Cond.fieldLinkNest RX0 46 "DriftOrgan$Orders" "operands" "[I" "DriftOrgan" ∈ jGL := jmem 242 (by decide +kernel) rfl
theorem jw_914 : Cond.code yX0_reading cX0_reading 3 (some .int) ∈ jGL := jmem 914 (by decide +kernel) rfl
theorem jw_913 : Cond.static yX0_reading ∈ jGL := jmem 913 (by decide +kernel) rfl
theorem jw_912 : Cond.methodLink RX0 49 yX0_reading ∈ jGL := jmem 912 (by decide +kernel) rfl
theorem jw_921 : Cond.code yX0_joined cX0_joined 3 (some .int) ∈ jGL := jmem 921 (by decide +kernel) rfl
theorem jw_920 : Cond.static yX0_joined ∈ jGL := jmem 920 (by decide +kernel) rfl
theorem jw_919 : Cond.methodLink RX0 53 yX0_joined ∈ jGL := jmem 919 (by decide +kernel) rfl
theorem jw_364 : Cond.fieldLink RX0 9 "DriftOrgan$Judge" "stack" "[I" ∈ jGL := jmem 364 (by decide +kernel) rfl
theorem jw_908 : Cond.methodLinkNest RX0 57 yX9_put "DriftOrgan" ∈ jGL := jmem 908 (by decide +kernel) rfl
theorem jw_918 : Cond.code yX1_hourOfDay cX1_hourOfDay 1 (some .int) ∈ jGL := jmem 918 (by decide +kernel) rfl
theorem jw_915 : Cond.methodLink RX0 61 yX1_hourOfDay ∈ jGL := jmem 915 (by decide +kernel) rfl
theorem jw_916 : Cond.instanceMethod yX1_hourOfDay ∈ jGL := jmem 916 (by decide +kernel) rfl
theorem jw_917 : Cond.selects RX1 yX1_hourOfDay yX1_hourOfDay ∈ jGL := jmem 917 (by decide +kernel) rfl
theorem jw_404 : Cond.fieldLinkNest RX0 66 "DriftOrgan$Moment" "tide" "I" "DriftOrgan" ∈ jGL := jmem 404 (by decide +kernel) rfl
theorem jw_383 : Cond.fieldLinkNest RX0 72 "DriftOrgan$Moment" "pressures" "[I" "DriftOrgan" ∈ jGL := jmem 383 (by decide +kernel) rfl
theorem jw_387 : Cond.fieldLinkNest RX0 75 "DriftOrgan$Moment" "silts" "[I" "DriftOrgan" ∈ jGL := jmem 387 (by decide +kernel) rfl
theorem jw_391 : Cond.fieldLinkNest RX0 78 "DriftOrgan$Moment" "louds" "[I" "DriftOrgan" ∈ jGL := jmem 391 (by decide +kernel) rfl
theorem jw_407 : Cond.fieldLinkNest RX0 69 "DriftOrgan$Moment" "listeners" "I" "DriftOrgan" ∈ jGL := jmem 407 (by decide +kernel) rfl
theorem jw_922 : Cond.methodLink RX0 81 Lib.Math.min.name ∈ jGL := jmem 922 (by decide +kernel) rfl
theorem jw_561 : Cond.static Lib.Math.min.name ∈ jGL := jmem 561 (by decide +kernel) rfl
theorem jw_136 : Cond.initialized "java/lang/Math" ∈ jGL := jmem 136 (by decide +kernel) rfl
theorem jw_562 : Cond.code Lib.Math.min.name Lib.Math.min.code 2 (some .int) ∈ jGL := jmem 562 (by decide +kernel) rfl
theorem jw_923 : Cond.methodLink RX0 87 Lib.Math.max.name ∈ jGL := jmem 923 (by decide +kernel) rfl
theorem jw_558 : Cond.static Lib.Math.max.name ∈ jGL := jmem 558 (by decide +kernel) rfl
theorem jw_559 : Cond.code Lib.Math.max.name Lib.Math.max.code 2 (some .int) ∈ jGL := jmem 559 (by decide +kernel) rfl
theorem jw_289 : Cond.fieldLink RX3 47 "DriftOrgan$Organ" "caves" "I" ∈ jGL := jmem 289 (by decide +kernel) rfl
theorem jw_293 : Cond.fieldLink RX3 51 "DriftOrgan$Organ" "pipes" "I" ∈ jGL := jmem 293 (by decide +kernel) rfl
theorem jw_297 : Cond.fieldLink RX3 54 "DriftOrgan$Organ" "chords" "I" ∈ jGL := jmem 297 (by decide +kernel) rfl
theorem jw_281 : Cond.fieldLink RX3 36 "DriftOrgan$Organ" "weather" "LDriftOrgan$Weather;" ∈ jGL := jmem 281 (by decide +kernel) rfl
theorem jw_622 : Cond.code yX8_begin cX8_begin 1 none ∈ jGL := jmem 622 (by decide +kernel) rfl
theorem jw_120 : Cond.initialized RX8 ∈ jGL := jmem 120 (by decide +kernel) rfl
theorem jw_619 : Cond.methodLink RX3 57 yX8_begin ∈ jGL := jmem 619 (by decide +kernel) rfl
theorem jw_620 : Cond.instanceMethod yX8_begin ∈ jGL := jmem 620 (by decide +kernel) rfl
theorem jw_621 : Cond.selects RX8 yX8_begin yX8_begin ∈ jGL := jmem 621 (by decide +kernel) rfl
theorem jw_285 : Cond.fieldLink RX3 43 "DriftOrgan$Organ" "orders" "LDriftOrgan$Orders;" ∈ jGL := jmem 285 (by decide +kernel) rfl
theorem jw_626 : Cond.code yX2_begin cX2_begin 1 none ∈ jGL := jmem 626 (by decide +kernel) rfl
theorem jw_121 : Cond.initialized RX2 ∈ jGL := jmem 121 (by decide +kernel) rfl
theorem jw_623 : Cond.methodLink RX3 60 yX2_begin ∈ jGL := jmem 623 (by decide +kernel) rfl
theorem jw_624 : Cond.instanceMethod yX2_begin ∈ jGL := jmem 624 (by decide +kernel) rfl
theorem jw_625 : Cond.selects RX2 yX2_begin yX2_begin ∈ jGL := jmem 625 (by decide +kernel) rfl
theorem jw_265 : Cond.fieldLink RX3 9 "DriftOrgan$Organ" "mouths" "[I" ∈ jGL := jmem 265 (by decide +kernel) rfl
theorem jw_677 : Cond.methodLinkNest RX3 61 yX9_put "DriftOrgan" ∈ jGL := jmem 677 (by decide +kernel) rfl
theorem jw_268 : Cond.fieldLink RX3 15 "DriftOrgan$Organ" "deeps" "[I" ∈ jGL := jmem 268 (by decide +kernel) rfl
theorem jw_271 : Cond.fieldLink RX3 18 "DriftOrgan$Organ" "homes" "[I" ∈ jGL := jmem 271 (by decide +kernel) rfl
theorem jw_274 : Cond.fieldLink RX3 21 "DriftOrgan$Organ" "lengths" "[I" ∈ jGL := jmem 274 (by decide +kernel) rfl
theorem jw_276 : Cond.fieldLink RX3 24 "DriftOrgan$Organ" "reeds" "[I" ∈ jGL := jmem 276 (by decide +kernel) rfl
theorem jw_279 : Cond.fieldLink RX3 27 "DriftOrgan$Organ" "sizes" "[I" ∈ jGL := jmem 279 (by decide +kernel) rfl
theorem jw_722 : Cond.code yX3_sizeOf cX3_sizeOf 2 (some .int) ∈ jGL := jmem 722 (by decide +kernel) rfl
theorem jw_119 : Cond.initialized RX3 ∈ jGL := jmem 119 (by decide +kernel) rfl
theorem jw_730 : Cond.methodLink RX3 65 yX3_sizeOf ∈ jGL := jmem 730 (by decide +kernel) rfl
theorem jw_720 : Cond.instanceMethod yX3_sizeOf ∈ jGL := jmem 720 (by decide +kernel) rfl
theorem jw_721 : Cond.selects RX3 yX3_sizeOf yX3_sizeOf ∈ jGL := jmem 721 (by decide +kernel) rfl
theorem jw_280 : Cond.fieldLink RX3 30 "DriftOrgan$Organ" "notes" "[I" ∈ jGL := jmem 280 (by decide +kernel) rfl
theorem jw_723 : Cond.methodLinkNest RX3 69 yX9_at "DriftOrgan" ∈ jGL := jmem 723 (by decide +kernel) rfl
theorem jw_734 : Cond.code yX3_noteAt cX3_noteAt 3 (some .int) ∈ jGL := jmem 734 (by decide +kernel) rfl
theorem jw_731 : Cond.methodLink RX3 73 yX3_noteAt ∈ jGL := jmem 731 (by decide +kernel) rfl
theorem jw_732 : Cond.instanceMethod yX3_noteAt ∈ jGL := jmem 732 (by decide +kernel) rfl
theorem jw_733 : Cond.selects RX3 yX3_noteAt yX3_noteAt ∈ jGL := jmem 733 (by decide +kernel) rfl
theorem jw_872 : Cond.methodLink RX3 77 yX1_sounds ∈ jGL := jmem 872 (by decide +kernel) rfl
theorem jw_945 : Cond.methodLink RX3 83 Lib.Math.min.name ∈ jGL := jmem 945 (by decide +kernel) rfl
theorem jw_946 : Cond.methodLink RX3 88 Lib.Math.max.name ∈ jGL := jmem 946 (by decide +kernel) rfl
theorem jw_1185 : Cond.code yX4_pressCaves cX4_pressCaves 7 none ∈ jGL := jmem 1185 (by decide +kernel) rfl
theorem jw_122 : Cond.initialized RX4 ∈ jGL := jmem 122 (by decide +kernel) rfl
theorem jw_1182 : Cond.methodLink RX4 18 yX4_pressCaves ∈ jGL := jmem 1182 (by decide +kernel) rfl
theorem jw_1184 : Cond.instanceMethod yX4_pressCaves ∈ jGL := jmem 1184 (by decide +kernel) rfl
theorem jw_40 : Cond.selects RX4 yX4_pressCaves yX4_pressCaves ∈ jGL := jmem 40 (by decide +kernel) rfl
theorem jw_1192 : Cond.code yX4_soundPipes cX4_soundPipes 6 none ∈ jGL := jmem 1192 (by decide +kernel) rfl
theorem jw_1189 : Cond.methodLink RX4 22 yX4_soundPipes ∈ jGL := jmem 1189 (by decide +kernel) rfl
theorem jw_1191 : Cond.instanceMethod yX4_soundPipes ∈ jGL := jmem 1191 (by decide +kernel) rfl
theorem jw_41 : Cond.selects RX4 yX4_soundPipes yX4_soundPipes ∈ jGL := jmem 41 (by decide +kernel) rfl
theorem jw_1199 : Cond.code yX4_siltPipes cX4_siltPipes 5 none ∈ jGL := jmem 1199 (by decide +kernel) rfl
theorem jw_1196 : Cond.methodLink RX4 25 yX4_siltPipes ∈ jGL := jmem 1196 (by decide +kernel) rfl
theorem jw_1198 : Cond.instanceMethod yX4_siltPipes ∈ jGL := jmem 1198 (by decide +kernel) rfl
theorem jw_42 : Cond.selects RX4 yX4_siltPipes yX4_siltPipes ∈ jGL := jmem 42 (by decide +kernel) rfl
theorem jw_1204 : Cond.code yX4_cleanByOrders cX4_cleanByOrders 5 none ∈ jGL := jmem 1204 (by decide +kernel) rfl
theorem jw_1201 : Cond.methodLink RX4 28 yX4_cleanByOrders ∈ jGL := jmem 1201 (by decide +kernel) rfl
theorem jw_1203 : Cond.instanceMethod yX4_cleanByOrders ∈ jGL := jmem 1203 (by decide +kernel) rfl
theorem jw_43 : Cond.selects RX4 yX4_cleanByOrders yX4_cleanByOrders ∈ jGL := jmem 43 (by decide +kernel) rfl
theorem jw_1208 : Cond.code yX4_soundChords cX4_soundChords 7 none ∈ jGL := jmem 1208 (by decide +kernel) rfl
theorem jw_1205 : Cond.methodLink RX4 31 yX4_soundChords ∈ jGL := jmem 1205 (by decide +kernel) rfl
theorem jw_1207 : Cond.instanceMethod yX4_soundChords ∈ jGL := jmem 1207 (by decide +kernel) rfl
theorem jw_44 : Cond.selects RX4 yX4_soundChords yX4_soundChords ∈ jGL := jmem 44 (by decide +kernel) rfl
theorem jw_399 : Cond.fieldLinkNest RX4 34 "DriftOrgan$Moment" "hour" "I" "DriftOrgan" ∈ jGL := jmem 399 (by decide +kernel) rfl
theorem jw_282 : Cond.fieldLinkNest RX4 40 "DriftOrgan$Organ" "weather" "LDriftOrgan$Weather;" "DriftOrgan" ∈ jGL := jmem 282 (by decide +kernel) rfl
theorem jw_892 : Cond.code yX8_isStill cX8_isStill 8 (some .boolean) ∈ jGL := jmem 892 (by decide +kernel) rfl
theorem jw_889 : Cond.methodLink RX4 46 yX8_isStill ∈ jGL := jmem 889 (by decide +kernel) rfl
theorem jw_890 : Cond.instanceMethod yX8_isStill ∈ jGL := jmem 890 (by decide +kernel) rfl
theorem jw_891 : Cond.selects RX8 yX8_isStill yX8_isStill ∈ jGL := jmem 891 (by decide +kernel) rfl
theorem jw_286 : Cond.fieldLinkNest RX4 52 "DriftOrgan$Organ" "orders" "LDriftOrgan$Orders;" "DriftOrgan" ∈ jGL := jmem 286 (by decide +kernel) rfl
theorem jw_244 : Cond.fieldLinkNest RX4 56 "DriftOrgan$Orders" "told" "I" "DriftOrgan" ∈ jGL := jmem 244 (by decide +kernel) rfl
theorem jw_232 : Cond.fieldLinkNest RX4 61 "DriftOrgan$Orders" "sorts" "[I" "DriftOrgan" ∈ jGL := jmem 232 (by decide +kernel) rfl
theorem jw_894 : Cond.methodLinkNest RX4 65 yX9_at "DriftOrgan" ∈ jGL := jmem 894 (by decide +kernel) rfl
theorem jw_234 : Cond.fieldLinkNest RX4 69 "DriftOrgan$Orders" "targets" "[I" "DriftOrgan" ∈ jGL := jmem 234 (by decide +kernel) rfl
theorem jw_371 : Cond.fieldLink RX4 12 "DriftOrgan$Play" "judge" "LDriftOrgan$Judge;" ∈ jGL := jmem 371 (by decide +kernel) rfl
theorem jw_898 : Cond.code yX0_holds cX0_holds 9 (some .boolean) ∈ jGL := jmem 898 (by decide +kernel) rfl
theorem jw_895 : Cond.methodLink RX4 72 yX0_holds ∈ jGL := jmem 895 (by decide +kernel) rfl
theorem jw_896 : Cond.instanceMethod yX0_holds ∈ jGL := jmem 896 (by decide +kernel) rfl
theorem jw_897 : Cond.selects RX0 yX0_holds yX0_holds ∈ jGL := jmem 897 (by decide +kernel) rfl
theorem jw_403 : Cond.fieldLinkNest RX4 76 "DriftOrgan$Moment" "tide" "I" "DriftOrgan" ∈ jGL := jmem 403 (by decide +kernel) rfl
theorem jw_951 : Cond.code yX8_heightIn cX8_heightIn 7 (some .int) ∈ jGL := jmem 951 (by decide +kernel) rfl
theorem jw_1186 : Cond.methodLink RX4 79 yX8_heightIn ∈ jGL := jmem 1186 (by decide +kernel) rfl
theorem jw_949 : Cond.instanceMethod yX8_heightIn ∈ jGL := jmem 949 (by decide +kernel) rfl
theorem jw_950 : Cond.selects RX8 yX8_heightIn yX8_heightIn ∈ jGL := jmem 950 (by decide +kernel) rfl
theorem jw_290 : Cond.fieldLinkNest RX4 83 "DriftOrgan$Organ" "caves" "I" "DriftOrgan" ∈ jGL := jmem 290 (by decide +kernel) rfl
theorem jw_269 : Cond.fieldLinkNest RX4 86 "DriftOrgan$Organ" "deeps" "[I" "DriftOrgan" ∈ jGL := jmem 269 (by decide +kernel) rfl
theorem jw_888 : Cond.code yX4_isShut cX4_isShut 6 (some .boolean) ∈ jGL := jmem 888 (by decide +kernel) rfl
theorem jw_1187 : Cond.methodLink RX4 89 yX4_isShut ∈ jGL := jmem 1187 (by decide +kernel) rfl
theorem jw_886 : Cond.instanceMethod yX4_isShut ∈ jGL := jmem 886 (by decide +kernel) rfl
theorem jw_887 : Cond.selects RX4 yX4_isShut yX4_isShut ∈ jGL := jmem 887 (by decide +kernel) rfl
theorem jw_382 : Cond.fieldLinkNest RX4 93 "DriftOrgan$Moment" "pressures" "[I" "DriftOrgan" ∈ jGL := jmem 382 (by decide +kernel) rfl
theorem jw_1188 : Cond.methodLinkNest RX4 96 yX9_put "DriftOrgan" ∈ jGL := jmem 1188 (by decide +kernel) rfl
theorem jw_266 : Cond.fieldLinkNest RX4 100 "DriftOrgan$Organ" "mouths" "[I" "DriftOrgan" ∈ jGL := jmem 266 (by decide +kernel) rfl
theorem jw_294 : Cond.fieldLinkNest RX4 103 "DriftOrgan$Organ" "pipes" "I" "DriftOrgan" ∈ jGL := jmem 294 (by decide +kernel) rfl
theorem jw_272 : Cond.fieldLinkNest RX4 106 "DriftOrgan$Organ" "homes" "[I" "DriftOrgan" ∈ jGL := jmem 272 (by decide +kernel) rfl
theorem jw_386 : Cond.fieldLinkNest RX4 109 "DriftOrgan$Moment" "silts" "[I" "DriftOrgan" ∈ jGL := jmem 386 (by decide +kernel) rfl
theorem jw_931 : Cond.code yX3_needOf cX3_needOf 3 (some .int) ∈ jGL := jmem 931 (by decide +kernel) rfl
theorem jw_1193 : Cond.methodLink RX4 112 yX3_needOf ∈ jGL := jmem 1193 (by decide +kernel) rfl
theorem jw_929 : Cond.instanceMethod yX3_needOf ∈ jGL := jmem 929 (by decide +kernel) rfl
theorem jw_930 : Cond.selects RX3 yX3_needOf yX3_needOf ∈ jGL := jmem 930 (by decide +kernel) rfl
theorem jw_390 : Cond.fieldLinkNest RX4 115 "DriftOrgan$Moment" "louds" "[I" "DriftOrgan" ∈ jGL := jmem 390 (by decide +kernel) rfl
theorem jw_1194 : Cond.methodLink RX4 118 Lib.Math.max.name ∈ jGL := jmem 1194 (by decide +kernel) rfl
theorem jw_1195 : Cond.methodLink RX4 123 yX1_sounds ∈ jGL := jmem 1195 (by decide +kernel) rfl
theorem jw_394 : Cond.fieldLinkNest RX4 126 "DriftOrgan$Moment" "pipeHours" "[I" "DriftOrgan" ∈ jGL := jmem 394 (by decide +kernel) rfl
theorem jw_277 : Cond.fieldLinkNest RX4 129 "DriftOrgan$Organ" "reeds" "[I" "DriftOrgan" ∈ jGL := jmem 277 (by decide +kernel) rfl
theorem jw_1200 : Cond.methodLink RX4 132 Lib.Math.min.name ∈ jGL := jmem 1200 (by decide +kernel) rfl
theorem jw_1209 : Cond.methodLink RX4 135 yX1_hourOfDay ∈ jGL := jmem 1209 (by decide +kernel) rfl
theorem jw_298 : Cond.fieldLinkNest RX4 139 "DriftOrgan$Organ" "chords" "I" "DriftOrgan" ∈ jGL := jmem 298 (by decide +kernel) rfl
theorem jw_871 : Cond.code yX3_chordSounds cX3_chordSounds 5 (some .boolean) ∈ jGL := jmem 871 (by decide +kernel) rfl
theorem jw_1210 : Cond.methodLink RX4 142 yX3_chordSounds ∈ jGL := jmem 1210 (by decide +kernel) rfl
theorem jw_869 : Cond.instanceMethod yX3_chordSounds ∈ jGL := jmem 869 (by decide +kernel) rfl
theorem jw_870 : Cond.selects RX3 yX3_chordSounds yX3_chordSounds ∈ jGL := jmem 870 (by decide +kernel) rfl
theorem jw_1211 : Cond.methodLink RX4 146 yX3_sizeOf ∈ jGL := jmem 1211 (by decide +kernel) rfl
theorem jw_408 : Cond.fieldLinkNest RX4 150 "DriftOrgan$Moment" "listeners" "I" "DriftOrgan" ∈ jGL := jmem 408 (by decide +kernel) rfl
theorem jw_411 : Cond.fieldLinkNest RX4 153 "DriftOrgan$Moment" "complaints" "I" "DriftOrgan" ∈ jGL := jmem 411 (by decide +kernel) rfl
theorem jw_397 : Cond.fieldLinkNest RX4 156 "DriftOrgan$Moment" "chordHours" "[I" "DriftOrgan" ∈ jGL := jmem 397 (by decide +kernel) rfl
theorem jw_169 : Cond.fieldLink RX7 9 "DriftOrgan$Tokens" "kinds" "[I" ∈ jGL := jmem 169 (by decide +kernel) rfl
theorem jw_469 : Cond.code yX7_behindBlanks cX7_behindBlanks 3 (some .int) ∈ jGL := jmem 469 (by decide +kernel) rfl
theorem jw_117 : Cond.initialized RX7 ∈ jGL := jmem 117 (by decide +kernel) rfl
theorem jw_468 : Cond.static yX7_behindBlanks ∈ jGL := jmem 468 (by decide +kernel) rfl
theorem jw_467 : Cond.methodLink RX7 22 yX7_behindBlanks ∈ jGL := jmem 467 (by decide +kernel) rfl
theorem jw_479 : Cond.code yX7_behindToken cX7_behindToken 5 (some .int) ∈ jGL := jmem 479 (by decide +kernel) rfl
theorem jw_478 : Cond.static yX7_behindToken ∈ jGL := jmem 478 (by decide +kernel) rfl
theorem jw_477 : Cond.methodLink RX7 26 yX7_behindToken ∈ jGL := jmem 477 (by decide +kernel) rfl
theorem jw_488 : Cond.code yX7_kindOf cX7_kindOf 5 (some .int) ∈ jGL := jmem 488 (by decide +kernel) rfl
theorem jw_487 : Cond.static yX7_kindOf ∈ jGL := jmem 487 (by decide +kernel) rfl
theorem jw_486 : Cond.methodLink RX7 29 yX7_kindOf ∈ jGL := jmem 486 (by decide +kernel) rfl
theorem jw_170 : Cond.fieldLink RX7 15 "DriftOrgan$Tokens" "starts" "[I" ∈ jGL := jmem 170 (by decide +kernel) rfl
theorem jw_601 : Cond.methodLinkNest RX7 33 yX9_put "DriftOrgan" ∈ jGL := jmem 601 (by decide +kernel) rfl
theorem jw_171 : Cond.fieldLink RX7 18 "DriftOrgan$Tokens" "worths" "[J" ∈ jGL := jmem 171 (by decide +kernel) rfl
theorem jw_606 : Cond.code yX7_worthOf cX7_worthOf 8 (some .long) ∈ jGL := jmem 606 (by decide +kernel) rfl
theorem jw_605 : Cond.static yX7_worthOf ∈ jGL := jmem 605 (by decide +kernel) rfl
theorem jw_604 : Cond.methodLink RX7 37 yX7_worthOf ∈ jGL := jmem 604 (by decide +kernel) rfl
theorem jw_824 : Cond.methodLinkNest RX7 41 yX9_at "DriftOrgan" ∈ jGL := jmem 824 (by decide +kernel) rfl
theorem jw_658 : Cond.code yX7_worthAt cX7_worthAt 2 (some .long) ∈ jGL := jmem 658 (by decide +kernel) rfl
theorem jw_672 : Cond.methodLink RX7 45 yX7_worthAt ∈ jGL := jmem 672 (by decide +kernel) rfl
theorem jw_656 : Cond.instanceMethod yX7_worthAt ∈ jGL := jmem 656 (by decide +kernel) rfl
theorem jw_657 : Cond.selects RX7 yX7_worthAt yX7_worthAt ∈ jGL := jmem 657 (by decide +kernel) rfl
theorem jw_473 : Cond.code yX6_byteAt cX6_byteAt 2 (some .int) ∈ jGL := jmem 473 (by decide +kernel) rfl
theorem jw_116 : Cond.initialized RX6 ∈ jGL := jmem 116 (by decide +kernel) rfl
theorem jw_470 : Cond.methodLink RX7 49 yX6_byteAt ∈ jGL := jmem 470 (by decide +kernel) rfl
theorem jw_471 : Cond.instanceMethod yX6_byteAt ∈ jGL := jmem 471 (by decide +kernel) rfl
theorem jw_472 : Cond.selects RX6 yX6_byteAt yX6_byteAt ∈ jGL := jmem 472 (by decide +kernel) rfl
theorem jw_476 : Cond.code yX7_isBlank cX7_isBlank 1 (some .boolean) ∈ jGL := jmem 476 (by decide +kernel) rfl
theorem jw_475 : Cond.static yX7_isBlank ∈ jGL := jmem 475 (by decide +kernel) rfl
theorem jw_474 : Cond.methodLink RX7 55 yX7_isBlank ∈ jGL := jmem 474 (by decide +kernel) rfl
theorem jw_482 : Cond.code yX7_isLetter cX7_isLetter 1 (some .boolean) ∈ jGL := jmem 482 (by decide +kernel) rfl
theorem jw_481 : Cond.static yX7_isLetter ∈ jGL := jmem 481 (by decide +kernel) rfl
theorem jw_480 : Cond.methodLink RX7 59 yX7_isLetter ∈ jGL := jmem 480 (by decide +kernel) rfl
theorem jw_485 : Cond.code yX7_isDigit cX7_isDigit 1 (some .boolean) ∈ jGL := jmem 485 (by decide +kernel) rfl
theorem jw_484 : Cond.static yX7_isDigit ∈ jGL := jmem 484 (by decide +kernel) rfl
theorem jw_483 : Cond.methodLink RX7 62 yX7_isDigit ∈ jGL := jmem 483 (by decide +kernel) rfl
theorem jw_491 : Cond.code yX7_wordKind cX7_wordKind 8 (some .int) ∈ jGL := jmem 491 (by decide +kernel) rfl
theorem jw_490 : Cond.static yX7_wordKind ∈ jGL := jmem 490 (by decide +kernel) rfl
theorem jw_489 : Cond.methodLink RX7 65 yX7_wordKind ∈ jGL := jmem 489 (by decide +kernel) rfl
theorem jw_434 : Cond.fieldLink RX9 10 "DriftOrgan" "tape" "LDriftOrgan$Tape;" ∈ jGL := jmem 434 (by decide +kernel) rfl
theorem jw_963 : Cond.code yX6_hasRoomFor cX6_hasRoomFor 2 (some .boolean) ∈ jGL := jmem 963 (by decide +kernel) rfl
theorem jw_960 : Cond.methodLink RX9 60 yX6_hasRoomFor ∈ jGL := jmem 960 (by decide +kernel) rfl
theorem jw_961 : Cond.instanceMethod yX6_hasRoomFor ∈ jGL := jmem 961 (by decide +kernel) rfl
theorem jw_962 : Cond.selects RX6 yX6_hasRoomFor yX6_hasRoomFor ∈ jGL := jmem 962 (by decide +kernel) rfl
theorem jw_1034 : Cond.code yX6_append cX6_append 3 none ∈ jGL := jmem 1034 (by decide +kernel) rfl
theorem jw_1031 : Cond.methodLink RX9 71 yX6_append ∈ jGL := jmem 1031 (by decide +kernel) rfl
theorem jw_1032 : Cond.instanceMethod yX6_append ∈ jGL := jmem 1032 (by decide +kernel) rfl
theorem jw_1033 : Cond.selects RX6 yX6_append yX6_append ∈ jGL := jmem 1033 (by decide +kernel) rfl
theorem jw_156 : Cond.fieldLinkNest RX9 75 "DriftOrgan$Tape" "length" "I" "DriftOrgan" ∈ jGL := jmem 156 (by decide +kernel) rfl
theorem jw_610 : Cond.code yX6_shorten cX6_shorten 2 none ∈ jGL := jmem 610 (by decide +kernel) rfl
theorem jw_607 : Cond.methodLink RX9 83 yX6_shorten ∈ jGL := jmem 607 (by decide +kernel) rfl
theorem jw_608 : Cond.instanceMethod yX6_shorten ∈ jGL := jmem 608 (by decide +kernel) rfl
theorem jw_609 : Cond.selects RX6 yX6_shorten yX6_shorten ∈ jGL := jmem 609 (by decide +kernel) rfl
theorem jw_435 : Cond.fieldLink RX9 19 "DriftOrgan" "tokens" "LDriftOrgan$Tokens;" ∈ jGL := jmem 435 (by decide +kernel) rfl
theorem jw_466 : Cond.code yX7_scan cX7_scan 6 none ∈ jGL := jmem 466 (by decide +kernel) rfl
theorem jw_463 : Cond.methodLink RX9 86 yX7_scan ∈ jGL := jmem 463 (by decide +kernel) rfl
theorem jw_464 : Cond.instanceMethod yX7_scan ∈ jGL := jmem 464 (by decide +kernel) rfl
theorem jw_465 : Cond.selects RX7 yX7_scan yX7_scan ∈ jGL := jmem 465 (by decide +kernel) rfl
theorem jw_436 : Cond.fieldLink RX9 28 "DriftOrgan" "reader" "LDriftOrgan$Reader;" ∈ jGL := jmem 436 (by decide +kernel) rfl
theorem jw_614 : Cond.code yX5_read cX5_read 3 (some .int) ∈ jGL := jmem 614 (by decide +kernel) rfl
theorem jw_118 : Cond.initialized RX5 ∈ jGL := jmem 118 (by decide +kernel) rfl
theorem jw_611 : Cond.methodLink RX9 90 yX5_read ∈ jGL := jmem 611 (by decide +kernel) rfl
theorem jw_612 : Cond.instanceMethod yX5_read ∈ jGL := jmem 612 (by decide +kernel) rfl
theorem jw_613 : Cond.selects RX5 yX5_read yX5_read ∈ jGL := jmem 613 (by decide +kernel) rfl
theorem jw_441 : Cond.fieldLink RX9 56 "DriftOrgan" "faultAt" "I" ∈ jGL := jmem 441 (by decide +kernel) rfl
theorem jw_440 : Cond.fieldLink RX9 52 "DriftOrgan" "organ" "LDriftOrgan$Organ;" ∈ jGL := jmem 440 (by decide +kernel) rfl
theorem jw_828 : Cond.code yX5_exchange cX5_exchange 3 (some (.object "DriftOrgan$Organ")) ∈ jGL := jmem 828 (by decide +kernel) rfl
theorem jw_825 : Cond.methodLink RX9 101 yX5_exchange ∈ jGL := jmem 825 (by decide +kernel) rfl
theorem jw_826 : Cond.instanceMethod yX5_exchange ∈ jGL := jmem 826 (by decide +kernel) rfl
theorem jw_827 : Cond.selects RX5 yX5_exchange yX5_exchange ∈ jGL := jmem 827 (by decide +kernel) rfl
theorem jw_334 : Cond.fieldLinkNest RX9 94 "DriftOrgan$Reader" "faultToken" "I" "DriftOrgan" ∈ jGL := jmem 334 (by decide +kernel) rfl
theorem jw_823 : Cond.code yX7_startOf cX7_startOf 2 (some .int) ∈ jGL := jmem 823 (by decide +kernel) rfl
theorem jw_820 : Cond.methodLink RX9 97 yX7_startOf ∈ jGL := jmem 820 (by decide +kernel) rfl
theorem jw_821 : Cond.instanceMethod yX7_startOf ∈ jGL := jmem 821 (by decide +kernel) rfl
theorem jw_822 : Cond.selects RX7 yX7_startOf yX7_startOf ∈ jGL := jmem 822 (by decide +kernel) rfl
theorem jw_438 : Cond.fieldLink RX9 42 "DriftOrgan" "now" "LDriftOrgan$Moment;" ∈ jGL := jmem 438 (by decide +kernel) rfl
theorem jw_832 : Cond.code yX1_begin cX1_begin 1 none ∈ jGL := jmem 832 (by decide +kernel) rfl
theorem jw_829 : Cond.methodLink RX9 105 yX1_begin ∈ jGL := jmem 829 (by decide +kernel) rfl
theorem jw_830 : Cond.instanceMethod yX1_begin ∈ jGL := jmem 830 (by decide +kernel) rfl
theorem jw_831 : Cond.selects RX1 yX1_begin yX1_begin ∈ jGL := jmem 831 (by decide +kernel) rfl
theorem jw_863 : Cond.code yX9_countFact cX9_countFact 2 (some .int) ∈ jGL := jmem 863 (by decide +kernel) rfl
theorem jw_860 : Cond.methodLink RX9 113 yX9_countFact ∈ jGL := jmem 860 (by decide +kernel) rfl
theorem jw_862 : Cond.instanceMethod yX9_countFact ∈ jGL := jmem 862 (by decide +kernel) rfl
theorem jw_30 : Cond.selects RX9 yX9_countFact yX9_countFact ∈ jGL := jmem 30 (by decide +kernel) rfl
theorem jw_291 : Cond.fieldLinkNest RX9 116 "DriftOrgan$Organ" "caves" "I" "DriftOrgan" ∈ jGL := jmem 291 (by decide +kernel) rfl
theorem jw_880 : Cond.code yX9_caveFact cX9_caveFact 3 (some .int) ∈ jGL := jmem 880 (by decide +kernel) rfl
theorem jw_877 : Cond.methodLink RX9 121 yX9_caveFact ∈ jGL := jmem 877 (by decide +kernel) rfl
theorem jw_879 : Cond.instanceMethod yX9_caveFact ∈ jGL := jmem 879 (by decide +kernel) rfl
theorem jw_32 : Cond.selects RX9 yX9_caveFact yX9_caveFact ∈ jGL := jmem 32 (by decide +kernel) rfl
theorem jw_1101 : Cond.code yX9_isNoPipe cX9_isNoPipe 2 (some .boolean) ∈ jGL := jmem 1101 (by decide +kernel) rfl
theorem jw_1098 : Cond.methodLink RX9 125 yX9_isNoPipe ∈ jGL := jmem 1098 (by decide +kernel) rfl
theorem jw_1100 : Cond.instanceMethod yX9_isNoPipe ∈ jGL := jmem 1100 (by decide +kernel) rfl
theorem jw_39 : Cond.selects RX9 yX9_isNoPipe yX9_isNoPipe ∈ jGL := jmem 39 (by decide +kernel) rfl
theorem jw_927 : Cond.code yX9_pipeFact cX9_pipeFact 3 (some .int) ∈ jGL := jmem 927 (by decide +kernel) rfl
theorem jw_924 : Cond.methodLink RX9 130 yX9_pipeFact ∈ jGL := jmem 924 (by decide +kernel) rfl
theorem jw_926 : Cond.instanceMethod yX9_pipeFact ∈ jGL := jmem 926 (by decide +kernel) rfl
theorem jw_35 : Cond.selects RX9 yX9_pipeFact yX9_pipeFact ∈ jGL := jmem 35 (by decide +kernel) rfl
theorem jw_299 : Cond.fieldLinkNest RX9 133 "DriftOrgan$Organ" "chords" "I" "DriftOrgan" ∈ jGL := jmem 299 (by decide +kernel) rfl
theorem jw_939 : Cond.code yX9_chordFact cX9_chordFact 3 (some .int) ∈ jGL := jmem 939 (by decide +kernel) rfl
theorem jw_936 : Cond.methodLink RX9 138 yX9_chordFact ∈ jGL := jmem 936 (by decide +kernel) rfl
theorem jw_938 : Cond.instanceMethod yX9_chordFact ∈ jGL := jmem 938 (by decide +kernel) rfl
theorem jw_37 : Cond.selects RX9 yX9_chordFact yX9_chordFact ∈ jGL := jmem 37 (by decide +kernel) rfl
theorem jw_940 : Cond.methodLink RX9 141 yX3_sizeOf ∈ jGL := jmem 940 (by decide +kernel) rfl
theorem jw_947 : Cond.methodLink RX9 146 yX3_noteAt ∈ jGL := jmem 947 (by decide +kernel) rfl
theorem jw_275 : Cond.fieldLinkNest RX9 151 "DriftOrgan$Organ" "lengths" "[I" "DriftOrgan" ∈ jGL := jmem 275 (by decide +kernel) rfl
theorem jw_853 : Cond.methodLink RX9 155 yX9_at ∈ jGL := jmem 853 (by decide +kernel) rfl
theorem jw_1129 : Cond.code yX9_stepsBetween cX9_stepsBetween 5 (some .int) ∈ jGL := jmem 1129 (by decide +kernel) rfl
theorem jw_1128 : Cond.static yX9_stepsBetween ∈ jGL := jmem 1128 (by decide +kernel) rfl
theorem jw_1127 : Cond.methodLink RX9 159 yX9_stepsBetween ∈ jGL := jmem 1127 (by decide +kernel) rfl
theorem jw_284 : Cond.fieldLinkNest RX9 164 "DriftOrgan$Organ" "weather" "LDriftOrgan$Weather;" "DriftOrgan" ∈ jGL := jmem 284 (by decide +kernel) rfl
theorem jw_405 : Cond.fieldLinkNest RX9 168 "DriftOrgan$Moment" "tide" "I" "DriftOrgan" ∈ jGL := jmem 405 (by decide +kernel) rfl
theorem jw_948 : Cond.methodLink RX9 171 yX8_heightIn ∈ jGL := jmem 948 (by decide +kernel) rfl
theorem jw_1145 : Cond.methodLink RX9 176 yX8_isStill ∈ jGL := jmem 1145 (by decide +kernel) rfl
theorem jw_388 : Cond.fieldLinkNest RX9 181 "DriftOrgan$Moment" "silts" "[I" "DriftOrgan" ∈ jGL := jmem 388 (by decide +kernel) rfl
theorem jw_1161 : Cond.methodLink RX9 184 yX9_put ∈ jGL := jmem 1161 (by decide +kernel) rfl
theorem jw_409 : Cond.fieldLinkNest RX9 192 "DriftOrgan$Moment" "listeners" "I" "DriftOrgan" ∈ jGL := jmem 409 (by decide +kernel) rfl
theorem jw_437 : Cond.fieldLink RX9 35 "DriftOrgan" "play" "LDriftOrgan$Play;" ∈ jGL := jmem 437 (by decide +kernel) rfl
theorem jw_1181 : Cond.code yX4_run cX4_run 5 none ∈ jGL := jmem 1181 (by decide +kernel) rfl
theorem jw_1178 : Cond.methodLink RX9 195 yX4_run ∈ jGL := jmem 1178 (by decide +kernel) rfl
theorem jw_1179 : Cond.instanceMethod yX4_run ∈ jGL := jmem 1179 (by decide +kernel) rfl
theorem jw_1180 : Cond.selects RX4 yX4_run yX4_run ∈ jGL := jmem 1180 (by decide +kernel) rfl
theorem jw_439 : Cond.fieldLink RX9 46 "DriftOrgan" "trial" "LDriftOrgan$Moment;" ∈ jGL := jmem 439 (by decide +kernel) rfl
theorem jw_1222 : Cond.code yX1_become cX1_become 2 none ∈ jGL := jmem 1222 (by decide +kernel) rfl
theorem jw_1219 : Cond.methodLink RX9 199 yX1_become ∈ jGL := jmem 1219 (by decide +kernel) rfl
theorem jw_1220 : Cond.instanceMethod yX1_become ∈ jGL := jmem 1220 (by decide +kernel) rfl
theorem jw_1221 : Cond.selects RX1 yX1_become yX1_become ∈ jGL := jmem 1221 (by decide +kernel) rfl
theorem jw_1226 : Cond.methodLink RX9 203 yX1_sounds ∈ jGL := jmem 1226 (by decide +kernel) rfl
theorem jw_296 : Cond.fieldLinkNest RX9 211 "DriftOrgan$Organ" "pipes" "I" "DriftOrgan" ∈ jGL := jmem 296 (by decide +kernel) rfl
theorem jw_876 : Cond.code yX1_siltIn cX1_siltIn 4 (some .int) ∈ jGL := jmem 876 (by decide +kernel) rfl
theorem jw_873 : Cond.methodLink RX9 217 yX1_siltIn ∈ jGL := jmem 873 (by decide +kernel) rfl
theorem jw_874 : Cond.instanceMethod yX1_siltIn ∈ jGL := jmem 874 (by decide +kernel) rfl
theorem jw_875 : Cond.selects RX1 yX1_siltIn yX1_siltIn ∈ jGL := jmem 875 (by decide +kernel) rfl
theorem jw_412 : Cond.fieldLinkNest RX9 208 "DriftOrgan$Moment" "complaints" "I" "DriftOrgan" ∈ jGL := jmem 412 (by decide +kernel) rfl
theorem jw_847 : Cond.code yX1_pipesSounding cX1_pipesSounding 4 (some .int) ∈ jGL := jmem 847 (by decide +kernel) rfl
theorem jw_844 : Cond.methodLink RX9 214 yX1_pipesSounding ∈ jGL := jmem 844 (by decide +kernel) rfl
theorem jw_845 : Cond.instanceMethod yX1_pipesSounding ∈ jGL := jmem 845 (by decide +kernel) rfl
theorem jw_846 : Cond.selects RX1 yX1_pipesSounding yX1_pipesSounding ∈ jGL := jmem 846 (by decide +kernel) rfl
theorem jw_1245 : Cond.code yX9_gainByTide cX9_gainByTide 3 (some .int) ∈ jGL := jmem 1245 (by decide +kernel) rfl
theorem jw_1242 : Cond.methodLink RX9 220 yX9_gainByTide ∈ jGL := jmem 1242 (by decide +kernel) rfl
theorem jw_1244 : Cond.instanceMethod yX9_gainByTide ∈ jGL := jmem 1244 (by decide +kernel) rfl
theorem jw_45 : Cond.selects RX9 yX9_gainByTide yX9_gainByTide ∈ jGL := jmem 45 (by decide +kernel) rfl
theorem jw_392 : Cond.fieldLinkNest RX9 223 "DriftOrgan$Moment" "louds" "[I" "DriftOrgan" ∈ jGL := jmem 392 (by decide +kernel) rfl
theorem jw_858 : Cond.constantLong RX9 226 827 ∈ jGL := jmem 858 (by decide +kernel) rfl
theorem jw_859 : Cond.constantLong RX9 228 31 ∈ jGL := jmem 859 (by decide +kernel) rfl
theorem jw_935 : Cond.code yX9_digestChord cX9_digestChord 8 (some .long) ∈ jGL := jmem 935 (by decide +kernel) rfl
theorem jw_932 : Cond.methodLink RX9 230 yX9_digestChord ∈ jGL := jmem 932 (by decide +kernel) rfl
theorem jw_934 : Cond.instanceMethod yX9_digestChord ∈ jGL := jmem 934 (by decide +kernel) rfl
theorem jw_36 : Cond.selects RX9 yX9_digestChord yX9_digestChord ∈ jGL := jmem 36 (by decide +kernel) rfl
theorem jw_401 : Cond.fieldLinkNest RX9 234 "DriftOrgan$Moment" "hour" "I" "DriftOrgan" ∈ jGL := jmem 401 (by decide +kernel) rfl
theorem jw_206 : Cond.fieldLinkNest RX9 237 "DriftOrgan$Weather" "swells" "I" "DriftOrgan" ∈ jGL := jmem 206 (by decide +kernel) rfl
theorem jw_209 : Cond.fieldLinkNest RX9 240 "DriftOrgan$Weather" "silences" "I" "DriftOrgan" ∈ jGL := jmem 209 (by decide +kernel) rfl
theorem jw_288 : Cond.fieldLinkNest RX9 243 "DriftOrgan$Organ" "orders" "LDriftOrgan$Orders;" "DriftOrgan" ∈ jGL := jmem 288 (by decide +kernel) rfl
theorem jw_246 : Cond.fieldLinkNest RX9 247 "DriftOrgan$Orders" "told" "I" "DriftOrgan" ∈ jGL := jmem 246 (by decide +kernel) rfl
theorem jw_867 : Cond.code yX9_chordsSounding cX9_chordsSounding 3 (some .int) ∈ jGL := jmem 867 (by decide +kernel) rfl
theorem jw_864 : Cond.methodLink RX9 252 yX9_chordsSounding ∈ jGL := jmem 864 (by decide +kernel) rfl
theorem jw_866 : Cond.instanceMethod yX9_chordsSounding ∈ jGL := jmem 866 (by decide +kernel) rfl
theorem jw_31 : Cond.selects RX9 yX9_chordsSounding yX9_chordsSounding ∈ jGL := jmem 31 (by decide +kernel) rfl
theorem jw_885 : Cond.methodLink RX9 267 yX4_isShut ∈ jGL := jmem 885 (by decide +kernel) rfl
theorem jw_267 : Cond.fieldLinkNest RX9 255 "DriftOrgan$Organ" "mouths" "[I" "DriftOrgan" ∈ jGL := jmem 267 (by decide +kernel) rfl
theorem jw_270 : Cond.fieldLinkNest RX9 258 "DriftOrgan$Organ" "deeps" "[I" "DriftOrgan" ∈ jGL := jmem 270 (by decide +kernel) rfl
theorem jw_384 : Cond.fieldLinkNest RX9 261 "DriftOrgan$Moment" "pressures" "[I" "DriftOrgan" ∈ jGL := jmem 384 (by decide +kernel) rfl
theorem jw_884 : Cond.code yX3_pipesIn cX3_pipesIn 4 (some .int) ∈ jGL := jmem 884 (by decide +kernel) rfl
theorem jw_881 : Cond.methodLink RX9 264 yX3_pipesIn ∈ jGL := jmem 881 (by decide +kernel) rfl
theorem jw_882 : Cond.instanceMethod yX3_pipesIn ∈ jGL := jmem 882 (by decide +kernel) rfl
theorem jw_883 : Cond.selects RX3 yX3_pipesIn yX3_pipesIn ∈ jGL := jmem 883 (by decide +kernel) rfl
theorem jw_395 : Cond.fieldLinkNest RX9 280 "DriftOrgan$Moment" "pipeHours" "[I" "DriftOrgan" ∈ jGL := jmem 395 (by decide +kernel) rfl
theorem jw_273 : Cond.fieldLinkNest RX9 271 "DriftOrgan$Organ" "homes" "[I" "DriftOrgan" ∈ jGL := jmem 273 (by decide +kernel) rfl
theorem jw_278 : Cond.fieldLinkNest RX9 274 "DriftOrgan$Organ" "reeds" "[I" "DriftOrgan" ∈ jGL := jmem 278 (by decide +kernel) rfl
theorem jw_928 : Cond.methodLink RX9 277 yX3_needOf ∈ jGL := jmem 928 (by decide +kernel) rfl
theorem jw_398 : Cond.fieldLinkNest RX9 290 "DriftOrgan$Moment" "chordHours" "[I" "DriftOrgan" ∈ jGL := jmem 398 (by decide +kernel) rfl
theorem jw_868 : Cond.methodLink RX9 283 yX3_chordSounds ∈ jGL := jmem 868 (by decide +kernel) rfl
theorem jw_944 : Cond.code yX3_spanOf cX3_spanOf 7 (some .int) ∈ jGL := jmem 944 (by decide +kernel) rfl
theorem jw_941 : Cond.methodLink RX9 287 yX3_spanOf ∈ jGL := jmem 941 (by decide +kernel) rfl
theorem jw_942 : Cond.instanceMethod yX3_spanOf ∈ jGL := jmem 942 (by decide +kernel) rfl
theorem jw_943 : Cond.selects RX3 yX3_spanOf yX3_spanOf ∈ jGL := jmem 943 (by decide +kernel) rfl
theorem jw_330 : Cond.fieldLink RX5 24 "DriftOrgan$Reader" "draft" "LDriftOrgan$Organ;" ∈ jGL := jmem 330 (by decide +kernel) rfl
theorem jw_618 : Cond.code yX3_begin cX3_begin 1 none ∈ jGL := jmem 618 (by decide +kernel) rfl
theorem jw_615 : Cond.methodLink RX5 32 yX3_begin ∈ jGL := jmem 615 (by decide +kernel) rfl
theorem jw_616 : Cond.instanceMethod yX3_begin ∈ jGL := jmem 616 (by decide +kernel) rfl
theorem jw_617 : Cond.selects RX3 yX3_begin yX3_begin ∈ jGL := jmem 617 (by decide +kernel) rfl
theorem jw_331 : Cond.fieldLink RX5 35 "DriftOrgan$Reader" "next" "I" ∈ jGL := jmem 331 (by decide +kernel) rfl
theorem jw_332 : Cond.fieldLink RX5 39 "DriftOrgan$Reader" "fault" "I" ∈ jGL := jmem 332 (by decide +kernel) rfl
theorem jw_333 : Cond.fieldLink RX5 54 "DriftOrgan$Reader" "faultToken" "I" ∈ jGL := jmem 333 (by decide +kernel) rfl
theorem jw_630 : Cond.code yX5_kind cX5_kind 1 (some .int) ∈ jGL := jmem 630 (by decide +kernel) rfl
theorem jw_627 : Cond.methodLink RX5 42 yX5_kind ∈ jGL := jmem 627 (by decide +kernel) rfl
theorem jw_629 : Cond.instanceMethod yX5_kind ∈ jGL := jmem 629 (by decide +kernel) rfl
theorem jw_0 : Cond.selects RX5 yX5_kind yX5_kind ∈ jGL := jmem 0 (by decide +kernel) rfl
theorem jw_638 : Cond.code yX5_line cX5_line 1 (some .boolean) ∈ jGL := jmem 638 (by decide +kernel) rfl
theorem jw_635 : Cond.methodLink RX5 46 yX5_line ∈ jGL := jmem 635 (by decide +kernel) rfl
theorem jw_637 : Cond.instanceMethod yX5_line ∈ jGL := jmem 637 (by decide +kernel) rfl
theorem jw_1 : Cond.selects RX5 yX5_line yX5_line ∈ jGL := jmem 1 (by decide +kernel) rfl
theorem jw_646 : Cond.code yX5_take cX5_take 2 (some .boolean) ∈ jGL := jmem 646 (by decide +kernel) rfl
theorem jw_643 : Cond.methodLink RX5 50 yX5_take ∈ jGL := jmem 643 (by decide +kernel) rfl
theorem jw_645 : Cond.instanceMethod yX5_take ∈ jGL := jmem 645 (by decide +kernel) rfl
theorem jw_3 : Cond.selects RX5 yX5_take yX5_take ∈ jGL := jmem 3 (by decide +kernel) rfl
theorem jw_326 : Cond.fieldLink RX5 28 "DriftOrgan$Reader" "tokens" "LDriftOrgan$Tokens;" ∈ jGL := jmem 326 (by decide +kernel) rfl
theorem jw_634 : Cond.code yX7_kindAt cX7_kindAt 2 (some .int) ∈ jGL := jmem 634 (by decide +kernel) rfl
theorem jw_631 : Cond.methodLink RX5 57 yX7_kindAt ∈ jGL := jmem 631 (by decide +kernel) rfl
theorem jw_632 : Cond.instanceMethod yX7_kindAt ∈ jGL := jmem 632 (by decide +kernel) rfl
theorem jw_633 : Cond.selects RX7 yX7_kindAt yX7_kindAt ∈ jGL := jmem 633 (by decide +kernel) rfl
theorem jw_642 : Cond.code yX5_caveLine cX5_caveLine 2 (some .boolean) ∈ jGL := jmem 642 (by decide +kernel) rfl
theorem jw_639 : Cond.methodLink RX5 63 yX5_caveLine ∈ jGL := jmem 639 (by decide +kernel) rfl
theorem jw_641 : Cond.instanceMethod yX5_caveLine ∈ jGL := jmem 641 (by decide +kernel) rfl
theorem jw_2 : Cond.selects RX5 yX5_caveLine yX5_caveLine ∈ jGL := jmem 2 (by decide +kernel) rfl
theorem jw_681 : Cond.code yX5_pipeLine cX5_pipeLine 3 (some .boolean) ∈ jGL := jmem 681 (by decide +kernel) rfl
theorem jw_678 : Cond.methodLink RX5 66 yX5_pipeLine ∈ jGL := jmem 678 (by decide +kernel) rfl
theorem jw_680 : Cond.instanceMethod yX5_pipeLine ∈ jGL := jmem 680 (by decide +kernel) rfl
theorem jw_8 : Cond.selects RX5 yX5_pipeLine yX5_pipeLine ∈ jGL := jmem 8 (by decide +kernel) rfl
theorem jw_693 : Cond.code yX5_swellLine cX5_swellLine 2 (some .boolean) ∈ jGL := jmem 693 (by decide +kernel) rfl
theorem jw_690 : Cond.methodLink RX5 69 yX5_swellLine ∈ jGL := jmem 690 (by decide +kernel) rfl
theorem jw_692 : Cond.instanceMethod yX5_swellLine ∈ jGL := jmem 692 (by decide +kernel) rfl
theorem jw_10 : Cond.selects RX5 yX5_swellLine yX5_swellLine ∈ jGL := jmem 10 (by decide +kernel) rfl
theorem jw_702 : Cond.code yX5_silenceLine cX5_silenceLine 2 (some .boolean) ∈ jGL := jmem 702 (by decide +kernel) rfl
theorem jw_699 : Cond.methodLink RX5 72 yX5_silenceLine ∈ jGL := jmem 699 (by decide +kernel) rfl
theorem jw_701 : Cond.instanceMethod yX5_silenceLine ∈ jGL := jmem 701 (by decide +kernel) rfl
theorem jw_11 : Cond.selects RX5 yX5_silenceLine yX5_silenceLine ∈ jGL := jmem 11 (by decide +kernel) rfl
theorem jw_710 : Cond.code yX5_chordLine cX5_chordLine 2 (some .boolean) ∈ jGL := jmem 710 (by decide +kernel) rfl
theorem jw_707 : Cond.methodLink RX5 75 yX5_chordLine ∈ jGL := jmem 707 (by decide +kernel) rfl
theorem jw_709 : Cond.instanceMethod yX5_chordLine ∈ jGL := jmem 709 (by decide +kernel) rfl
theorem jw_12 : Cond.selects RX5 yX5_chordLine yX5_chordLine ∈ jGL := jmem 12 (by decide +kernel) rfl
theorem jw_746 : Cond.code yX5_shutLine cX5_shutLine 2 (some .boolean) ∈ jGL := jmem 746 (by decide +kernel) rfl
theorem jw_743 : Cond.methodLink RX5 78 yX5_shutLine ∈ jGL := jmem 743 (by decide +kernel) rfl
theorem jw_745 : Cond.instanceMethod yX5_shutLine ∈ jGL := jmem 745 (by decide +kernel) rfl
theorem jw_14 : Cond.selects RX5 yX5_shutLine yX5_shutLine ∈ jGL := jmem 14 (by decide +kernel) rfl
theorem jw_819 : Cond.code yX5_cleanLine cX5_cleanLine 2 (some .boolean) ∈ jGL := jmem 819 (by decide +kernel) rfl
theorem jw_816 : Cond.methodLink RX5 81 yX5_cleanLine ∈ jGL := jmem 816 (by decide +kernel) rfl
theorem jw_818 : Cond.instanceMethod yX5_cleanLine ∈ jGL := jmem 818 (by decide +kernel) rfl
theorem jw_29 : Cond.selects RX5 yX5_cleanLine yX5_cleanLine ∈ jGL := jmem 29 (by decide +kernel) rfl
theorem jw_327 : Cond.fieldLink RX5 9 "DriftOrgan$Reader" "caveNames" "[I" ∈ jGL := jmem 327 (by decide +kernel) rfl
theorem jw_292 : Cond.fieldLinkNest RX5 84 "DriftOrgan$Organ" "caves" "I" "DriftOrgan" ∈ jGL := jmem 292 (by decide +kernel) rfl
theorem jw_650 : Cond.code yX5_newName cX5_newName 3 (some .boolean) ∈ jGL := jmem 650 (by decide +kernel) rfl
theorem jw_647 : Cond.methodLink RX5 87 yX5_newName ∈ jGL := jmem 647 (by decide +kernel) rfl
theorem jw_649 : Cond.instanceMethod yX5_newName ∈ jGL := jmem 649 (by decide +kernel) rfl
theorem jw_4 : Cond.selects RX5 yX5_newName yX5_newName ∈ jGL := jmem 4 (by decide +kernel) rfl
theorem jw_667 : Cond.code yX5_numberIn cX5_numberIn 4 (some .boolean) ∈ jGL := jmem 667 (by decide +kernel) rfl
theorem jw_664 : Cond.methodLink RX5 91 yX5_numberIn ∈ jGL := jmem 664 (by decide +kernel) rfl
theorem jw_666 : Cond.instanceMethod yX5_numberIn ∈ jGL := jmem 666 (by decide +kernel) rfl
theorem jw_7 : Cond.selects RX5 yX5_numberIn yX5_numberIn ∈ jGL := jmem 7 (by decide +kernel) rfl
theorem jw_671 : Cond.code yX7_numberAt cX7_numberAt 2 (some .int) ∈ jGL := jmem 671 (by decide +kernel) rfl
theorem jw_668 : Cond.methodLink RX5 95 yX7_numberAt ∈ jGL := jmem 668 (by decide +kernel) rfl
theorem jw_669 : Cond.instanceMethod yX7_numberAt ∈ jGL := jmem 669 (by decide +kernel) rfl
theorem jw_670 : Cond.selects RX7 yX7_numberAt yX7_numberAt ∈ jGL := jmem 670 (by decide +kernel) rfl
theorem jw_676 : Cond.code yX3_addCave cX3_addCave 3 none ∈ jGL := jmem 676 (by decide +kernel) rfl
theorem jw_673 : Cond.methodLink RX5 98 yX3_addCave ∈ jGL := jmem 673 (by decide +kernel) rfl
theorem jw_674 : Cond.instanceMethod yX3_addCave ∈ jGL := jmem 674 (by decide +kernel) rfl
theorem jw_675 : Cond.selects RX3 yX3_addCave yX3_addCave ∈ jGL := jmem 675 (by decide +kernel) rfl
theorem jw_328 : Cond.fieldLink RX5 15 "DriftOrgan$Reader" "pipeNames" "[I" ∈ jGL := jmem 328 (by decide +kernel) rfl
theorem jw_295 : Cond.fieldLinkNest RX5 102 "DriftOrgan$Organ" "pipes" "I" "DriftOrgan" ∈ jGL := jmem 295 (by decide +kernel) rfl
theorem jw_685 : Cond.code yX5_knownName cX5_knownName 3 (some .boolean) ∈ jGL := jmem 685 (by decide +kernel) rfl
theorem jw_682 : Cond.methodLink RX5 105 yX5_knownName ∈ jGL := jmem 682 (by decide +kernel) rfl
theorem jw_684 : Cond.instanceMethod yX5_knownName ∈ jGL := jmem 684 (by decide +kernel) rfl
theorem jw_9 : Cond.selects RX5 yX5_knownName yX5_knownName ∈ jGL := jmem 9 (by decide +kernel) rfl
theorem jw_654 : Cond.code yX5_numberOf cX5_numberOf 7 (some .int) ∈ jGL := jmem 654 (by decide +kernel) rfl
theorem jw_651 : Cond.methodLink RX5 108 yX5_numberOf ∈ jGL := jmem 651 (by decide +kernel) rfl
theorem jw_653 : Cond.instanceMethod yX5_numberOf ∈ jGL := jmem 653 (by decide +kernel) rfl
theorem jw_5 : Cond.selects RX5 yX5_numberOf yX5_numberOf ∈ jGL := jmem 5 (by decide +kernel) rfl
theorem jw_689 : Cond.code yX3_addPipe cX3_addPipe 4 none ∈ jGL := jmem 689 (by decide +kernel) rfl
theorem jw_686 : Cond.methodLink RX5 112 yX3_addPipe ∈ jGL := jmem 686 (by decide +kernel) rfl
theorem jw_687 : Cond.instanceMethod yX3_addPipe ∈ jGL := jmem 687 (by decide +kernel) rfl
theorem jw_688 : Cond.selects RX3 yX3_addPipe yX3_addPipe ∈ jGL := jmem 688 (by decide +kernel) rfl
theorem jw_283 : Cond.fieldLinkNest RX5 116 "DriftOrgan$Organ" "weather" "LDriftOrgan$Weather;" "DriftOrgan" ∈ jGL := jmem 283 (by decide +kernel) rfl
theorem jw_205 : Cond.fieldLinkNest RX5 120 "DriftOrgan$Weather" "swells" "I" "DriftOrgan" ∈ jGL := jmem 205 (by decide +kernel) rfl
theorem jw_662 : Cond.code yX5_blame cX5_blame 2 none ∈ jGL := jmem 662 (by decide +kernel) rfl
theorem jw_659 : Cond.methodLink RX5 125 yX5_blame ∈ jGL := jmem 659 (by decide +kernel) rfl
theorem jw_661 : Cond.instanceMethod yX5_blame ∈ jGL := jmem 661 (by decide +kernel) rfl
theorem jw_6 : Cond.selects RX5 yX5_blame yX5_blame ∈ jGL := jmem 6 (by decide +kernel) rfl
theorem jw_697 : Cond.code yX8_addSwell cX8_addSwell 4 none ∈ jGL := jmem 697 (by decide +kernel) rfl
theorem jw_694 : Cond.methodLink RX5 129 yX8_addSwell ∈ jGL := jmem 694 (by decide +kernel) rfl
theorem jw_695 : Cond.instanceMethod yX8_addSwell ∈ jGL := jmem 695 (by decide +kernel) rfl
theorem jw_696 : Cond.selects RX8 yX8_addSwell yX8_addSwell ∈ jGL := jmem 696 (by decide +kernel) rfl
theorem jw_208 : Cond.fieldLinkNest RX5 132 "DriftOrgan$Weather" "silences" "I" "DriftOrgan" ∈ jGL := jmem 208 (by decide +kernel) rfl
theorem jw_706 : Cond.code yX8_addSilence cX8_addSilence 3 none ∈ jGL := jmem 706 (by decide +kernel) rfl
theorem jw_703 : Cond.methodLink RX5 135 yX8_addSilence ∈ jGL := jmem 703 (by decide +kernel) rfl
theorem jw_704 : Cond.instanceMethod yX8_addSilence ∈ jGL := jmem 704 (by decide +kernel) rfl
theorem jw_705 : Cond.selects RX8 yX8_addSilence yX8_addSilence ∈ jGL := jmem 705 (by decide +kernel) rfl
theorem jw_329 : Cond.fieldLink RX5 18 "DriftOrgan$Reader" "chordNames" "[I" ∈ jGL := jmem 329 (by decide +kernel) rfl
theorem jw_300 : Cond.fieldLinkNest RX5 138 "DriftOrgan$Organ" "chords" "I" "DriftOrgan" ∈ jGL := jmem 300 (by decide +kernel) rfl
theorem jw_718 : Cond.code yX5_chordPipe cX5_chordPipe 2 (some .boolean) ∈ jGL := jmem 718 (by decide +kernel) rfl
theorem jw_715 : Cond.methodLink RX5 144 yX5_chordPipe ∈ jGL := jmem 715 (by decide +kernel) rfl
theorem jw_717 : Cond.instanceMethod yX5_chordPipe ∈ jGL := jmem 717 (by decide +kernel) rfl
theorem jw_13 : Cond.selects RX5 yX5_chordPipe yX5_chordPipe ∈ jGL := jmem 13 (by decide +kernel) rfl
theorem jw_714 : Cond.code yX3_beginChord cX3_beginChord 1 none ∈ jGL := jmem 714 (by decide +kernel) rfl
theorem jw_711 : Cond.methodLink RX5 141 yX3_beginChord ∈ jGL := jmem 711 (by decide +kernel) rfl
theorem jw_712 : Cond.instanceMethod yX3_beginChord ∈ jGL := jmem 712 (by decide +kernel) rfl
theorem jw_713 : Cond.selects RX3 yX3_beginChord yX3_beginChord ∈ jGL := jmem 713 (by decide +kernel) rfl
theorem jw_742 : Cond.code yX3_endChord cX3_endChord 1 none ∈ jGL := jmem 742 (by decide +kernel) rfl
theorem jw_739 : Cond.methodLink RX5 147 yX3_endChord ∈ jGL := jmem 739 (by decide +kernel) rfl
theorem jw_740 : Cond.instanceMethod yX3_endChord ∈ jGL := jmem 740 (by decide +kernel) rfl
theorem jw_741 : Cond.selects RX3 yX3_endChord yX3_endChord ∈ jGL := jmem 741 (by decide +kernel) rfl
theorem jw_719 : Cond.methodLink RX5 150 yX3_sizeOf ∈ jGL := jmem 719 (by decide +kernel) rfl
theorem jw_729 : Cond.code yX3_hasNote cX3_hasNote 5 (some .boolean) ∈ jGL := jmem 729 (by decide +kernel) rfl
theorem jw_726 : Cond.methodLink RX5 153 yX3_hasNote ∈ jGL := jmem 726 (by decide +kernel) rfl
theorem jw_727 : Cond.instanceMethod yX3_hasNote ∈ jGL := jmem 727 (by decide +kernel) rfl
theorem jw_728 : Cond.selects RX3 yX3_hasNote yX3_hasNote ∈ jGL := jmem 728 (by decide +kernel) rfl
theorem jw_738 : Cond.code yX3_addNote cX3_addNote 3 none ∈ jGL := jmem 738 (by decide +kernel) rfl
theorem jw_735 : Cond.methodLink RX5 156 yX3_addNote ∈ jGL := jmem 735 (by decide +kernel) rfl
theorem jw_736 : Cond.instanceMethod yX3_addNote ∈ jGL := jmem 736 (by decide +kernel) rfl
theorem jw_737 : Cond.selects RX3 yX3_addNote yX3_addNote ∈ jGL := jmem 737 (by decide +kernel) rfl
theorem jw_750 : Cond.code yX5_blameOrderTooMany cX5_blameOrderTooMany 1 none ∈ jGL := jmem 750 (by decide +kernel) rfl
theorem jw_747 : Cond.methodLink RX5 159 yX5_blameOrderTooMany ∈ jGL := jmem 747 (by decide +kernel) rfl
theorem jw_749 : Cond.instanceMethod yX5_blameOrderTooMany ∈ jGL := jmem 749 (by decide +kernel) rfl
theorem jw_15 : Cond.selects RX5 yX5_blameOrderTooMany yX5_blameOrderTooMany ∈ jGL := jmem 15 (by decide +kernel) rfl
theorem jw_754 : Cond.code yX5_beginOrder cX5_beginOrder 3 none ∈ jGL := jmem 754 (by decide +kernel) rfl
theorem jw_751 : Cond.methodLink RX5 162 yX5_beginOrder ∈ jGL := jmem 751 (by decide +kernel) rfl
theorem jw_753 : Cond.instanceMethod yX5_beginOrder ∈ jGL := jmem 753 (by decide +kernel) rfl
theorem jw_16 : Cond.selects RX5 yX5_beginOrder yX5_beginOrder ∈ jGL := jmem 16 (by decide +kernel) rfl
theorem jw_763 : Cond.code yX5_test cX5_test 3 (some .boolean) ∈ jGL := jmem 763 (by decide +kernel) rfl
theorem jw_760 : Cond.methodLink RX5 165 yX5_test ∈ jGL := jmem 760 (by decide +kernel) rfl
theorem jw_762 : Cond.instanceMethod yX5_test ∈ jGL := jmem 762 (by decide +kernel) rfl
theorem jw_17 : Cond.selects RX5 yX5_test yX5_test ∈ jGL := jmem 17 (by decide +kernel) rfl
theorem jw_811 : Cond.code yX5_endOrder cX5_endOrder 1 none ∈ jGL := jmem 811 (by decide +kernel) rfl
theorem jw_808 : Cond.methodLink RX5 168 yX5_endOrder ∈ jGL := jmem 808 (by decide +kernel) rfl
theorem jw_810 : Cond.instanceMethod yX5_endOrder ∈ jGL := jmem 810 (by decide +kernel) rfl
theorem jw_28 : Cond.selects RX5 yX5_endOrder yX5_endOrder ∈ jGL := jmem 28 (by decide +kernel) rfl
theorem jw_287 : Cond.fieldLinkNest RX5 171 "DriftOrgan$Organ" "orders" "LDriftOrgan$Orders;" "DriftOrgan" ∈ jGL := jmem 287 (by decide +kernel) rfl
theorem jw_245 : Cond.fieldLinkNest RX5 175 "DriftOrgan$Orders" "told" "I" "DriftOrgan" ∈ jGL := jmem 245 (by decide +kernel) rfl
theorem jw_758 : Cond.code yX2_beginOrder cX2_beginOrder 3 none ∈ jGL := jmem 758 (by decide +kernel) rfl
theorem jw_755 : Cond.methodLink RX5 180 yX2_beginOrder ∈ jGL := jmem 755 (by decide +kernel) rfl
theorem jw_756 : Cond.instanceMethod yX2_beginOrder ∈ jGL := jmem 756 (by decide +kernel) rfl
theorem jw_757 : Cond.selects RX2 yX2_beginOrder yX2_beginOrder ∈ jGL := jmem 757 (by decide +kernel) rfl
theorem jw_815 : Cond.code yX2_endOrder cX2_endOrder 1 none ∈ jGL := jmem 815 (by decide +kernel) rfl
theorem jw_812 : Cond.methodLink RX5 181 yX2_endOrder ∈ jGL := jmem 812 (by decide +kernel) rfl
theorem jw_813 : Cond.instanceMethod yX2_endOrder ∈ jGL := jmem 813 (by decide +kernel) rfl
theorem jw_814 : Cond.selects RX2 yX2_endOrder yX2_endOrder ∈ jGL := jmem 814 (by decide +kernel) rfl
theorem jw_663 : Cond.methodLinkNest RX5 182 yX9_put "DriftOrgan" ∈ jGL := jmem 663 (by decide +kernel) rfl
theorem jw_655 : Cond.methodLink RX5 186 yX7_worthAt ∈ jGL := jmem 655 (by decide +kernel) rfl
theorem jw_783 : Cond.code yX2_addStep cX2_addStep 3 none ∈ jGL := jmem 783 (by decide +kernel) rfl
theorem jw_780 : Cond.methodLink RX5 190 yX2_addStep ∈ jGL := jmem 780 (by decide +kernel) rfl
theorem jw_781 : Cond.instanceMethod yX2_addStep ∈ jGL := jmem 781 (by decide +kernel) rfl
theorem jw_782 : Cond.selects RX2 yX2_addStep yX2_addStep ∈ jGL := jmem 782 (by decide +kernel) rfl
theorem jw_767 : Cond.code yX5_both cX5_both 3 (some .boolean) ∈ jGL := jmem 767 (by decide +kernel) rfl
theorem jw_764 : Cond.methodLink RX5 193 yX5_both ∈ jGL := jmem 764 (by decide +kernel) rfl
theorem jw_766 : Cond.instanceMethod yX5_both ∈ jGL := jmem 766 (by decide +kernel) rfl
theorem jw_18 : Cond.selects RX5 yX5_both yX5_both ∈ jGL := jmem 18 (by decide +kernel) rfl
theorem jw_779 : Cond.code yX5_emit cX5_emit 3 none ∈ jGL := jmem 779 (by decide +kernel) rfl
theorem jw_776 : Cond.methodLink RX5 196 yX5_emit ∈ jGL := jmem 776 (by decide +kernel) rfl
theorem jw_778 : Cond.instanceMethod yX5_emit ∈ jGL := jmem 778 (by decide +kernel) rfl
theorem jw_21 : Cond.selects RX5 yX5_emit yX5_emit ∈ jGL := jmem 21 (by decide +kernel) rfl
theorem jw_771 : Cond.code yX5_single cX5_single 2 (some .boolean) ∈ jGL := jmem 771 (by decide +kernel) rfl
theorem jw_768 : Cond.methodLink RX5 199 yX5_single ∈ jGL := jmem 768 (by decide +kernel) rfl
theorem jw_770 : Cond.instanceMethod yX5_single ∈ jGL := jmem 770 (by decide +kernel) rfl
theorem jw_19 : Cond.selects RX5 yX5_single yX5_single ∈ jGL := jmem 19 (by decide +kernel) rfl
theorem jw_791 : Cond.code yX5_comparison cX5_comparison 3 (some .boolean) ∈ jGL := jmem 791 (by decide +kernel) rfl
theorem jw_788 : Cond.methodLink RX5 208 yX5_comparison ∈ jGL := jmem 788 (by decide +kernel) rfl
theorem jw_790 : Cond.instanceMethod yX5_comparison ∈ jGL := jmem 790 (by decide +kernel) rfl
theorem jw_23 : Cond.selects RX5 yX5_comparison yX5_comparison ∈ jGL := jmem 23 (by decide +kernel) rfl
theorem jw_787 : Cond.code yX5_namedStep cX5_namedStep 5 (some .boolean) ∈ jGL := jmem 787 (by decide +kernel) rfl
theorem jw_784 : Cond.methodLink RX5 205 yX5_namedStep ∈ jGL := jmem 784 (by decide +kernel) rfl
theorem jw_786 : Cond.instanceMethod yX5_namedStep ∈ jGL := jmem 786 (by decide +kernel) rfl
theorem jw_22 : Cond.selects RX5 yX5_namedStep yX5_namedStep ∈ jGL := jmem 22 (by decide +kernel) rfl
theorem jw_775 : Cond.code yX5_goDeeper cX5_goDeeper 2 (some .boolean) ∈ jGL := jmem 775 (by decide +kernel) rfl
theorem jw_772 : Cond.methodLink RX5 202 yX5_goDeeper ∈ jGL := jmem 772 (by decide +kernel) rfl
theorem jw_774 : Cond.instanceMethod yX5_goDeeper ∈ jGL := jmem 774 (by decide +kernel) rfl
theorem jw_20 : Cond.selects RX5 yX5_goDeeper yX5_goDeeper ∈ jGL := jmem 20 (by decide +kernel) rfl
theorem jw_795 : Cond.code yX5_sum cX5_sum 4 (some .boolean) ∈ jGL := jmem 795 (by decide +kernel) rfl
theorem jw_792 : Cond.methodLink RX5 211 yX5_sum ∈ jGL := jmem 792 (by decide +kernel) rfl
theorem jw_794 : Cond.instanceMethod yX5_sum ∈ jGL := jmem 794 (by decide +kernel) rfl
theorem jw_24 : Cond.selects RX5 yX5_sum yX5_sum ∈ jGL := jmem 24 (by decide +kernel) rfl
theorem jw_799 : Cond.code yX5_product cX5_product 4 (some .boolean) ∈ jGL := jmem 799 (by decide +kernel) rfl
theorem jw_796 : Cond.methodLink RX5 214 yX5_product ∈ jGL := jmem 796 (by decide +kernel) rfl
theorem jw_798 : Cond.instanceMethod yX5_product ∈ jGL := jmem 798 (by decide +kernel) rfl
theorem jw_25 : Cond.selects RX5 yX5_product yX5_product ∈ jGL := jmem 25 (by decide +kernel) rfl
theorem jw_803 : Cond.code yX5_value cX5_value 2 (some .boolean) ∈ jGL := jmem 803 (by decide +kernel) rfl
theorem jw_800 : Cond.methodLink RX5 217 yX5_value ∈ jGL := jmem 800 (by decide +kernel) rfl
theorem jw_802 : Cond.instanceMethod yX5_value ∈ jGL := jmem 802 (by decide +kernel) rfl
theorem jw_26 : Cond.selects RX5 yX5_value yX5_value ∈ jGL := jmem 26 (by decide +kernel) rfl
theorem jw_807 : Cond.code yX5_extreme cX5_extreme 3 (some .boolean) ∈ jGL := jmem 807 (by decide +kernel) rfl
theorem jw_804 : Cond.methodLink RX5 220 yX5_extreme ∈ jGL := jmem 804 (by decide +kernel) rfl
theorem jw_806 : Cond.instanceMethod yX5_extreme ∈ jGL := jmem 806 (by decide +kernel) rfl
theorem jw_27 : Cond.selects RX5 yX5_extreme yX5_extreme ∈ jGL := jmem 27 (by decide +kernel) rfl
theorem jw_1288 : Cond.fieldLink RX10 39 "DriftOrganModel$Book" "caves" "I" ∈ jGL := jmem 1288 (by decide +kernel) rfl
theorem jw_1290 : Cond.fieldLink RX10 43 "DriftOrganModel$Book" "pipes" "I" ∈ jGL := jmem 1290 (by decide +kernel) rfl
theorem jw_1292 : Cond.fieldLink RX10 46 "DriftOrganModel$Book" "swells" "I" ∈ jGL := jmem 1292 (by decide +kernel) rfl
theorem jw_1294 : Cond.fieldLink RX10 49 "DriftOrganModel$Book" "silences" "I" ∈ jGL := jmem 1294 (by decide +kernel) rfl
theorem jw_1296 : Cond.fieldLink RX10 52 "DriftOrganModel$Book" "chords" "I" ∈ jGL := jmem 1296 (by decide +kernel) rfl
theorem jw_1298 : Cond.fieldLink RX10 55 "DriftOrganModel$Book" "orders" "I" ∈ jGL := jmem 1298 (by decide +kernel) rfl
theorem jw_1312 : Cond.fieldLink RX10 58 "DriftOrganModel$Book" "nodes" "I" ∈ jGL := jmem 1312 (by decide +kernel) rfl
theorem jw_1313 : Cond.fieldLink RX10 30 "DriftOrganModel$Book" "op" "[I" ∈ jGL := jmem 1313 (by decide +kernel) rfl
theorem jw_1315 : Cond.fieldLink RX10 33 "DriftOrganModel$Book" "one" "[I" ∈ jGL := jmem 1315 (by decide +kernel) rfl
theorem jw_1317 : Cond.fieldLink RX10 36 "DriftOrganModel$Book" "two" "[I" ∈ jGL := jmem 1317 (by decide +kernel) rfl
theorem jw_1352 : Cond.fieldLink RX11 1 "DriftOrganModel" "thrown" "I" ∈ jGL := jmem 1352 (by decide +kernel) rfl
theorem jw_1354 : Cond.fieldLink RX11 7 "DriftOrganModel" "length" "I" ∈ jGL := jmem 1354 (by decide +kernel) rfl
theorem jw_1269 : Cond.code yX11_append cX11_append 3 none ∈ jGL := jmem 1269 (by decide +kernel) rfl
theorem jw_125 : Cond.initialized RX11 ∈ jGL := jmem 125 (by decide +kernel) rfl
theorem jw_1266 : Cond.methodLink RX11 14 yX11_append ∈ jGL := jmem 1266 (by decide +kernel) rfl
theorem jw_1268 : Cond.instanceMethod yX11_append ∈ jGL := jmem 1268 (by decide +kernel) rfl
theorem jw_47 : Cond.selects RX11 yX11_append yX11_append ∈ jGL := jmem 47 (by decide +kernel) rfl
theorem jw_1265 : Cond.code yX11_no cX11_no 2 (some .int) ∈ jGL := jmem 1265 (by decide +kernel) rfl
theorem jw_1261 : Cond.methodLink RX11 10 yX11_no ∈ jGL := jmem 1261 (by decide +kernel) rfl
theorem jw_1263 : Cond.instanceMethod yX11_no ∈ jGL := jmem 1263 (by decide +kernel) rfl
theorem jw_46 : Cond.selects RX11 yX11_no yX11_no ∈ jGL := jmem 46 (by decide +kernel) rfl
theorem jw_1353 : Cond.fieldLink RX11 18 "DriftOrganModel" "tape" "[I" ∈ jGL := jmem 1353 (by decide +kernel) rfl
theorem jw_1276 : Cond.code yX11_isIn cX11_isIn 3 (some .boolean) ∈ jGL := jmem 1276 (by decide +kernel) rfl
theorem jw_1275 : Cond.static yX11_isIn ∈ jGL := jmem 1275 (by decide +kernel) rfl
theorem jw_1274 : Cond.methodLink RX11 22 yX11_isIn ∈ jGL := jmem 1274 (by decide +kernel) rfl
theorem jw_1427 : Cond.code yX11_byteAt cX11_byteAt 2 (some .int) ∈ jGL := jmem 1427 (by decide +kernel) rfl
theorem jw_1424 : Cond.methodLink RX11 26 yX11_byteAt ∈ jGL := jmem 1424 (by decide +kernel) rfl
theorem jw_1426 : Cond.instanceMethod yX11_byteAt ∈ jGL := jmem 1426 (by decide +kernel) rfl
theorem jw_49 : Cond.selects RX11 yX11_byteAt yX11_byteAt ∈ jGL := jmem 49 (by decide +kernel) rfl
theorem jw_1358 : Cond.fieldLink RX11 29 "DriftOrganModel" "begin" "[I" ∈ jGL := jmem 1358 (by decide +kernel) rfl
theorem jw_1431 : Cond.code yX11_read cX11_read 4 none ∈ jGL := jmem 1431 (by decide +kernel) rfl
theorem jw_1428 : Cond.methodLink RX11 32 yX11_read ∈ jGL := jmem 1428 (by decide +kernel) rfl
theorem jw_1430 : Cond.instanceMethod yX11_read ∈ jGL := jmem 1430 (by decide +kernel) rfl
theorem jw_50 : Cond.selects RX11 yX11_read yX11_read ∈ jGL := jmem 50 (by decide +kernel) rfl
theorem jw_1356 : Cond.fieldLink RX11 36 "DriftOrganModel" "sort" "[I" ∈ jGL := jmem 1356 (by decide +kernel) rfl
theorem jw_1359 : Cond.fieldLink RX11 39 "DriftOrganModel" "size" "[I" ∈ jGL := jmem 1359 (by decide +kernel) rfl
theorem jw_1357 : Cond.fieldLink RX11 42 "DriftOrganModel" "value" "[I" ∈ jGL := jmem 1357 (by decide +kernel) rfl
theorem jw_1434 : Cond.code yX11_isLetter cX11_isLetter 1 (some .boolean) ∈ jGL := jmem 1434 (by decide +kernel) rfl
theorem jw_1433 : Cond.static yX11_isLetter ∈ jGL := jmem 1433 (by decide +kernel) rfl
theorem jw_1432 : Cond.methodLink RX11 45 yX11_isLetter ∈ jGL := jmem 1432 (by decide +kernel) rfl
theorem jw_1441 : Cond.code yX11_isDigit cX11_isDigit 1 (some .boolean) ∈ jGL := jmem 1441 (by decide +kernel) rfl
theorem jw_1440 : Cond.static yX11_isDigit ∈ jGL := jmem 1440 (by decide +kernel) rfl
theorem jw_1439 : Cond.methodLink RX11 52 yX11_isDigit ∈ jGL := jmem 1439 (by decide +kernel) rfl
theorem jw_1438 : Cond.code yX11_readWord cX11_readWord 5 none ∈ jGL := jmem 1438 (by decide +kernel) rfl
theorem jw_1435 : Cond.methodLink RX11 49 yX11_readWord ∈ jGL := jmem 1435 (by decide +kernel) rfl
theorem jw_1437 : Cond.instanceMethod yX11_readWord ∈ jGL := jmem 1437 (by decide +kernel) rfl
theorem jw_51 : Cond.selects RX11 yX11_readWord yX11_readWord ∈ jGL := jmem 51 (by decide +kernel) rfl
theorem jw_1453 : Cond.code yX11_readNumber cX11_readNumber 5 none ∈ jGL := jmem 1453 (by decide +kernel) rfl
theorem jw_1450 : Cond.methodLink RX11 55 yX11_readNumber ∈ jGL := jmem 1450 (by decide +kernel) rfl
theorem jw_1452 : Cond.instanceMethod yX11_readNumber ∈ jGL := jmem 1452 (by decide +kernel) rfl
theorem jw_53 : Cond.selects RX11 yX11_readNumber yX11_readNumber ∈ jGL := jmem 53 (by decide +kernel) rfl
theorem jw_1367 : Cond.fieldLink RX11 112 "DriftOrganModel" "failed" "I" ∈ jGL := jmem 1367 (by decide +kernel) rfl
theorem jw_1365 : Cond.fieldLink RX11 115 "DriftOrganModel" "at" "I" ∈ jGL := jmem 1365 (by decide +kernel) rfl
theorem jw_1461 : Cond.code yX11_isOk cX11_isOk 1 (some .boolean) ∈ jGL := jmem 1461 (by decide +kernel) rfl
theorem jw_1458 : Cond.methodLink RX11 118 yX11_isOk ∈ jGL := jmem 1458 (by decide +kernel) rfl
theorem jw_1460 : Cond.instanceMethod yX11_isOk ∈ jGL := jmem 1460 (by decide +kernel) rfl
theorem jw_54 : Cond.selects RX11 yX11_isOk yX11_isOk ∈ jGL := jmem 54 (by decide +kernel) rfl
theorem jw_1469 : Cond.code yX11_is cX11_is 3 (some .boolean) ∈ jGL := jmem 1469 (by decide +kernel) rfl
theorem jw_1466 : Cond.methodLink RX11 122 yX11_is ∈ jGL := jmem 1466 (by decide +kernel) rfl
theorem jw_1468 : Cond.instanceMethod yX11_is ∈ jGL := jmem 1468 (by decide +kernel) rfl
theorem jw_56 : Cond.selects RX11 yX11_is yX11_is ∈ jGL := jmem 56 (by decide +kernel) rfl
theorem jw_1485 : Cond.code yX11_fail cX11_fail 1 none ∈ jGL := jmem 1485 (by decide +kernel) rfl
theorem jw_1482 : Cond.methodLink RX11 126 yX11_fail ∈ jGL := jmem 1482 (by decide +kernel) rfl
theorem jw_1484 : Cond.instanceMethod yX11_fail ∈ jGL := jmem 1484 (by decide +kernel) rfl
theorem jw_60 : Cond.selects RX11 yX11_fail yX11_fail ∈ jGL := jmem 60 (by decide +kernel) rfl
theorem jw_1368 : Cond.fieldLink RX11 129 "DriftOrganModel" "error" "I" ∈ jGL := jmem 1368 (by decide +kernel) rfl
theorem jw_1369 : Cond.fieldLink RX11 132 "DriftOrganModel" "errorToken" "I" ∈ jGL := jmem 1369 (by decide +kernel) rfl
theorem jw_1366 : Cond.fieldLink RX11 135 "DriftOrganModel" "depth" "I" ∈ jGL := jmem 1366 (by decide +kernel) rfl
theorem jw_1493 : Cond.code yX11_isSame cX11_isSame 4 (some .boolean) ∈ jGL := jmem 1493 (by decide +kernel) rfl
theorem jw_1490 : Cond.methodLink RX11 138 yX11_isSame ∈ jGL := jmem 1490 (by decide +kernel) rfl
theorem jw_1492 : Cond.instanceMethod yX11_isSame ∈ jGL := jmem 1492 (by decide +kernel) rfl
theorem jw_62 : Cond.selects RX11 yX11_isSame yX11_isSame ∈ jGL := jmem 62 (by decide +kernel) rfl
theorem jw_1481 : Cond.code yX11_name cX11_name 1 (some .int) ∈ jGL := jmem 1481 (by decide +kernel) rfl
theorem jw_1478 : Cond.methodLink RX11 141 yX11_name ∈ jGL := jmem 1478 (by decide +kernel) rfl
theorem jw_1480 : Cond.instanceMethod yX11_name ∈ jGL := jmem 1480 (by decide +kernel) rfl
theorem jw_59 : Cond.selects RX11 yX11_name yX11_name ∈ jGL := jmem 59 (by decide +kernel) rfl
theorem jw_1489 : Cond.code yX11_find cX11_find 5 (some .int) ∈ jGL := jmem 1489 (by decide +kernel) rfl
theorem jw_1486 : Cond.methodLink RX11 144 yX11_find ∈ jGL := jmem 1486 (by decide +kernel) rfl
theorem jw_1488 : Cond.instanceMethod yX11_find ∈ jGL := jmem 1488 (by decide +kernel) rfl
theorem jw_61 : Cond.selects RX11 yX11_find yX11_find ∈ jGL := jmem 61 (by decide +kernel) rfl
theorem jw_1497 : Cond.code yX11_tell cX11_tell 3 none ∈ jGL := jmem 1497 (by decide +kernel) rfl
theorem jw_1494 : Cond.methodLink RX11 148 yX11_tell ∈ jGL := jmem 1494 (by decide +kernel) rfl
theorem jw_1496 : Cond.instanceMethod yX11_tell ∈ jGL := jmem 1496 (by decide +kernel) rfl
theorem jw_63 : Cond.selects RX11 yX11_tell yX11_tell ∈ jGL := jmem 63 (by decide +kernel) rfl
theorem jw_1362 : Cond.fieldLink RX11 94 "DriftOrganModel" "caveName" "[I" ∈ jGL := jmem 1362 (by decide +kernel) rfl
theorem jw_1361 : Cond.fieldLink RX11 91 "DriftOrganModel" "next" "LDriftOrganModel$Book;" ∈ jGL := jmem 1361 (by decide +kernel) rfl
theorem jw_1289 : Cond.fieldLinkNest RX11 151 "DriftOrganModel$Book" "caves" "I" "DriftOrganModel" ∈ jGL := jmem 1289 (by decide +kernel) rfl
theorem jw_1517 : Cond.code yX11_known cX11_known 5 (some .int) ∈ jGL := jmem 1517 (by decide +kernel) rfl
theorem jw_1514 : Cond.methodLink RX11 154 yX11_known ∈ jGL := jmem 1514 (by decide +kernel) rfl
theorem jw_1516 : Cond.instanceMethod yX11_known ∈ jGL := jmem 1516 (by decide +kernel) rfl
theorem jw_68 : Cond.selects RX11 yX11_known yX11_known ∈ jGL := jmem 68 (by decide +kernel) rfl
theorem jw_1363 : Cond.fieldLink RX11 97 "DriftOrganModel" "pipeName" "[I" ∈ jGL := jmem 1363 (by decide +kernel) rfl
theorem jw_1291 : Cond.fieldLinkNest RX11 158 "DriftOrganModel$Book" "pipes" "I" "DriftOrganModel" ∈ jGL := jmem 1291 (by decide +kernel) rfl
theorem jw_1570 : Cond.code yX11_product cX11_product 3 (some .int) ∈ jGL := jmem 1570 (by decide +kernel) rfl
theorem jw_1567 : Cond.methodLink RX11 161 yX11_product ∈ jGL := jmem 1567 (by decide +kernel) rfl
theorem jw_1569 : Cond.instanceMethod yX11_product ∈ jGL := jmem 1569 (by decide +kernel) rfl
theorem jw_80 : Cond.selects RX11 yX11_product yX11_product ∈ jGL := jmem 80 (by decide +kernel) rfl
theorem jw_1562 : Cond.code yX10_node cX10_node 4 (some .int) ∈ jGL := jmem 1562 (by decide +kernel) rfl
theorem jw_126 : Cond.initialized RX10 ∈ jGL := jmem 126 (by decide +kernel) rfl
theorem jw_1559 : Cond.methodLink RX11 164 yX10_node ∈ jGL := jmem 1559 (by decide +kernel) rfl
theorem jw_1560 : Cond.instanceMethod yX10_node ∈ jGL := jmem 1560 (by decide +kernel) rfl
theorem jw_1561 : Cond.selects RX10 yX10_node yX10_node ∈ jGL := jmem 1561 (by decide +kernel) rfl
theorem jw_1574 : Cond.code yX11_one cX11_one 2 (some .int) ∈ jGL := jmem 1574 (by decide +kernel) rfl
theorem jw_1571 : Cond.methodLink RX11 168 yX11_one ∈ jGL := jmem 1571 (by decide +kernel) rfl
theorem jw_1573 : Cond.instanceMethod yX11_one ∈ jGL := jmem 1573 (by decide +kernel) rfl
theorem jw_81 : Cond.selects RX11 yX11_one yX11_one ∈ jGL := jmem 81 (by decide +kernel) rfl
theorem jw_1575 : Cond.constant RX11 171 999999 ∈ jGL := jmem 1575 (by decide +kernel) rfl
theorem jw_1505 : Cond.code yX11_number cX11_number 3 (some .int) ∈ jGL := jmem 1505 (by decide +kernel) rfl
theorem jw_1502 : Cond.methodLink RX11 172 yX11_number ∈ jGL := jmem 1502 (by decide +kernel) rfl
theorem jw_1504 : Cond.instanceMethod yX11_number ∈ jGL := jmem 1504 (by decide +kernel) rfl
theorem jw_65 : Cond.selects RX11 yX11_number yX11_number ∈ jGL := jmem 65 (by decide +kernel) rfl
theorem jw_1513 : Cond.code yX11_knownCave cX11_knownCave 1 (some .int) ∈ jGL := jmem 1513 (by decide +kernel) rfl
theorem jw_1510 : Cond.methodLink RX11 176 yX11_knownCave ∈ jGL := jmem 1510 (by decide +kernel) rfl
theorem jw_1512 : Cond.instanceMethod yX11_knownCave ∈ jGL := jmem 1512 (by decide +kernel) rfl
theorem jw_67 : Cond.selects RX11 yX11_knownCave yX11_knownCave ∈ jGL := jmem 67 (by decide +kernel) rfl
theorem jw_1538 : Cond.code yX11_knownPipe cX11_knownPipe 1 (some .int) ∈ jGL := jmem 1538 (by decide +kernel) rfl
theorem jw_1535 : Cond.methodLink RX11 179 yX11_knownPipe ∈ jGL := jmem 1535 (by decide +kernel) rfl
theorem jw_1537 : Cond.instanceMethod yX11_knownPipe ∈ jGL := jmem 1537 (by decide +kernel) rfl
theorem jw_73 : Cond.selects RX11 yX11_knownPipe yX11_knownPipe ∈ jGL := jmem 73 (by decide +kernel) rfl
theorem jw_1558 : Cond.code yX11_deeper cX11_deeper 1 none ∈ jGL := jmem 1558 (by decide +kernel) rfl
theorem jw_1555 : Cond.methodLink RX11 182 yX11_deeper ∈ jGL := jmem 1555 (by decide +kernel) rfl
theorem jw_1557 : Cond.instanceMethod yX11_deeper ∈ jGL := jmem 1557 (by decide +kernel) rfl
theorem jw_78 : Cond.selects RX11 yX11_deeper yX11_deeper ∈ jGL := jmem 78 (by decide +kernel) rfl
theorem jw_1579 : Cond.code yX11_inner cX11_inner 2 (some .int) ∈ jGL := jmem 1579 (by decide +kernel) rfl
theorem jw_1576 : Cond.methodLink RX11 185 yX11_inner ∈ jGL := jmem 1576 (by decide +kernel) rfl
theorem jw_1578 : Cond.instanceMethod yX11_inner ∈ jGL := jmem 1578 (by decide +kernel) rfl
theorem jw_82 : Cond.selects RX11 yX11_inner yX11_inner ∈ jGL := jmem 82 (by decide +kernel) rfl
theorem jw_1583 : Cond.code yX11_both cX11_both 4 (some .int) ∈ jGL := jmem 1583 (by decide +kernel) rfl
theorem jw_1580 : Cond.methodLink RX11 188 yX11_both ∈ jGL := jmem 1580 (by decide +kernel) rfl
theorem jw_1582 : Cond.instanceMethod yX11_both ∈ jGL := jmem 1582 (by decide +kernel) rfl
theorem jw_83 : Cond.selects RX11 yX11_both yX11_both ∈ jGL := jmem 83 (by decide +kernel) rfl
theorem jw_1566 : Cond.code yX11_sum cX11_sum 3 (some .int) ∈ jGL := jmem 1566 (by decide +kernel) rfl
theorem jw_1563 : Cond.methodLink RX11 191 yX11_sum ∈ jGL := jmem 1563 (by decide +kernel) rfl
theorem jw_1565 : Cond.instanceMethod yX11_sum ∈ jGL := jmem 1565 (by decide +kernel) rfl
theorem jw_79 : Cond.selects RX11 yX11_sum yX11_sum ∈ jGL := jmem 79 (by decide +kernel) rfl
theorem jw_1501 : Cond.code yX11_take cX11_take 3 none ∈ jGL := jmem 1501 (by decide +kernel) rfl
theorem jw_1498 : Cond.methodLink RX11 194 yX11_take ∈ jGL := jmem 1498 (by decide +kernel) rfl
theorem jw_1500 : Cond.instanceMethod yX11_take ∈ jGL := jmem 1500 (by decide +kernel) rfl
theorem jw_64 : Cond.selects RX11 yX11_take yX11_take ∈ jGL := jmem 64 (by decide +kernel) rfl
theorem jw_1550 : Cond.code yX11_pair cX11_pair 2 (some .int) ∈ jGL := jmem 1550 (by decide +kernel) rfl
theorem jw_1547 : Cond.methodLink RX11 197 yX11_pair ∈ jGL := jmem 1547 (by decide +kernel) rfl
theorem jw_1549 : Cond.instanceMethod yX11_pair ∈ jGL := jmem 1549 (by decide +kernel) rfl
theorem jw_76 : Cond.selects RX11 yX11_pair yX11_pair ∈ jGL := jmem 76 (by decide +kernel) rfl
theorem jw_1554 : Cond.code yX11_single cX11_single 3 (some .int) ∈ jGL := jmem 1554 (by decide +kernel) rfl
theorem jw_1551 : Cond.methodLink RX11 200 yX11_single ∈ jGL := jmem 1551 (by decide +kernel) rfl
theorem jw_1553 : Cond.instanceMethod yX11_single ∈ jGL := jmem 1553 (by decide +kernel) rfl
theorem jw_77 : Cond.selects RX11 yX11_single yX11_single ∈ jGL := jmem 77 (by decide +kernel) rfl
theorem jw_1546 : Cond.code yX11_test cX11_test 2 (some .int) ∈ jGL := jmem 1546 (by decide +kernel) rfl
theorem jw_1543 : Cond.methodLink RX11 203 yX11_test ∈ jGL := jmem 1543 (by decide +kernel) rfl
theorem jw_1545 : Cond.instanceMethod yX11_test ∈ jGL := jmem 1545 (by decide +kernel) rfl
theorem jw_75 : Cond.selects RX11 yX11_test yX11_test ∈ jGL := jmem 75 (by decide +kernel) rfl
theorem jw_1473 : Cond.code yX11_readCave cX11_readCave 4 none ∈ jGL := jmem 1473 (by decide +kernel) rfl
theorem jw_1470 : Cond.methodLink RX11 206 yX11_readCave ∈ jGL := jmem 1470 (by decide +kernel) rfl
theorem jw_1472 : Cond.instanceMethod yX11_readCave ∈ jGL := jmem 1472 (by decide +kernel) rfl
theorem jw_57 : Cond.selects RX11 yX11_readCave yX11_readCave ∈ jGL := jmem 57 (by decide +kernel) rfl
theorem jw_1509 : Cond.code yX11_readPipe cX11_readPipe 5 none ∈ jGL := jmem 1509 (by decide +kernel) rfl
theorem jw_1506 : Cond.methodLink RX11 209 yX11_readPipe ∈ jGL := jmem 1506 (by decide +kernel) rfl
theorem jw_1508 : Cond.instanceMethod yX11_readPipe ∈ jGL := jmem 1508 (by decide +kernel) rfl
theorem jw_66 : Cond.selects RX11 yX11_readPipe yX11_readPipe ∈ jGL := jmem 66 (by decide +kernel) rfl
theorem jw_1521 : Cond.code yX11_readSwell cX11_readSwell 4 none ∈ jGL := jmem 1521 (by decide +kernel) rfl
theorem jw_1518 : Cond.methodLink RX11 212 yX11_readSwell ∈ jGL := jmem 1518 (by decide +kernel) rfl
theorem jw_1520 : Cond.instanceMethod yX11_readSwell ∈ jGL := jmem 1520 (by decide +kernel) rfl
theorem jw_69 : Cond.selects RX11 yX11_readSwell yX11_readSwell ∈ jGL := jmem 69 (by decide +kernel) rfl
theorem jw_1525 : Cond.code yX11_readSilence cX11_readSilence 3 none ∈ jGL := jmem 1525 (by decide +kernel) rfl
theorem jw_1522 : Cond.methodLink RX11 215 yX11_readSilence ∈ jGL := jmem 1522 (by decide +kernel) rfl
theorem jw_1524 : Cond.instanceMethod yX11_readSilence ∈ jGL := jmem 1524 (by decide +kernel) rfl
theorem jw_70 : Cond.selects RX11 yX11_readSilence yX11_readSilence ∈ jGL := jmem 70 (by decide +kernel) rfl
theorem jw_1529 : Cond.code yX11_readChord cX11_readChord 5 none ∈ jGL := jmem 1529 (by decide +kernel) rfl
theorem jw_1526 : Cond.methodLink RX11 218 yX11_readChord ∈ jGL := jmem 1526 (by decide +kernel) rfl
theorem jw_1528 : Cond.instanceMethod yX11_readChord ∈ jGL := jmem 1528 (by decide +kernel) rfl
theorem jw_71 : Cond.selects RX11 yX11_readChord yX11_readChord ∈ jGL := jmem 71 (by decide +kernel) rfl
theorem jw_1542 : Cond.code yX11_readOrder cX11_readOrder 4 none ∈ jGL := jmem 1542 (by decide +kernel) rfl
theorem jw_1539 : Cond.methodLink RX11 221 yX11_readOrder ∈ jGL := jmem 1539 (by decide +kernel) rfl
theorem jw_1541 : Cond.instanceMethod yX11_readOrder ∈ jGL := jmem 1541 (by decide +kernel) rfl
theorem jw_74 : Cond.selects RX11 yX11_readOrder yX11_readOrder ∈ jGL := jmem 74 (by decide +kernel) rfl
theorem jw_1477 : Cond.code yX11_fresh cX11_fresh 5 (some .int) ∈ jGL := jmem 1477 (by decide +kernel) rfl
theorem jw_1474 : Cond.methodLink RX11 224 yX11_fresh ∈ jGL := jmem 1474 (by decide +kernel) rfl
theorem jw_1476 : Cond.instanceMethod yX11_fresh ∈ jGL := jmem 1476 (by decide +kernel) rfl
theorem jw_58 : Cond.selects RX11 yX11_fresh yX11_fresh ∈ jGL := jmem 58 (by decide +kernel) rfl
theorem jw_1301 : Cond.fieldLinkNest RX11 227 "DriftOrganModel$Book" "cave" "[I" "DriftOrganModel" ∈ jGL := jmem 1301 (by decide +kernel) rfl
theorem jw_1303 : Cond.fieldLinkNest RX11 230 "DriftOrganModel$Book" "pipe" "[I" "DriftOrganModel" ∈ jGL := jmem 1303 (by decide +kernel) rfl
theorem jw_1293 : Cond.fieldLinkNest RX11 233 "DriftOrganModel$Book" "swells" "I" "DriftOrganModel" ∈ jGL := jmem 1293 (by decide +kernel) rfl
theorem jw_1305 : Cond.fieldLinkNest RX11 236 "DriftOrganModel$Book" "swell" "[I" "DriftOrganModel" ∈ jGL := jmem 1305 (by decide +kernel) rfl
theorem jw_1295 : Cond.fieldLinkNest RX11 239 "DriftOrganModel$Book" "silences" "I" "DriftOrganModel" ∈ jGL := jmem 1295 (by decide +kernel) rfl
theorem jw_1307 : Cond.fieldLinkNest RX11 242 "DriftOrganModel$Book" "silence" "[I" "DriftOrganModel" ∈ jGL := jmem 1307 (by decide +kernel) rfl
theorem jw_1364 : Cond.fieldLink RX11 100 "DriftOrganModel" "chordName" "[I" ∈ jGL := jmem 1364 (by decide +kernel) rfl
theorem jw_1297 : Cond.fieldLinkNest RX11 245 "DriftOrganModel$Book" "chords" "I" "DriftOrganModel" ∈ jGL := jmem 1297 (by decide +kernel) rfl
theorem jw_1530 : Cond.methodLink RX11 248 Lib.Math.min.name ∈ jGL := jmem 1530 (by decide +kernel) rfl
theorem jw_1534 : Cond.code yX11_readNote cX11_readNote 9 (some .int) ∈ jGL := jmem 1534 (by decide +kernel) rfl
theorem jw_1531 : Cond.methodLink RX11 253 yX11_readNote ∈ jGL := jmem 1531 (by decide +kernel) rfl
theorem jw_1533 : Cond.instanceMethod yX11_readNote ∈ jGL := jmem 1533 (by decide +kernel) rfl
theorem jw_72 : Cond.selects RX11 yX11_readNote yX11_readNote ∈ jGL := jmem 72 (by decide +kernel) rfl
theorem jw_1309 : Cond.fieldLinkNest RX11 257 "DriftOrganModel$Book" "chord" "[I" "DriftOrganModel" ∈ jGL := jmem 1309 (by decide +kernel) rfl
theorem jw_1370 : Cond.fieldLink RX11 103 "DriftOrganModel" "spare" "[I" ∈ jGL := jmem 1370 (by decide +kernel) rfl
theorem jw_1299 : Cond.fieldLinkNest RX11 260 "DriftOrganModel$Book" "orders" "I" "DriftOrganModel" ∈ jGL := jmem 1299 (by decide +kernel) rfl
theorem jw_1311 : Cond.fieldLinkNest RX11 263 "DriftOrganModel$Book" "order" "[I" "DriftOrganModel" ∈ jGL := jmem 1311 (by decide +kernel) rfl
theorem jw_1423 : Cond.code yX11_split cX11_split 4 none ∈ jGL := jmem 1423 (by decide +kernel) rfl
theorem jw_1420 : Cond.methodLink RX11 266 yX11_split ∈ jGL := jmem 1420 (by decide +kernel) rfl
theorem jw_1422 : Cond.instanceMethod yX11_split ∈ jGL := jmem 1422 (by decide +kernel) rfl
theorem jw_48 : Cond.selects RX11 yX11_split yX11_split ∈ jGL := jmem 48 (by decide +kernel) rfl
theorem jw_1457 : Cond.code yX10_empty cX10_empty 1 none ∈ jGL := jmem 1457 (by decide +kernel) rfl
theorem jw_1454 : Cond.methodLink RX11 269 yX10_empty ∈ jGL := jmem 1454 (by decide +kernel) rfl
theorem jw_1455 : Cond.instanceMethod yX10_empty ∈ jGL := jmem 1455 (by decide +kernel) rfl
theorem jw_1456 : Cond.selects RX10 yX10_empty yX10_empty ∈ jGL := jmem 1456 (by decide +kernel) rfl
theorem jw_1465 : Cond.code yX11_line cX11_line 1 none ∈ jGL := jmem 1465 (by decide +kernel) rfl
theorem jw_1462 : Cond.methodLink RX11 272 yX11_line ∈ jGL := jmem 1462 (by decide +kernel) rfl
theorem jw_1464 : Cond.instanceMethod yX11_line ∈ jGL := jmem 1464 (by decide +kernel) rfl
theorem jw_55 : Cond.selects RX11 yX11_line yX11_line ∈ jGL := jmem 55 (by decide +kernel) rfl
theorem jw_1355 : Cond.fieldLink RX11 81 "DriftOrganModel" "wrong" "I" ∈ jGL := jmem 1355 (by decide +kernel) rfl
theorem jw_1587 : Cond.code yX11_change cX11_change 3 none ∈ jGL := jmem 1587 (by decide +kernel) rfl
theorem jw_1584 : Cond.methodLink RX11 275 yX11_change ∈ jGL := jmem 1584 (by decide +kernel) rfl
theorem jw_1586 : Cond.instanceMethod yX11_change ∈ jGL := jmem 1586 (by decide +kernel) rfl
theorem jw_84 : Cond.selects RX11 yX11_change yX11_change ∈ jGL := jmem 84 (by decide +kernel) rfl
theorem jw_1360 : Cond.fieldLink RX11 87 "DriftOrganModel" "book" "LDriftOrganModel$Book;" ∈ jGL := jmem 1360 (by decide +kernel) rfl
theorem jw_1371 : Cond.fieldLink RX11 106 "DriftOrganModel" "now" "[I" ∈ jGL := jmem 1371 (by decide +kernel) rfl
theorem jw_1671 : Cond.code yX11_lengthOf cX11_lengthOf 2 (some .int) ∈ jGL := jmem 1671 (by decide +kernel) rfl
theorem jw_1668 : Cond.methodLink RX11 278 yX11_lengthOf ∈ jGL := jmem 1668 (by decide +kernel) rfl
theorem jw_1670 : Cond.instanceMethod yX11_lengthOf ∈ jGL := jmem 1670 (by decide +kernel) rfl
theorem jw_100 : Cond.selects RX11 yX11_lengthOf yX11_lengthOf ∈ jGL := jmem 100 (by decide +kernel) rfl
theorem jw_1675 : Cond.code yX11_reedOf cX11_reedOf 2 (some .int) ∈ jGL := jmem 1675 (by decide +kernel) rfl
theorem jw_1672 : Cond.methodLink RX11 281 yX11_reedOf ∈ jGL := jmem 1672 (by decide +kernel) rfl
theorem jw_1674 : Cond.instanceMethod yX11_reedOf ∈ jGL := jmem 1674 (by decide +kernel) rfl
theorem jw_101 : Cond.selects RX11 yX11_reedOf yX11_reedOf ∈ jGL := jmem 101 (by decide +kernel) rfl
theorem jw_1316 : Cond.fieldLinkNest RX11 284 "DriftOrganModel$Book" "one" "[I" "DriftOrganModel" ∈ jGL := jmem 1316 (by decide +kernel) rfl
theorem jw_1318 : Cond.fieldLinkNest RX11 286 "DriftOrganModel$Book" "two" "[I" "DriftOrganModel" ∈ jGL := jmem 1318 (by decide +kernel) rfl
theorem jw_1314 : Cond.fieldLinkNest RX11 289 "DriftOrganModel$Book" "op" "[I" "DriftOrganModel" ∈ jGL := jmem 1314 (by decide +kernel) rfl
theorem jw_1647 : Cond.code yX11_reckon cX11_reckon 5 (some .int) ∈ jGL := jmem 1647 (by decide +kernel) rfl
theorem jw_1644 : Cond.methodLink RX11 292 yX11_reckon ∈ jGL := jmem 1644 (by decide +kernel) rfl
theorem jw_1646 : Cond.instanceMethod yX11_reckon ∈ jGL := jmem 1646 (by decide +kernel) rfl
theorem jw_96 : Cond.selects RX11 yX11_reckon yX11_reckon ∈ jGL := jmem 96 (by decide +kernel) rfl
theorem jw_1648 : Cond.methodLink RX11 296 Lib.Math.max.name ∈ jGL := jmem 1648 (by decide +kernel) rfl
theorem jw_1651 : Cond.code yX11_parts cX11_parts 2 (some .int) ∈ jGL := jmem 1651 (by decide +kernel) rfl
theorem jw_1650 : Cond.static yX11_parts ∈ jGL := jmem 1650 (by decide +kernel) rfl
theorem jw_1649 : Cond.methodLink RX11 299 yX11_parts ∈ jGL := jmem 1649 (by decide +kernel) rfl
theorem jw_1643 : Cond.code yX11_holds cX11_holds 5 (some .boolean) ∈ jGL := jmem 1643 (by decide +kernel) rfl
theorem jw_1640 : Cond.methodLink RX11 302 yX11_holds ∈ jGL := jmem 1640 (by decide +kernel) rfl
theorem jw_1642 : Cond.instanceMethod yX11_holds ∈ jGL := jmem 1642 (by decide +kernel) rfl
theorem jw_95 : Cond.selects RX11 yX11_holds yX11_holds ∈ jGL := jmem 95 (by decide +kernel) rfl
theorem jw_1639 : Cond.code yX11_isQuiet cX11_isQuiet 7 (some .boolean) ∈ jGL := jmem 1639 (by decide +kernel) rfl
theorem jw_1636 : Cond.methodLink RX11 306 yX11_isQuiet ∈ jGL := jmem 1636 (by decide +kernel) rfl
theorem jw_1638 : Cond.instanceMethod yX11_isQuiet ∈ jGL := jmem 1638 (by decide +kernel) rfl
theorem jw_94 : Cond.selects RX11 yX11_isQuiet yX11_isQuiet ∈ jGL := jmem 94 (by decide +kernel) rfl
theorem jw_1707 : Cond.code yX11_heightOf cX11_heightOf 6 (some .int) ∈ jGL := jmem 1707 (by decide +kernel) rfl
theorem jw_1704 : Cond.methodLink RX11 309 yX11_heightOf ∈ jGL := jmem 1704 (by decide +kernel) rfl
theorem jw_1706 : Cond.instanceMethod yX11_heightOf ∈ jGL := jmem 1706 (by decide +kernel) rfl
theorem jw_105 : Cond.selects RX11 yX11_heightOf yX11_heightOf ∈ jGL := jmem 105 (by decide +kernel) rfl
theorem jw_1635 : Cond.code yX11_isShut cX11_isShut 5 (some .boolean) ∈ jGL := jmem 1635 (by decide +kernel) rfl
theorem jw_1632 : Cond.methodLink RX11 312 yX11_isShut ∈ jGL := jmem 1632 (by decide +kernel) rfl
theorem jw_1634 : Cond.instanceMethod yX11_isShut ∈ jGL := jmem 1634 (by decide +kernel) rfl
theorem jw_93 : Cond.selects RX11 yX11_isShut yX11_isShut ∈ jGL := jmem 93 (by decide +kernel) rfl
theorem jw_1667 : Cond.code yX11_need cX11_need 3 (some .int) ∈ jGL := jmem 1667 (by decide +kernel) rfl
theorem jw_1664 : Cond.methodLink RX11 316 yX11_need ∈ jGL := jmem 1664 (by decide +kernel) rfl
theorem jw_1666 : Cond.instanceMethod yX11_need ∈ jGL := jmem 1666 (by decide +kernel) rfl
theorem jw_99 : Cond.selects RX11 yX11_need yX11_need ∈ jGL := jmem 99 (by decide +kernel) rfl
theorem jw_1611 : Cond.code yX11_chimes cX11_chimes 5 (some .boolean) ∈ jGL := jmem 1611 (by decide +kernel) rfl
theorem jw_1608 : Cond.methodLink RX11 319 yX11_chimes ∈ jGL := jmem 1608 (by decide +kernel) rfl
theorem jw_1610 : Cond.instanceMethod yX11_chimes ∈ jGL := jmem 1610 (by decide +kernel) rfl
theorem jw_88 : Cond.selects RX11 yX11_chimes yX11_chimes ∈ jGL := jmem 88 (by decide +kernel) rfl
theorem jw_1743 : Cond.code yX11_press cX11_press 4 none ∈ jGL := jmem 1743 (by decide +kernel) rfl
theorem jw_1740 : Cond.methodLink RX11 322 yX11_press ∈ jGL := jmem 1740 (by decide +kernel) rfl
theorem jw_1742 : Cond.instanceMethod yX11_press ∈ jGL := jmem 1742 (by decide +kernel) rfl
theorem jw_109 : Cond.selects RX11 yX11_press yX11_press ∈ jGL := jmem 109 (by decide +kernel) rfl
theorem jw_1747 : Cond.code yX11_blow cX11_blow 4 none ∈ jGL := jmem 1747 (by decide +kernel) rfl
theorem jw_1744 : Cond.methodLink RX11 326 yX11_blow ∈ jGL := jmem 1744 (by decide +kernel) rfl
theorem jw_1746 : Cond.instanceMethod yX11_blow ∈ jGL := jmem 1746 (by decide +kernel) rfl
theorem jw_110 : Cond.selects RX11 yX11_blow yX11_blow ∈ jGL := jmem 110 (by decide +kernel) rfl
theorem jw_1751 : Cond.code yX11_settle cX11_settle 5 none ∈ jGL := jmem 1751 (by decide +kernel) rfl
theorem jw_1748 : Cond.methodLink RX11 329 yX11_settle ∈ jGL := jmem 1748 (by decide +kernel) rfl
theorem jw_1750 : Cond.instanceMethod yX11_settle ∈ jGL := jmem 1750 (by decide +kernel) rfl
theorem jw_111 : Cond.selects RX11 yX11_settle yX11_settle ∈ jGL := jmem 111 (by decide +kernel) rfl
theorem jw_1755 : Cond.code yX11_chime cX11_chime 3 none ∈ jGL := jmem 1755 (by decide +kernel) rfl
theorem jw_1752 : Cond.methodLink RX11 332 yX11_chime ∈ jGL := jmem 1752 (by decide +kernel) rfl
theorem jw_1754 : Cond.instanceMethod yX11_chime ∈ jGL := jmem 1754 (by decide +kernel) rfl
theorem jw_112 : Cond.selects RX11 yX11_chime yX11_chime ∈ jGL := jmem 112 (by decide +kernel) rfl
theorem jw_1739 : Cond.code yX11_pass cX11_pass 3 none ∈ jGL := jmem 1739 (by decide +kernel) rfl
theorem jw_1736 : Cond.methodLink RX11 335 yX11_pass ∈ jGL := jmem 1736 (by decide +kernel) rfl
theorem jw_1738 : Cond.instanceMethod yX11_pass ∈ jGL := jmem 1738 (by decide +kernel) rfl
theorem jw_108 : Cond.selects RX11 yX11_pass yX11_pass ∈ jGL := jmem 108 (by decide +kernel) rfl
theorem jw_1372 : Cond.fieldLink RX11 109 "DriftOrganModel" "ahead" "[I" ∈ jGL := jmem 1372 (by decide +kernel) rfl
theorem jw_1603 : Cond.code yX11_sounding cX11_sounding 4 (some .int) ∈ jGL := jmem 1603 (by decide +kernel) rfl
theorem jw_1600 : Cond.methodLink RX11 345 yX11_sounding ∈ jGL := jmem 1600 (by decide +kernel) rfl
theorem jw_1602 : Cond.instanceMethod yX11_sounding ∈ jGL := jmem 1602 (by decide +kernel) rfl
theorem jw_86 : Cond.selects RX11 yX11_sounding yX11_sounding ∈ jGL := jmem 86 (by decide +kernel) rfl
theorem jw_1607 : Cond.code yX11_chiming cX11_chiming 3 (some .int) ∈ jGL := jmem 1607 (by decide +kernel) rfl
theorem jw_1604 : Cond.methodLink RX11 349 yX11_chiming ∈ jGL := jmem 1604 (by decide +kernel) rfl
theorem jw_1606 : Cond.instanceMethod yX11_chiming ∈ jGL := jmem 1606 (by decide +kernel) rfl
theorem jw_87 : Cond.selects RX11 yX11_chiming yX11_chiming ∈ jGL := jmem 87 (by decide +kernel) rfl
theorem jw_1615 : Cond.code yX11_silt cX11_silt 4 (some .int) ∈ jGL := jmem 1615 (by decide +kernel) rfl
theorem jw_1612 : Cond.methodLink RX11 352 yX11_silt ∈ jGL := jmem 1612 (by decide +kernel) rfl
theorem jw_1614 : Cond.instanceMethod yX11_silt ∈ jGL := jmem 1614 (by decide +kernel) rfl
theorem jw_89 : Cond.selects RX11 yX11_silt yX11_silt ∈ jGL := jmem 89 (by decide +kernel) rfl
theorem jw_1599 : Cond.code yX11_counted cX11_counted 2 (some .int) ∈ jGL := jmem 1599 (by decide +kernel) rfl
theorem jw_1596 : Cond.methodLink RX11 355 yX11_counted ∈ jGL := jmem 1596 (by decide +kernel) rfl
theorem jw_1598 : Cond.instanceMethod yX11_counted ∈ jGL := jmem 1598 (by decide +kernel) rfl
theorem jw_85 : Cond.selects RX11 yX11_counted yX11_counted ∈ jGL := jmem 85 (by decide +kernel) rfl
theorem jw_1631 : Cond.code yX11_pipesOf cX11_pipesOf 4 (some .int) ∈ jGL := jmem 1631 (by decide +kernel) rfl
theorem jw_1628 : Cond.methodLink RX11 358 yX11_pipesOf ∈ jGL := jmem 1628 (by decide +kernel) rfl
theorem jw_1630 : Cond.instanceMethod yX11_pipesOf ∈ jGL := jmem 1630 (by decide +kernel) rfl
theorem jw_92 : Cond.selects RX11 yX11_pipesOf yX11_pipesOf ∈ jGL := jmem 92 (by decide +kernel) rfl
theorem jw_1623 : Cond.code yX11_isCave cX11_isCave 2 (some .boolean) ∈ jGL := jmem 1623 (by decide +kernel) rfl
theorem jw_1620 : Cond.methodLink RX11 361 yX11_isCave ∈ jGL := jmem 1620 (by decide +kernel) rfl
theorem jw_1622 : Cond.instanceMethod yX11_isCave ∈ jGL := jmem 1622 (by decide +kernel) rfl
theorem jw_90 : Cond.selects RX11 yX11_isCave yX11_isCave ∈ jGL := jmem 90 (by decide +kernel) rfl
theorem jw_1627 : Cond.code yX11_caveTold cX11_caveTold 3 (some .int) ∈ jGL := jmem 1627 (by decide +kernel) rfl
theorem jw_1624 : Cond.methodLink RX11 364 yX11_caveTold ∈ jGL := jmem 1624 (by decide +kernel) rfl
theorem jw_1626 : Cond.instanceMethod yX11_caveTold ∈ jGL := jmem 1626 (by decide +kernel) rfl
theorem jw_91 : Cond.selects RX11 yX11_caveTold yX11_caveTold ∈ jGL := jmem 91 (by decide +kernel) rfl
theorem jw_1659 : Cond.code yX11_isPipe cX11_isPipe 2 (some .boolean) ∈ jGL := jmem 1659 (by decide +kernel) rfl
theorem jw_1656 : Cond.methodLink RX11 367 yX11_isPipe ∈ jGL := jmem 1656 (by decide +kernel) rfl
theorem jw_1658 : Cond.instanceMethod yX11_isPipe ∈ jGL := jmem 1658 (by decide +kernel) rfl
theorem jw_97 : Cond.selects RX11 yX11_isPipe yX11_isPipe ∈ jGL := jmem 97 (by decide +kernel) rfl
theorem jw_1663 : Cond.code yX11_pipeTold cX11_pipeTold 3 (some .int) ∈ jGL := jmem 1663 (by decide +kernel) rfl
theorem jw_1660 : Cond.methodLink RX11 370 yX11_pipeTold ∈ jGL := jmem 1660 (by decide +kernel) rfl
theorem jw_1662 : Cond.instanceMethod yX11_pipeTold ∈ jGL := jmem 1662 (by decide +kernel) rfl
theorem jw_98 : Cond.selects RX11 yX11_pipeTold yX11_pipeTold ∈ jGL := jmem 98 (by decide +kernel) rfl
theorem jw_1691 : Cond.code yX11_wide cX11_wide 5 (some .int) ∈ jGL := jmem 1691 (by decide +kernel) rfl
theorem jw_1688 : Cond.methodLink RX11 373 yX11_wide ∈ jGL := jmem 1688 (by decide +kernel) rfl
theorem jw_1690 : Cond.instanceMethod yX11_wide ∈ jGL := jmem 1690 (by decide +kernel) rfl
theorem jw_104 : Cond.selects RX11 yX11_wide yX11_wide ∈ jGL := jmem 104 (by decide +kernel) rfl
theorem jw_1683 : Cond.code yX11_isChord cX11_isChord 2 (some .boolean) ∈ jGL := jmem 1683 (by decide +kernel) rfl
theorem jw_1680 : Cond.methodLink RX11 376 yX11_isChord ∈ jGL := jmem 1680 (by decide +kernel) rfl
theorem jw_1682 : Cond.instanceMethod yX11_isChord ∈ jGL := jmem 1682 (by decide +kernel) rfl
theorem jw_102 : Cond.selects RX11 yX11_isChord yX11_isChord ∈ jGL := jmem 102 (by decide +kernel) rfl
theorem jw_1687 : Cond.code yX11_chordTold cX11_chordTold 3 (some .int) ∈ jGL := jmem 1687 (by decide +kernel) rfl
theorem jw_1684 : Cond.methodLink RX11 379 yX11_chordTold ∈ jGL := jmem 1684 (by decide +kernel) rfl
theorem jw_1686 : Cond.instanceMethod yX11_chordTold ∈ jGL := jmem 1686 (by decide +kernel) rfl
theorem jw_103 : Cond.selects RX11 yX11_chordTold yX11_chordTold ∈ jGL := jmem 103 (by decide +kernel) rfl
theorem jw_1719 : Cond.code yX11_put cX11_put 4 (some .int) ∈ jGL := jmem 1719 (by decide +kernel) rfl
theorem jw_1716 : Cond.methodLink RX11 382 yX11_put ∈ jGL := jmem 1716 (by decide +kernel) rfl
theorem jw_1718 : Cond.instanceMethod yX11_put ∈ jGL := jmem 1718 (by decide +kernel) rfl
theorem jw_106 : Cond.selects RX11 yX11_put yX11_put ∈ jGL := jmem 106 (by decide +kernel) rfl
theorem jw_1735 : Cond.code yX11_passAll cX11_passAll 4 none ∈ jGL := jmem 1735 (by decide +kernel) rfl
theorem jw_1732 : Cond.methodLink RX11 385 yX11_passAll ∈ jGL := jmem 1732 (by decide +kernel) rfl
theorem jw_1734 : Cond.instanceMethod yX11_passAll ∈ jGL := jmem 1734 (by decide +kernel) rfl
theorem jw_107 : Cond.selects RX11 yX11_passAll yX11_passAll ∈ jGL := jmem 107 (by decide +kernel) rfl
theorem jw_1763 : Cond.code yX11_lookAhead cX11_lookAhead 1 none ∈ jGL := jmem 1763 (by decide +kernel) rfl
theorem jw_1760 : Cond.methodLink RX11 388 yX11_lookAhead ∈ jGL := jmem 1760 (by decide +kernel) rfl
theorem jw_1762 : Cond.instanceMethod yX11_lookAhead ∈ jGL := jmem 1762 (by decide +kernel) rfl
theorem jw_113 : Cond.selects RX11 yX11_lookAhead yX11_lookAhead ∈ jGL := jmem 113 (by decide +kernel) rfl
theorem jw_1787 : Cond.constantLong RX11 391 827 ∈ jGL := jmem 1787 (by decide +kernel) rfl
theorem jw_1788 : Cond.constantLong RX11 393 31 ∈ jGL := jmem 1788 (by decide +kernel) rfl
