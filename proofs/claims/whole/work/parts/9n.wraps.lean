theorem dL_feed_0 : decode cL_feed 0 = .ok (.aload 6, 2) := by decide +kernel
theorem dL_feed_2 : decode cL_feed 2 = .ok (.iconst 0, 1) := by decide +kernel
theorem dL_feed_3 : decode cL_feed 3 = .ok (.aload_n 0, 1) := by decide +kernel
theorem dL_feed_4 : decode cL_feed 4 = .ok (.iload_n 1, 1) := by decide +kernel
theorem dL_feed_5 : decode cL_feed 5 = .ok (.iload_n 2, 1) := by decide +kernel
theorem dL_feed_6 : decode cL_feed 6 = .ok (.iload_n 3, 1) := by decide +kernel
theorem dL_feed_7 : decode cL_feed 7 = .ok (.iload 4, 2) := by decide +kernel
theorem dL_feed_9 : decode cL_feed 9 = .ok (.iload 5, 2) := by decide +kernel
theorem dL_feed_11 : decode cL_feed 11 = .ok (.invokevirtual 7, 3) := by decide +kernel
theorem dL_feed_14 : decode cL_feed 14 = .ok (.i2l, 1) := by decide +kernel
theorem dL_feed_15 : decode cL_feed 15 = .ok (.lastore, 1) := by decide +kernel
theorem dL_feed_16 : decode cL_feed 16 = .ok (.goto 7, 3) := by decide +kernel
theorem dL_feed_19 : decode cL_feed 19 = .ok (.astore 7, 2) := by decide +kernel
theorem dL_feed_21 : decode cL_feed 21 = .ok (.iconst 1, 1) := by decide +kernel
theorem dL_feed_22 : decode cL_feed 22 = .ok (.ireturn, 1) := by decide +kernel
theorem dL_feed_23 : decode cL_feed 23 = .ok (.iconst 0, 1) := by decide +kernel
theorem dL_feed_24 : decode cL_feed 24 = .ok (.ireturn, 1) := by decide +kernel
abbrev ML_feed : JM := (cL_feed, 8, RL, (some .int), yL_feed)
theorem jn_L_feed : jnm ML_feed 7 := by decide +kernel
theorem jp_L_feed : plainName ML_feed.2.2.2.2.cls = true := by decide +kernel
theorem dL_trim_0 : decode cL_trim 0 = .ok (.aload_n 2, 1) := by decide +kernel
theorem dL_trim_1 : decode cL_trim 1 = .ok (.iconst 0, 1) := by decide +kernel
theorem dL_trim_2 : decode cL_trim 2 = .ok (.aload_n 0, 1) := by decide +kernel
theorem dL_trim_3 : decode cL_trim 3 = .ok (.iload_n 1, 1) := by decide +kernel
theorem dL_trim_4 : decode cL_trim 4 = .ok (.invokevirtual 15, 3) := by decide +kernel
theorem dL_trim_7 : decode cL_trim 7 = .ok (.i2l, 1) := by decide +kernel
theorem dL_trim_8 : decode cL_trim 8 = .ok (.lastore, 1) := by decide +kernel
theorem dL_trim_9 : decode cL_trim 9 = .ok (.goto 6, 3) := by decide +kernel
theorem dL_trim_12 : decode cL_trim 12 = .ok (.astore_n 3, 1) := by decide +kernel
theorem dL_trim_13 : decode cL_trim 13 = .ok (.iconst 1, 1) := by decide +kernel
theorem dL_trim_14 : decode cL_trim 14 = .ok (.ireturn, 1) := by decide +kernel
theorem dL_trim_15 : decode cL_trim 15 = .ok (.iconst 0, 1) := by decide +kernel
theorem dL_trim_16 : decode cL_trim 16 = .ok (.ireturn, 1) := by decide +kernel
abbrev ML_trim : JM := (cL_trim, 4, RL, (some .int), yL_trim)
theorem jn_L_trim : jnm ML_trim 3 := by decide +kernel
theorem jp_L_trim : plainName ML_trim.2.2.2.2.cls = true := by decide +kernel
theorem dL_count_0 : decode cL_count 0 = .ok (.aload_n 2, 1) := by decide +kernel
theorem dL_count_1 : decode cL_count 1 = .ok (.iconst 0, 1) := by decide +kernel
theorem dL_count_2 : decode cL_count 2 = .ok (.aload_n 0, 1) := by decide +kernel
theorem dL_count_3 : decode cL_count 3 = .ok (.iload_n 1, 1) := by decide +kernel
theorem dL_count_4 : decode cL_count 4 = .ok (.invokevirtual 21, 3) := by decide +kernel
theorem dL_count_7 : decode cL_count 7 = .ok (.i2l, 1) := by decide +kernel
theorem dL_count_8 : decode cL_count 8 = .ok (.lastore, 1) := by decide +kernel
theorem dL_count_9 : decode cL_count 9 = .ok (.goto 6, 3) := by decide +kernel
theorem dL_count_12 : decode cL_count 12 = .ok (.astore_n 3, 1) := by decide +kernel
theorem dL_count_13 : decode cL_count 13 = .ok (.iconst 1, 1) := by decide +kernel
theorem dL_count_14 : decode cL_count 14 = .ok (.ireturn, 1) := by decide +kernel
theorem dL_count_15 : decode cL_count 15 = .ok (.iconst 0, 1) := by decide +kernel
theorem dL_count_16 : decode cL_count 16 = .ok (.ireturn, 1) := by decide +kernel
abbrev ML_count : JM := (cL_count, 4, RL, (some .int), yL_count)
theorem jn_L_count : jnm ML_count 3 := by decide +kernel
theorem jp_L_count : plainName ML_count.2.2.2.2.cls = true := by decide +kernel
theorem dL_cave_0 : decode cL_cave 0 = .ok (.aload_n 3, 1) := by decide +kernel
theorem dL_cave_1 : decode cL_cave 1 = .ok (.iconst 0, 1) := by decide +kernel
theorem dL_cave_2 : decode cL_cave 2 = .ok (.aload_n 0, 1) := by decide +kernel
theorem dL_cave_3 : decode cL_cave 3 = .ok (.iload_n 1, 1) := by decide +kernel
theorem dL_cave_4 : decode cL_cave 4 = .ok (.iload_n 2, 1) := by decide +kernel
theorem dL_cave_5 : decode cL_cave 5 = .ok (.invokevirtual 26, 3) := by decide +kernel
theorem dL_cave_8 : decode cL_cave 8 = .ok (.i2l, 1) := by decide +kernel
theorem dL_cave_9 : decode cL_cave 9 = .ok (.lastore, 1) := by decide +kernel
theorem dL_cave_10 : decode cL_cave 10 = .ok (.goto 7, 3) := by decide +kernel
theorem dL_cave_13 : decode cL_cave 13 = .ok (.astore 4, 2) := by decide +kernel
theorem dL_cave_15 : decode cL_cave 15 = .ok (.iconst 1, 1) := by decide +kernel
theorem dL_cave_16 : decode cL_cave 16 = .ok (.ireturn, 1) := by decide +kernel
theorem dL_cave_17 : decode cL_cave 17 = .ok (.iconst 0, 1) := by decide +kernel
theorem dL_cave_18 : decode cL_cave 18 = .ok (.ireturn, 1) := by decide +kernel
abbrev ML_cave : JM := (cL_cave, 5, RL, (some .int), yL_cave)
theorem jn_L_cave : jnm ML_cave 4 := by decide +kernel
theorem jp_L_cave : plainName ML_cave.2.2.2.2.cls = true := by decide +kernel
theorem dL_pipe_0 : decode cL_pipe 0 = .ok (.aload_n 3, 1) := by decide +kernel
theorem dL_pipe_1 : decode cL_pipe 1 = .ok (.iconst 0, 1) := by decide +kernel
theorem dL_pipe_2 : decode cL_pipe 2 = .ok (.aload_n 0, 1) := by decide +kernel
theorem dL_pipe_3 : decode cL_pipe 3 = .ok (.iload_n 1, 1) := by decide +kernel
theorem dL_pipe_4 : decode cL_pipe 4 = .ok (.iload_n 2, 1) := by decide +kernel
theorem dL_pipe_5 : decode cL_pipe 5 = .ok (.invokevirtual 30, 3) := by decide +kernel
theorem dL_pipe_8 : decode cL_pipe 8 = .ok (.i2l, 1) := by decide +kernel
theorem dL_pipe_9 : decode cL_pipe 9 = .ok (.lastore, 1) := by decide +kernel
theorem dL_pipe_10 : decode cL_pipe 10 = .ok (.goto 7, 3) := by decide +kernel
theorem dL_pipe_13 : decode cL_pipe 13 = .ok (.astore 4, 2) := by decide +kernel
theorem dL_pipe_15 : decode cL_pipe 15 = .ok (.iconst 1, 1) := by decide +kernel
theorem dL_pipe_16 : decode cL_pipe 16 = .ok (.ireturn, 1) := by decide +kernel
theorem dL_pipe_17 : decode cL_pipe 17 = .ok (.iconst 0, 1) := by decide +kernel
theorem dL_pipe_18 : decode cL_pipe 18 = .ok (.ireturn, 1) := by decide +kernel
abbrev ML_pipe : JM := (cL_pipe, 5, RL, (some .int), yL_pipe)
theorem jn_L_pipe : jnm ML_pipe 4 := by decide +kernel
theorem jp_L_pipe : plainName ML_pipe.2.2.2.2.cls = true := by decide +kernel
theorem dL_chord_0 : decode cL_chord 0 = .ok (.aload_n 3, 1) := by decide +kernel
theorem dL_chord_1 : decode cL_chord 1 = .ok (.iconst 0, 1) := by decide +kernel
theorem dL_chord_2 : decode cL_chord 2 = .ok (.aload_n 0, 1) := by decide +kernel
theorem dL_chord_3 : decode cL_chord 3 = .ok (.iload_n 1, 1) := by decide +kernel
theorem dL_chord_4 : decode cL_chord 4 = .ok (.iload_n 2, 1) := by decide +kernel
theorem dL_chord_5 : decode cL_chord 5 = .ok (.invokevirtual 33, 3) := by decide +kernel
theorem dL_chord_8 : decode cL_chord 8 = .ok (.i2l, 1) := by decide +kernel
theorem dL_chord_9 : decode cL_chord 9 = .ok (.lastore, 1) := by decide +kernel
theorem dL_chord_10 : decode cL_chord 10 = .ok (.goto 7, 3) := by decide +kernel
theorem dL_chord_13 : decode cL_chord 13 = .ok (.astore 4, 2) := by decide +kernel
theorem dL_chord_15 : decode cL_chord 15 = .ok (.iconst 1, 1) := by decide +kernel
theorem dL_chord_16 : decode cL_chord 16 = .ok (.ireturn, 1) := by decide +kernel
theorem dL_chord_17 : decode cL_chord 17 = .ok (.iconst 0, 1) := by decide +kernel
theorem dL_chord_18 : decode cL_chord 18 = .ok (.ireturn, 1) := by decide +kernel
abbrev ML_chord : JM := (cL_chord, 5, RL, (some .int), yL_chord)
theorem jn_L_chord : jnm ML_chord 4 := by decide +kernel
theorem jp_L_chord : plainName ML_chord.2.2.2.2.cls = true := by decide +kernel
theorem dL_note_0 : decode cL_note 0 = .ok (.aload_n 3, 1) := by decide +kernel
theorem dL_note_1 : decode cL_note 1 = .ok (.iconst 0, 1) := by decide +kernel
theorem dL_note_2 : decode cL_note 2 = .ok (.aload_n 0, 1) := by decide +kernel
theorem dL_note_3 : decode cL_note 3 = .ok (.iload_n 1, 1) := by decide +kernel
theorem dL_note_4 : decode cL_note 4 = .ok (.iload_n 2, 1) := by decide +kernel
theorem dL_note_5 : decode cL_note 5 = .ok (.invokevirtual 36, 3) := by decide +kernel
theorem dL_note_8 : decode cL_note 8 = .ok (.i2l, 1) := by decide +kernel
theorem dL_note_9 : decode cL_note 9 = .ok (.lastore, 1) := by decide +kernel
theorem dL_note_10 : decode cL_note 10 = .ok (.goto 7, 3) := by decide +kernel
theorem dL_note_13 : decode cL_note 13 = .ok (.astore 4, 2) := by decide +kernel
theorem dL_note_15 : decode cL_note 15 = .ok (.iconst 1, 1) := by decide +kernel
theorem dL_note_16 : decode cL_note 16 = .ok (.ireturn, 1) := by decide +kernel
theorem dL_note_17 : decode cL_note 17 = .ok (.iconst 0, 1) := by decide +kernel
theorem dL_note_18 : decode cL_note 18 = .ok (.ireturn, 1) := by decide +kernel
abbrev ML_note : JM := (cL_note, 5, RL, (some .int), yL_note)
theorem jn_L_note : jnm ML_note 4 := by decide +kernel
theorem jp_L_note : plainName ML_note.2.2.2.2.cls = true := by decide +kernel
theorem dL_apart_0 : decode cL_apart 0 = .ok (.aload_n 3, 1) := by decide +kernel
theorem dL_apart_1 : decode cL_apart 1 = .ok (.iconst 0, 1) := by decide +kernel
theorem dL_apart_2 : decode cL_apart 2 = .ok (.aload_n 0, 1) := by decide +kernel
theorem dL_apart_3 : decode cL_apart 3 = .ok (.iload_n 1, 1) := by decide +kernel
theorem dL_apart_4 : decode cL_apart 4 = .ok (.iload_n 2, 1) := by decide +kernel
theorem dL_apart_5 : decode cL_apart 5 = .ok (.invokevirtual 39, 3) := by decide +kernel
theorem dL_apart_8 : decode cL_apart 8 = .ok (.i2l, 1) := by decide +kernel
theorem dL_apart_9 : decode cL_apart 9 = .ok (.lastore, 1) := by decide +kernel
theorem dL_apart_10 : decode cL_apart 10 = .ok (.goto 7, 3) := by decide +kernel
theorem dL_apart_13 : decode cL_apart 13 = .ok (.astore 4, 2) := by decide +kernel
theorem dL_apart_15 : decode cL_apart 15 = .ok (.iconst 1, 1) := by decide +kernel
theorem dL_apart_16 : decode cL_apart 16 = .ok (.ireturn, 1) := by decide +kernel
theorem dL_apart_17 : decode cL_apart 17 = .ok (.iconst 0, 1) := by decide +kernel
theorem dL_apart_18 : decode cL_apart 18 = .ok (.ireturn, 1) := by decide +kernel
abbrev ML_apart : JM := (cL_apart, 5, RL, (some .int), yL_apart)
theorem jn_L_apart : jnm ML_apart 4 := by decide +kernel
theorem jp_L_apart : plainName ML_apart.2.2.2.2.cls = true := by decide +kernel
theorem dL_setTide_0 : decode cL_setTide 0 = .ok (.aload_n 2, 1) := by decide +kernel
theorem dL_setTide_1 : decode cL_setTide 1 = .ok (.iconst 0, 1) := by decide +kernel
theorem dL_setTide_2 : decode cL_setTide 2 = .ok (.aload_n 0, 1) := by decide +kernel
theorem dL_setTide_3 : decode cL_setTide 3 = .ok (.iload_n 1, 1) := by decide +kernel
theorem dL_setTide_4 : decode cL_setTide 4 = .ok (.invokevirtual 49, 3) := by decide +kernel
theorem dL_setTide_7 : decode cL_setTide 7 = .ok (.i2l, 1) := by decide +kernel
theorem dL_setTide_8 : decode cL_setTide 8 = .ok (.lastore, 1) := by decide +kernel
theorem dL_setTide_9 : decode cL_setTide 9 = .ok (.goto 6, 3) := by decide +kernel
theorem dL_setTide_12 : decode cL_setTide 12 = .ok (.astore_n 3, 1) := by decide +kernel
theorem dL_setTide_13 : decode cL_setTide 13 = .ok (.iconst 1, 1) := by decide +kernel
theorem dL_setTide_14 : decode cL_setTide 14 = .ok (.ireturn, 1) := by decide +kernel
theorem dL_setTide_15 : decode cL_setTide 15 = .ok (.iconst 0, 1) := by decide +kernel
theorem dL_setTide_16 : decode cL_setTide 16 = .ok (.ireturn, 1) := by decide +kernel
abbrev ML_setTide : JM := (cL_setTide, 4, RL, (some .int), yL_setTide)
theorem jn_L_setTide : jnm ML_setTide 3 := by decide +kernel
theorem jp_L_setTide : plainName ML_setTide.2.2.2.2.cls = true := by decide +kernel
theorem dL_clean_0 : decode cL_clean 0 = .ok (.aload_n 2, 1) := by decide +kernel
theorem dL_clean_1 : decode cL_clean 1 = .ok (.iconst 0, 1) := by decide +kernel
theorem dL_clean_2 : decode cL_clean 2 = .ok (.aload_n 0, 1) := by decide +kernel
theorem dL_clean_3 : decode cL_clean 3 = .ok (.iload_n 1, 1) := by decide +kernel
theorem dL_clean_4 : decode cL_clean 4 = .ok (.invokevirtual 52, 3) := by decide +kernel
theorem dL_clean_7 : decode cL_clean 7 = .ok (.i2l, 1) := by decide +kernel
theorem dL_clean_8 : decode cL_clean 8 = .ok (.lastore, 1) := by decide +kernel
theorem dL_clean_9 : decode cL_clean 9 = .ok (.goto 6, 3) := by decide +kernel
theorem dL_clean_12 : decode cL_clean 12 = .ok (.astore_n 3, 1) := by decide +kernel
theorem dL_clean_13 : decode cL_clean 13 = .ok (.iconst 1, 1) := by decide +kernel
theorem dL_clean_14 : decode cL_clean 14 = .ok (.ireturn, 1) := by decide +kernel
theorem dL_clean_15 : decode cL_clean 15 = .ok (.iconst 0, 1) := by decide +kernel
theorem dL_clean_16 : decode cL_clean 16 = .ok (.ireturn, 1) := by decide +kernel
abbrev ML_clean : JM := (cL_clean, 4, RL, (some .int), yL_clean)
theorem jn_L_clean : jnm ML_clean 3 := by decide +kernel
theorem jp_L_clean : plainName ML_clean.2.2.2.2.cls = true := by decide +kernel
theorem dL_pass_0 : decode cL_pass 0 = .ok (.aload_n 2, 1) := by decide +kernel
theorem dL_pass_1 : decode cL_pass 1 = .ok (.iconst 0, 1) := by decide +kernel
theorem dL_pass_2 : decode cL_pass 2 = .ok (.aload_n 0, 1) := by decide +kernel
theorem dL_pass_3 : decode cL_pass 3 = .ok (.iload_n 1, 1) := by decide +kernel
theorem dL_pass_4 : decode cL_pass 4 = .ok (.invokevirtual 58, 3) := by decide +kernel
theorem dL_pass_7 : decode cL_pass 7 = .ok (.i2l, 1) := by decide +kernel
theorem dL_pass_8 : decode cL_pass 8 = .ok (.lastore, 1) := by decide +kernel
theorem dL_pass_9 : decode cL_pass 9 = .ok (.goto 6, 3) := by decide +kernel
theorem dL_pass_12 : decode cL_pass 12 = .ok (.astore_n 3, 1) := by decide +kernel
theorem dL_pass_13 : decode cL_pass 13 = .ok (.iconst 1, 1) := by decide +kernel
theorem dL_pass_14 : decode cL_pass 14 = .ok (.ireturn, 1) := by decide +kernel
theorem dL_pass_15 : decode cL_pass 15 = .ok (.iconst 0, 1) := by decide +kernel
theorem dL_pass_16 : decode cL_pass 16 = .ok (.ireturn, 1) := by decide +kernel
abbrev ML_pass : JM := (cL_pass, 4, RL, (some .int), yL_pass)
theorem jn_L_pass : jnm ML_pass 3 := by decide +kernel
theorem jp_L_pass : plainName ML_pass.2.2.2.2.cls = true := by decide +kernel
theorem dL_until_0 : decode cL_until 0 = .ok (.aload_n 2, 1) := by decide +kernel
theorem dL_until_1 : decode cL_until 1 = .ok (.iconst 0, 1) := by decide +kernel
theorem dL_until_2 : decode cL_until 2 = .ok (.aload_n 0, 1) := by decide +kernel
theorem dL_until_3 : decode cL_until 3 = .ok (.iload_n 1, 1) := by decide +kernel
theorem dL_until_4 : decode cL_until 4 = .ok (.invokevirtual 61, 3) := by decide +kernel
theorem dL_until_7 : decode cL_until 7 = .ok (.i2l, 1) := by decide +kernel
theorem dL_until_8 : decode cL_until 8 = .ok (.lastore, 1) := by decide +kernel
theorem dL_until_9 : decode cL_until 9 = .ok (.goto 6, 3) := by decide +kernel
theorem dL_until_12 : decode cL_until 12 = .ok (.astore_n 3, 1) := by decide +kernel
theorem dL_until_13 : decode cL_until 13 = .ok (.iconst 1, 1) := by decide +kernel
theorem dL_until_14 : decode cL_until 14 = .ok (.ireturn, 1) := by decide +kernel
theorem dL_until_15 : decode cL_until 15 = .ok (.iconst 0, 1) := by decide +kernel
theorem dL_until_16 : decode cL_until 16 = .ok (.ireturn, 1) := by decide +kernel
abbrev ML_until : JM := (cL_until, 4, RL, (some .int), yL_until)
theorem jn_L_until : jnm ML_until 3 := by decide +kernel
theorem jp_L_until : plainName ML_until.2.2.2.2.cls = true := by decide +kernel
theorem dL_advise_0 : decode cL_advise 0 = .ok (.aload_n 2, 1) := by decide +kernel
theorem dL_advise_1 : decode cL_advise 1 = .ok (.iconst 0, 1) := by decide +kernel
theorem dL_advise_2 : decode cL_advise 2 = .ok (.aload_n 0, 1) := by decide +kernel
theorem dL_advise_3 : decode cL_advise 3 = .ok (.iload_n 1, 1) := by decide +kernel
theorem dL_advise_4 : decode cL_advise 4 = .ok (.invokevirtual 67, 3) := by decide +kernel
theorem dL_advise_7 : decode cL_advise 7 = .ok (.i2l, 1) := by decide +kernel
theorem dL_advise_8 : decode cL_advise 8 = .ok (.lastore, 1) := by decide +kernel
theorem dL_advise_9 : decode cL_advise 9 = .ok (.goto 6, 3) := by decide +kernel
theorem dL_advise_12 : decode cL_advise 12 = .ok (.astore_n 3, 1) := by decide +kernel
theorem dL_advise_13 : decode cL_advise 13 = .ok (.iconst 1, 1) := by decide +kernel
theorem dL_advise_14 : decode cL_advise 14 = .ok (.ireturn, 1) := by decide +kernel
theorem dL_advise_15 : decode cL_advise 15 = .ok (.iconst 0, 1) := by decide +kernel
theorem dL_advise_16 : decode cL_advise 16 = .ok (.ireturn, 1) := by decide +kernel
abbrev ML_advise : JM := (cL_advise, 4, RL, (some .int), yL_advise)
theorem jn_L_advise : jnm ML_advise 3 := by decide +kernel
theorem jp_L_advise : plainName ML_advise.2.2.2.2.cls = true := by decide +kernel
theorem dL_best_0 : decode cL_best 0 = .ok (.aload_n 2, 1) := by decide +kernel
theorem dL_best_1 : decode cL_best 1 = .ok (.iconst 0, 1) := by decide +kernel
theorem dL_best_2 : decode cL_best 2 = .ok (.aload_n 0, 1) := by decide +kernel
theorem dL_best_3 : decode cL_best 3 = .ok (.iload_n 1, 1) := by decide +kernel
theorem dL_best_4 : decode cL_best 4 = .ok (.invokevirtual 70, 3) := by decide +kernel
theorem dL_best_7 : decode cL_best 7 = .ok (.i2l, 1) := by decide +kernel
theorem dL_best_8 : decode cL_best 8 = .ok (.lastore, 1) := by decide +kernel
theorem dL_best_9 : decode cL_best 9 = .ok (.goto 6, 3) := by decide +kernel
theorem dL_best_12 : decode cL_best 12 = .ok (.astore_n 3, 1) := by decide +kernel
theorem dL_best_13 : decode cL_best 13 = .ok (.iconst 1, 1) := by decide +kernel
theorem dL_best_14 : decode cL_best 14 = .ok (.ireturn, 1) := by decide +kernel
theorem dL_best_15 : decode cL_best 15 = .ok (.iconst 0, 1) := by decide +kernel
theorem dL_best_16 : decode cL_best 16 = .ok (.ireturn, 1) := by decide +kernel
abbrev ML_best : JM := (cL_best, 4, RL, (some .int), yL_best)
theorem jn_L_best : jnm ML_best 3 := by decide +kernel
theorem jp_L_best : plainName ML_best.2.2.2.2.cls = true := by decide +kernel
theorem dL_isSilent_0 : decode cL_isSilent 0 = .ok (.aload_n 2, 1) := by decide +kernel
theorem dL_isSilent_1 : decode cL_isSilent 1 = .ok (.iconst 0, 1) := by decide +kernel
theorem dL_isSilent_2 : decode cL_isSilent 2 = .ok (.aload_n 0, 1) := by decide +kernel
theorem dL_isSilent_3 : decode cL_isSilent 3 = .ok (.iload_n 1, 1) := by decide +kernel
theorem dL_isSilent_4 : decode cL_isSilent 4 = .ok (.invokevirtual 45, 3) := by decide +kernel
theorem dL_isSilent_7 : decode cL_isSilent 7 = .ok (.ifCond .eq 7, 3) := by decide +kernel
theorem dL_isSilent_10 : decode cL_isSilent 10 = .ok (.lconst 1, 1) := by decide +kernel
theorem dL_isSilent_11 : decode cL_isSilent 11 = .ok (.goto 4, 3) := by decide +kernel
theorem dL_isSilent_14 : decode cL_isSilent 14 = .ok (.lconst 0, 1) := by decide +kernel
theorem dL_isSilent_15 : decode cL_isSilent 15 = .ok (.lastore, 1) := by decide +kernel
theorem dL_isSilent_16 : decode cL_isSilent 16 = .ok (.goto 6, 3) := by decide +kernel
theorem dL_isSilent_19 : decode cL_isSilent 19 = .ok (.astore_n 3, 1) := by decide +kernel
theorem dL_isSilent_20 : decode cL_isSilent 20 = .ok (.iconst 1, 1) := by decide +kernel
theorem dL_isSilent_21 : decode cL_isSilent 21 = .ok (.ireturn, 1) := by decide +kernel
theorem dL_isSilent_22 : decode cL_isSilent 22 = .ok (.iconst 0, 1) := by decide +kernel
theorem dL_isSilent_23 : decode cL_isSilent 23 = .ok (.ireturn, 1) := by decide +kernel
abbrev ML_isSilent : JM := (cL_isSilent, 4, RL, (some .int), yL_isSilent)
theorem jn_L_isSilent : jnm ML_isSilent 3 := by decide +kernel
theorem jp_L_isSilent : plainName ML_isSilent.2.2.2.2.cls = true := by decide +kernel
theorem jw_956 : Cond.methodLink RL 7 yX9_feed ∈ jGL := jmem 956 (by decide +kernel) rfl
theorem jw_957 : Cond.instanceMethod yX9_feed ∈ jGL := jmem 957 (by decide +kernel) rfl
theorem jw_958 : Cond.selects RX9 yX9_feed yX9_feed ∈ jGL := jmem 958 (by decide +kernel) rfl
theorem jw_959 : Cond.code yX9_feed cX9_feed 6 (some .int) ∈ jGL := jmem 959 (by decide +kernel) rfl
theorem jw_955 : Cond.classLink RL 13 "java/lang/IllegalStateException" ∈ jGL := jmem 955 (by decide +kernel) rfl
theorem jw_1039 : Cond.methodLink RL 15 yX9_trim ∈ jGL := jmem 1039 (by decide +kernel) rfl
theorem jw_1040 : Cond.instanceMethod yX9_trim ∈ jGL := jmem 1040 (by decide +kernel) rfl
theorem jw_1041 : Cond.selects RX9 yX9_trim yX9_trim ∈ jGL := jmem 1041 (by decide +kernel) rfl
theorem jw_1042 : Cond.code yX9_trim cX9_trim 2 (some .int) ∈ jGL := jmem 1042 (by decide +kernel) rfl
theorem jw_1063 : Cond.methodLink RL 21 yX9_count ∈ jGL := jmem 1063 (by decide +kernel) rfl
theorem jw_1064 : Cond.instanceMethod yX9_count ∈ jGL := jmem 1064 (by decide +kernel) rfl
theorem jw_1065 : Cond.selects RX9 yX9_count yX9_count ∈ jGL := jmem 1065 (by decide +kernel) rfl
theorem jw_1066 : Cond.code yX9_count cX9_count 2 (some .int) ∈ jGL := jmem 1066 (by decide +kernel) rfl
theorem jw_1062 : Cond.classLink RL 24 "java/lang/IndexOutOfBoundsException" ∈ jGL := jmem 1062 (by decide +kernel) rfl
theorem jw_1086 : Cond.methodLink RL 26 yX9_cave ∈ jGL := jmem 1086 (by decide +kernel) rfl
theorem jw_1087 : Cond.instanceMethod yX9_cave ∈ jGL := jmem 1087 (by decide +kernel) rfl
theorem jw_1088 : Cond.selects RX9 yX9_cave yX9_cave ∈ jGL := jmem 1088 (by decide +kernel) rfl
theorem jw_1089 : Cond.code yX9_cave cX9_cave 3 (some .int) ∈ jGL := jmem 1089 (by decide +kernel) rfl
theorem jw_1094 : Cond.methodLink RL 30 yX9_pipe ∈ jGL := jmem 1094 (by decide +kernel) rfl
theorem jw_1095 : Cond.instanceMethod yX9_pipe ∈ jGL := jmem 1095 (by decide +kernel) rfl
theorem jw_1096 : Cond.selects RX9 yX9_pipe yX9_pipe ∈ jGL := jmem 1096 (by decide +kernel) rfl
theorem jw_1097 : Cond.code yX9_pipe cX9_pipe 3 (some .int) ∈ jGL := jmem 1097 (by decide +kernel) rfl
theorem jw_1106 : Cond.methodLink RL 33 yX9_chord ∈ jGL := jmem 1106 (by decide +kernel) rfl
theorem jw_1107 : Cond.instanceMethod yX9_chord ∈ jGL := jmem 1107 (by decide +kernel) rfl
theorem jw_1108 : Cond.selects RX9 yX9_chord yX9_chord ∈ jGL := jmem 1108 (by decide +kernel) rfl
theorem jw_1109 : Cond.code yX9_chord cX9_chord 3 (some .int) ∈ jGL := jmem 1109 (by decide +kernel) rfl
theorem jw_1114 : Cond.methodLink RL 36 yX9_note ∈ jGL := jmem 1114 (by decide +kernel) rfl
theorem jw_1115 : Cond.instanceMethod yX9_note ∈ jGL := jmem 1115 (by decide +kernel) rfl
theorem jw_1116 : Cond.selects RX9 yX9_note yX9_note ∈ jGL := jmem 1116 (by decide +kernel) rfl
theorem jw_1117 : Cond.code yX9_note cX9_note 3 (some .int) ∈ jGL := jmem 1117 (by decide +kernel) rfl
theorem jw_1122 : Cond.methodLink RL 39 yX9_apart ∈ jGL := jmem 1122 (by decide +kernel) rfl
theorem jw_1123 : Cond.instanceMethod yX9_apart ∈ jGL := jmem 1123 (by decide +kernel) rfl
theorem jw_1124 : Cond.selects RX9 yX9_apart yX9_apart ∈ jGL := jmem 1124 (by decide +kernel) rfl
theorem jw_1125 : Cond.code yX9_apart cX9_apart 3 (some .int) ∈ jGL := jmem 1125 (by decide +kernel) rfl
theorem jw_1149 : Cond.methodLink RL 49 yX9_setTide ∈ jGL := jmem 1149 (by decide +kernel) rfl
theorem jw_1150 : Cond.instanceMethod yX9_setTide ∈ jGL := jmem 1150 (by decide +kernel) rfl
theorem jw_1151 : Cond.selects RX9 yX9_setTide yX9_setTide ∈ jGL := jmem 1151 (by decide +kernel) rfl
theorem jw_1152 : Cond.code yX9_setTide cX9_setTide 3 (some .int) ∈ jGL := jmem 1152 (by decide +kernel) rfl
theorem jw_1157 : Cond.methodLink RL 52 yX9_clean ∈ jGL := jmem 1157 (by decide +kernel) rfl
theorem jw_1158 : Cond.instanceMethod yX9_clean ∈ jGL := jmem 1158 (by decide +kernel) rfl
theorem jw_1159 : Cond.selects RX9 yX9_clean yX9_clean ∈ jGL := jmem 1159 (by decide +kernel) rfl
theorem jw_1160 : Cond.code yX9_clean cX9_clean 3 (some .int) ∈ jGL := jmem 1160 (by decide +kernel) rfl
theorem jw_1173 : Cond.methodLink RL 58 yX9_pass ∈ jGL := jmem 1173 (by decide +kernel) rfl
theorem jw_1174 : Cond.instanceMethod yX9_pass ∈ jGL := jmem 1174 (by decide +kernel) rfl
theorem jw_1175 : Cond.selects RX9 yX9_pass yX9_pass ∈ jGL := jmem 1175 (by decide +kernel) rfl
theorem jw_1176 : Cond.code yX9_pass cX9_pass 3 (some .int) ∈ jGL := jmem 1176 (by decide +kernel) rfl
theorem jw_1215 : Cond.methodLink RL 61 yX9_until ∈ jGL := jmem 1215 (by decide +kernel) rfl
theorem jw_1216 : Cond.instanceMethod yX9_until ∈ jGL := jmem 1216 (by decide +kernel) rfl
theorem jw_1217 : Cond.selects RX9 yX9_until yX9_until ∈ jGL := jmem 1217 (by decide +kernel) rfl
theorem jw_1218 : Cond.code yX9_until cX9_until 3 (some .int) ∈ jGL := jmem 1218 (by decide +kernel) rfl
theorem jw_1238 : Cond.methodLink RL 67 yX9_advise ∈ jGL := jmem 1238 (by decide +kernel) rfl
theorem jw_1239 : Cond.instanceMethod yX9_advise ∈ jGL := jmem 1239 (by decide +kernel) rfl
theorem jw_1240 : Cond.selects RX9 yX9_advise yX9_advise ∈ jGL := jmem 1240 (by decide +kernel) rfl
theorem jw_1241 : Cond.code yX9_advise cX9_advise 6 (some .int) ∈ jGL := jmem 1241 (by decide +kernel) rfl
theorem jw_1249 : Cond.methodLink RL 70 yX9_best ∈ jGL := jmem 1249 (by decide +kernel) rfl
theorem jw_1250 : Cond.instanceMethod yX9_best ∈ jGL := jmem 1250 (by decide +kernel) rfl
theorem jw_1251 : Cond.selects RX9 yX9_best yX9_best ∈ jGL := jmem 1251 (by decide +kernel) rfl
theorem jw_1252 : Cond.code yX9_best cX9_best 5 (some .int) ∈ jGL := jmem 1252 (by decide +kernel) rfl
theorem jw_1141 : Cond.methodLink RL 45 yX9_isSilent ∈ jGL := jmem 1141 (by decide +kernel) rfl
theorem jw_1142 : Cond.instanceMethod yX9_isSilent ∈ jGL := jmem 1142 (by decide +kernel) rfl
theorem jw_1143 : Cond.selects RX9 yX9_isSilent yX9_isSilent ∈ jGL := jmem 1143 (by decide +kernel) rfl
theorem jw_1144 : Cond.code yX9_isSilent cX9_isSilent 2 (some .boolean) ∈ jGL := jmem 1144 (by decide +kernel) rfl
/-! the law's wrappers with one handler -/
theorem w_feed {w : JW} {P : JV → JW → Prop} {PX : String → JW → Prop} {d : Nat} (x1 x2 x3 x4 x5 : Int32) (hs : jSX MX9_feed d 1 6 [jR 0 false, jI x1, jI x2, jI x3, jI x4, jI x5] w P PX) (hP : ∀ v w', P v w' → ∃ r, v = jI r) (hX : ∀ E w', PX E w' → E = jISE) : jSW ML_feed [(0, 16, 19, 13)] (d + 1) 1 6 [jR 0 false, jI x1, jI x2, jI x3, jI x4, jI x5, jR 63 false] w (jWr P PX jISE) := by
  refine jSW_of jp_L_feed rfl (Nat.le_of_ble_eq_true rfl) (fun C hw => ?_)
  have h6 := hw.1
  have hm : jok C ML_feed (d + 1) 0 0 := h6.less (Nat.le_refl _) (Nat.zero_le _) (Nat.zero_le _)
  refine jr_aload hm (i := 6) rfl dL_feed_0 ?_
  refine jr_iconst hm (v := 0) (by decide) dL_feed_2 ?_
  refine jr_aload_n hm (i := 0) rfl rfl dL_feed_3 ?_
  refine jr_iload_n hm (i := 1) rfl rfl dL_feed_4 ?_
  refine jr_iload_n hm (i := 2) rfl rfl dL_feed_5 ?_
  refine jr_iload_n hm (i := 3) rfl rfl dL_feed_6 ?_
  refine jr_iload hm (i := 4) rfl dL_feed_7 ?_
  refine jr_iload hm (i := 5) rfl dL_feed_9 ?_
  refine jr_callVX (cl := 0) (sl := 0) (mc := 1) (ms := 6) (as := [jI x1, jI x2, jI x3, jI x4, jI x5]) hw hs (Nat.le_refl _) jw_956 jw_957 jw_958 jw_115 jw_959 jn_X9_feed rfl jo_0 (fun _ _ _ _ _ => ⟨_, rfl⟩) rfl rfl (Nat.le_of_ble_eq_true rfl) rfl dL_feed_11 (fun v w2 hp => ?_) (fun E w2 hp => ?_)
  · obtain ⟨r, rfl⟩ := hP v w2 hp
    have hm : jok C ML_feed (d + 1) (0 + 1) (0 + 6) := h6
    refine jr_i2l hm dL_feed_14 ?_
    refine jr_lastore hm (Or.inr rfl) ja_63 (show vp_in (nI 0) 1 from vp_in_nI (by omega) (by omega)) dL_feed_15 ?_
    refine jr_goto hm (tgt := 23) dL_feed_16 (by decide) ?_
    refine jr_iconst hm (v := 0) (by decide) dL_feed_23 ?_
    exact jr_ireturn hm rfl dL_feed_24 (Or.inl ⟨r, w2, hp, rfl, rfl⟩)
  · obtain rfl := hX E w2 hp
    have hm : jok C ML_feed (d + 1) (0 + 1) (0 + 6) := h6
    refine jr_catch (cl := 0 + 1) (sl := 0 + 6) hw [] _ [] rfl (fun z hz => absurd hz List.not_mem_nil) rfl (by decide) jw_955 jcast_ISE (jh_astore hm (i := 7) (Nat.le_of_ble_eq_true rfl) rfl dL_feed_19 ?_)
    refine jr_iconst hm (v := 1) (by decide) dL_feed_21 ?_
    exact jr_ireturn hm rfl dL_feed_22 (Or.inr ⟨hp, rfl⟩)
theorem w_trim {w : JW} {P : JV → JW → Prop} {PX : String → JW → Prop} {d : Nat} (x1 : Int32) (hs : jSX MX9_trim d 1 6 [jR 0 false, jI x1] w P PX) (hP : ∀ v w', P v w' → ∃ r, v = jI r) (hX : ∀ E w', PX E w' → E = jIAE) : jSW ML_trim [(0, 9, 12, 19)] (d + 1) 1 6 [jR 0 false, jI x1, jR 63 false] w (jWr P PX jIAE) := by
  refine jSW_of jp_L_trim rfl (Nat.le_of_ble_eq_true rfl) (fun C hw => ?_)
  have h6 := hw.1
  have hm : jok C ML_trim (d + 1) 0 0 := h6.less (Nat.le_refl _) (Nat.zero_le _) (Nat.zero_le _)
  refine jr_aload_n hm (i := 2) rfl rfl dL_trim_0 ?_
  refine jr_iconst hm (v := 0) (by decide) dL_trim_1 ?_
  refine jr_aload_n hm (i := 0) rfl rfl dL_trim_2 ?_
  refine jr_iload_n hm (i := 1) rfl rfl dL_trim_3 ?_
  refine jr_callVX (cl := 0) (sl := 0) (mc := 1) (ms := 6) (as := [jI x1]) hw hs (Nat.le_refl _) jw_1039 jw_1040 jw_1041 jw_115 jw_1042 jn_X9_trim rfl jo_0 (fun _ _ _ _ _ => ⟨_, rfl⟩) rfl rfl (Nat.le_of_ble_eq_true rfl) rfl dL_trim_4 (fun v w2 hp => ?_) (fun E w2 hp => ?_)
  · obtain ⟨r, rfl⟩ := hP v w2 hp
    have hm : jok C ML_trim (d + 1) (0 + 1) (0 + 6) := h6
    refine jr_i2l hm dL_trim_7 ?_
    refine jr_lastore hm (Or.inr rfl) ja_63 (show vp_in (nI 0) 1 from vp_in_nI (by omega) (by omega)) dL_trim_8 ?_
    refine jr_goto hm (tgt := 15) dL_trim_9 (by decide) ?_
    refine jr_iconst hm (v := 0) (by decide) dL_trim_15 ?_
    exact jr_ireturn hm rfl dL_trim_16 (Or.inl ⟨r, w2, hp, rfl, rfl⟩)
  · obtain rfl := hX E w2 hp
    have hm : jok C ML_trim (d + 1) (0 + 1) (0 + 6) := h6
    refine jr_catch (cl := 0 + 1) (sl := 0 + 6) hw [] _ [] rfl (fun z hz => absurd hz List.not_mem_nil) rfl (by decide) jw_1038 jcast_IAE (jh_astore_n hm (i := 3) rfl (Nat.le_of_ble_eq_true rfl) rfl dL_trim_12 ?_)
    refine jr_iconst hm (v := 1) (by decide) dL_trim_13 ?_
    exact jr_ireturn hm rfl dL_trim_14 (Or.inr ⟨hp, rfl⟩)
theorem w_count {w : JW} {P : JV → JW → Prop} {PX : String → JW → Prop} {d : Nat} (x1 : Int32) (hs : jSX MX9_count d 1 6 [jR 0 false, jI x1] w P PX) (hP : ∀ v w', P v w' → ∃ r, v = jI r) (hX : ∀ E w', PX E w' → E = jIOB) : jSW ML_count [(0, 9, 12, 24)] (d + 1) 1 6 [jR 0 false, jI x1, jR 63 false] w (jWr P PX jIOB) := by
  refine jSW_of jp_L_count rfl (Nat.le_of_ble_eq_true rfl) (fun C hw => ?_)
  have h6 := hw.1
  have hm : jok C ML_count (d + 1) 0 0 := h6.less (Nat.le_refl _) (Nat.zero_le _) (Nat.zero_le _)
  refine jr_aload_n hm (i := 2) rfl rfl dL_count_0 ?_
  refine jr_iconst hm (v := 0) (by decide) dL_count_1 ?_
  refine jr_aload_n hm (i := 0) rfl rfl dL_count_2 ?_
  refine jr_iload_n hm (i := 1) rfl rfl dL_count_3 ?_
  refine jr_callVX (cl := 0) (sl := 0) (mc := 1) (ms := 6) (as := [jI x1]) hw hs (Nat.le_refl _) jw_1063 jw_1064 jw_1065 jw_115 jw_1066 jn_X9_count rfl jo_0 (fun _ _ _ _ _ => ⟨_, rfl⟩) rfl rfl (Nat.le_of_ble_eq_true rfl) rfl dL_count_4 (fun v w2 hp => ?_) (fun E w2 hp => ?_)
  · obtain ⟨r, rfl⟩ := hP v w2 hp
    have hm : jok C ML_count (d + 1) (0 + 1) (0 + 6) := h6
    refine jr_i2l hm dL_count_7 ?_
    refine jr_lastore hm (Or.inr rfl) ja_63 (show vp_in (nI 0) 1 from vp_in_nI (by omega) (by omega)) dL_count_8 ?_
    refine jr_goto hm (tgt := 15) dL_count_9 (by decide) ?_
    refine jr_iconst hm (v := 0) (by decide) dL_count_15 ?_
    exact jr_ireturn hm rfl dL_count_16 (Or.inl ⟨r, w2, hp, rfl, rfl⟩)
  · obtain rfl := hX E w2 hp
    have hm : jok C ML_count (d + 1) (0 + 1) (0 + 6) := h6
    refine jr_catch (cl := 0 + 1) (sl := 0 + 6) hw [] _ [] rfl (fun z hz => absurd hz List.not_mem_nil) rfl (by decide) jw_1062 jcast_IOB (jh_astore_n hm (i := 3) rfl (Nat.le_of_ble_eq_true rfl) rfl dL_count_12 ?_)
    refine jr_iconst hm (v := 1) (by decide) dL_count_13 ?_
    exact jr_ireturn hm rfl dL_count_14 (Or.inr ⟨hp, rfl⟩)
theorem w_cave {w : JW} {P : JV → JW → Prop} {PX : String → JW → Prop} {d : Nat} (x1 x2 : Int32) (hs : jSX MX9_cave d 1 6 [jR 0 false, jI x1, jI x2] w P PX) (hP : ∀ v w', P v w' → ∃ r, v = jI r) (hX : ∀ E w', PX E w' → E = jIOB) : jSW ML_cave [(0, 10, 13, 24)] (d + 1) 1 6 [jR 0 false, jI x1, jI x2, jR 63 false] w (jWr P PX jIOB) := by
  refine jSW_of jp_L_cave rfl (Nat.le_of_ble_eq_true rfl) (fun C hw => ?_)
  have h6 := hw.1
  have hm : jok C ML_cave (d + 1) 0 0 := h6.less (Nat.le_refl _) (Nat.zero_le _) (Nat.zero_le _)
  refine jr_aload_n hm (i := 3) rfl rfl dL_cave_0 ?_
  refine jr_iconst hm (v := 0) (by decide) dL_cave_1 ?_
  refine jr_aload_n hm (i := 0) rfl rfl dL_cave_2 ?_
  refine jr_iload_n hm (i := 1) rfl rfl dL_cave_3 ?_
  refine jr_iload_n hm (i := 2) rfl rfl dL_cave_4 ?_
  refine jr_callVX (cl := 0) (sl := 0) (mc := 1) (ms := 6) (as := [jI x1, jI x2]) hw hs (Nat.le_refl _) jw_1086 jw_1087 jw_1088 jw_115 jw_1089 jn_X9_cave rfl jo_0 (fun _ _ _ _ _ => ⟨_, rfl⟩) rfl rfl (Nat.le_of_ble_eq_true rfl) rfl dL_cave_5 (fun v w2 hp => ?_) (fun E w2 hp => ?_)
  · obtain ⟨r, rfl⟩ := hP v w2 hp
    have hm : jok C ML_cave (d + 1) (0 + 1) (0 + 6) := h6
    refine jr_i2l hm dL_cave_8 ?_
    refine jr_lastore hm (Or.inr rfl) ja_63 (show vp_in (nI 0) 1 from vp_in_nI (by omega) (by omega)) dL_cave_9 ?_
    refine jr_goto hm (tgt := 17) dL_cave_10 (by decide) ?_
    refine jr_iconst hm (v := 0) (by decide) dL_cave_17 ?_
    exact jr_ireturn hm rfl dL_cave_18 (Or.inl ⟨r, w2, hp, rfl, rfl⟩)
  · obtain rfl := hX E w2 hp
    have hm : jok C ML_cave (d + 1) (0 + 1) (0 + 6) := h6
    refine jr_catch (cl := 0 + 1) (sl := 0 + 6) hw [] _ [] rfl (fun z hz => absurd hz List.not_mem_nil) rfl (by decide) jw_1062 jcast_IOB (jh_astore hm (i := 4) (Nat.le_of_ble_eq_true rfl) rfl dL_cave_13 ?_)
    refine jr_iconst hm (v := 1) (by decide) dL_cave_15 ?_
    exact jr_ireturn hm rfl dL_cave_16 (Or.inr ⟨hp, rfl⟩)
theorem w_pipe {w : JW} {P : JV → JW → Prop} {PX : String → JW → Prop} {d : Nat} (x1 x2 : Int32) (hs : jSX MX9_pipe d 1 6 [jR 0 false, jI x1, jI x2] w P PX) (hP : ∀ v w', P v w' → ∃ r, v = jI r) (hX : ∀ E w', PX E w' → E = jIOB) : jSW ML_pipe [(0, 10, 13, 24)] (d + 1) 1 6 [jR 0 false, jI x1, jI x2, jR 63 false] w (jWr P PX jIOB) := by
  refine jSW_of jp_L_pipe rfl (Nat.le_of_ble_eq_true rfl) (fun C hw => ?_)
  have h6 := hw.1
  have hm : jok C ML_pipe (d + 1) 0 0 := h6.less (Nat.le_refl _) (Nat.zero_le _) (Nat.zero_le _)
  refine jr_aload_n hm (i := 3) rfl rfl dL_pipe_0 ?_
  refine jr_iconst hm (v := 0) (by decide) dL_pipe_1 ?_
  refine jr_aload_n hm (i := 0) rfl rfl dL_pipe_2 ?_
  refine jr_iload_n hm (i := 1) rfl rfl dL_pipe_3 ?_
  refine jr_iload_n hm (i := 2) rfl rfl dL_pipe_4 ?_
  refine jr_callVX (cl := 0) (sl := 0) (mc := 1) (ms := 6) (as := [jI x1, jI x2]) hw hs (Nat.le_refl _) jw_1094 jw_1095 jw_1096 jw_115 jw_1097 jn_X9_pipe rfl jo_0 (fun _ _ _ _ _ => ⟨_, rfl⟩) rfl rfl (Nat.le_of_ble_eq_true rfl) rfl dL_pipe_5 (fun v w2 hp => ?_) (fun E w2 hp => ?_)
  · obtain ⟨r, rfl⟩ := hP v w2 hp
    have hm : jok C ML_pipe (d + 1) (0 + 1) (0 + 6) := h6
    refine jr_i2l hm dL_pipe_8 ?_
    refine jr_lastore hm (Or.inr rfl) ja_63 (show vp_in (nI 0) 1 from vp_in_nI (by omega) (by omega)) dL_pipe_9 ?_
    refine jr_goto hm (tgt := 17) dL_pipe_10 (by decide) ?_
    refine jr_iconst hm (v := 0) (by decide) dL_pipe_17 ?_
    exact jr_ireturn hm rfl dL_pipe_18 (Or.inl ⟨r, w2, hp, rfl, rfl⟩)
  · obtain rfl := hX E w2 hp
    have hm : jok C ML_pipe (d + 1) (0 + 1) (0 + 6) := h6
    refine jr_catch (cl := 0 + 1) (sl := 0 + 6) hw [] _ [] rfl (fun z hz => absurd hz List.not_mem_nil) rfl (by decide) jw_1062 jcast_IOB (jh_astore hm (i := 4) (Nat.le_of_ble_eq_true rfl) rfl dL_pipe_13 ?_)
    refine jr_iconst hm (v := 1) (by decide) dL_pipe_15 ?_
    exact jr_ireturn hm rfl dL_pipe_16 (Or.inr ⟨hp, rfl⟩)
theorem w_chord {w : JW} {P : JV → JW → Prop} {PX : String → JW → Prop} {d : Nat} (x1 x2 : Int32) (hs : jSX MX9_chord d 1 6 [jR 0 false, jI x1, jI x2] w P PX) (hP : ∀ v w', P v w' → ∃ r, v = jI r) (hX : ∀ E w', PX E w' → E = jIOB) : jSW ML_chord [(0, 10, 13, 24)] (d + 1) 1 6 [jR 0 false, jI x1, jI x2, jR 63 false] w (jWr P PX jIOB) := by
  refine jSW_of jp_L_chord rfl (Nat.le_of_ble_eq_true rfl) (fun C hw => ?_)
  have h6 := hw.1
  have hm : jok C ML_chord (d + 1) 0 0 := h6.less (Nat.le_refl _) (Nat.zero_le _) (Nat.zero_le _)
  refine jr_aload_n hm (i := 3) rfl rfl dL_chord_0 ?_
  refine jr_iconst hm (v := 0) (by decide) dL_chord_1 ?_
  refine jr_aload_n hm (i := 0) rfl rfl dL_chord_2 ?_
  refine jr_iload_n hm (i := 1) rfl rfl dL_chord_3 ?_
  refine jr_iload_n hm (i := 2) rfl rfl dL_chord_4 ?_
  refine jr_callVX (cl := 0) (sl := 0) (mc := 1) (ms := 6) (as := [jI x1, jI x2]) hw hs (Nat.le_refl _) jw_1106 jw_1107 jw_1108 jw_115 jw_1109 jn_X9_chord rfl jo_0 (fun _ _ _ _ _ => ⟨_, rfl⟩) rfl rfl (Nat.le_of_ble_eq_true rfl) rfl dL_chord_5 (fun v w2 hp => ?_) (fun E w2 hp => ?_)
  · obtain ⟨r, rfl⟩ := hP v w2 hp
    have hm : jok C ML_chord (d + 1) (0 + 1) (0 + 6) := h6
    refine jr_i2l hm dL_chord_8 ?_
    refine jr_lastore hm (Or.inr rfl) ja_63 (show vp_in (nI 0) 1 from vp_in_nI (by omega) (by omega)) dL_chord_9 ?_
    refine jr_goto hm (tgt := 17) dL_chord_10 (by decide) ?_
    refine jr_iconst hm (v := 0) (by decide) dL_chord_17 ?_
    exact jr_ireturn hm rfl dL_chord_18 (Or.inl ⟨r, w2, hp, rfl, rfl⟩)
  · obtain rfl := hX E w2 hp
    have hm : jok C ML_chord (d + 1) (0 + 1) (0 + 6) := h6
    refine jr_catch (cl := 0 + 1) (sl := 0 + 6) hw [] _ [] rfl (fun z hz => absurd hz List.not_mem_nil) rfl (by decide) jw_1062 jcast_IOB (jh_astore hm (i := 4) (Nat.le_of_ble_eq_true rfl) rfl dL_chord_13 ?_)
    refine jr_iconst hm (v := 1) (by decide) dL_chord_15 ?_
    exact jr_ireturn hm rfl dL_chord_16 (Or.inr ⟨hp, rfl⟩)
theorem w_note {w : JW} {P : JV → JW → Prop} {PX : String → JW → Prop} {d : Nat} (x1 x2 : Int32) (hs : jSX MX9_note d 1 6 [jR 0 false, jI x1, jI x2] w P PX) (hP : ∀ v w', P v w' → ∃ r, v = jI r) (hX : ∀ E w', PX E w' → E = jIOB) : jSW ML_note [(0, 10, 13, 24)] (d + 1) 1 6 [jR 0 false, jI x1, jI x2, jR 63 false] w (jWr P PX jIOB) := by
  refine jSW_of jp_L_note rfl (Nat.le_of_ble_eq_true rfl) (fun C hw => ?_)
  have h6 := hw.1
  have hm : jok C ML_note (d + 1) 0 0 := h6.less (Nat.le_refl _) (Nat.zero_le _) (Nat.zero_le _)
  refine jr_aload_n hm (i := 3) rfl rfl dL_note_0 ?_
  refine jr_iconst hm (v := 0) (by decide) dL_note_1 ?_
  refine jr_aload_n hm (i := 0) rfl rfl dL_note_2 ?_
  refine jr_iload_n hm (i := 1) rfl rfl dL_note_3 ?_
  refine jr_iload_n hm (i := 2) rfl rfl dL_note_4 ?_
  refine jr_callVX (cl := 0) (sl := 0) (mc := 1) (ms := 6) (as := [jI x1, jI x2]) hw hs (Nat.le_refl _) jw_1114 jw_1115 jw_1116 jw_115 jw_1117 jn_X9_note rfl jo_0 (fun _ _ _ _ _ => ⟨_, rfl⟩) rfl rfl (Nat.le_of_ble_eq_true rfl) rfl dL_note_5 (fun v w2 hp => ?_) (fun E w2 hp => ?_)
  · obtain ⟨r, rfl⟩ := hP v w2 hp
    have hm : jok C ML_note (d + 1) (0 + 1) (0 + 6) := h6
    refine jr_i2l hm dL_note_8 ?_
    refine jr_lastore hm (Or.inr rfl) ja_63 (show vp_in (nI 0) 1 from vp_in_nI (by omega) (by omega)) dL_note_9 ?_
    refine jr_goto hm (tgt := 17) dL_note_10 (by decide) ?_
    refine jr_iconst hm (v := 0) (by decide) dL_note_17 ?_
    exact jr_ireturn hm rfl dL_note_18 (Or.inl ⟨r, w2, hp, rfl, rfl⟩)
  · obtain rfl := hX E w2 hp
    have hm : jok C ML_note (d + 1) (0 + 1) (0 + 6) := h6
    refine jr_catch (cl := 0 + 1) (sl := 0 + 6) hw [] _ [] rfl (fun z hz => absurd hz List.not_mem_nil) rfl (by decide) jw_1062 jcast_IOB (jh_astore hm (i := 4) (Nat.le_of_ble_eq_true rfl) rfl dL_note_13 ?_)
    refine jr_iconst hm (v := 1) (by decide) dL_note_15 ?_
    exact jr_ireturn hm rfl dL_note_16 (Or.inr ⟨hp, rfl⟩)
theorem w_apart {w : JW} {P : JV → JW → Prop} {PX : String → JW → Prop} {d : Nat} (x1 x2 : Int32) (hs : jSX MX9_apart d 1 6 [jR 0 false, jI x1, jI x2] w P PX) (hP : ∀ v w', P v w' → ∃ r, v = jI r) (hX : ∀ E w', PX E w' → E = jIOB) : jSW ML_apart [(0, 10, 13, 24)] (d + 1) 1 6 [jR 0 false, jI x1, jI x2, jR 63 false] w (jWr P PX jIOB) := by
  refine jSW_of jp_L_apart rfl (Nat.le_of_ble_eq_true rfl) (fun C hw => ?_)
  have h6 := hw.1
  have hm : jok C ML_apart (d + 1) 0 0 := h6.less (Nat.le_refl _) (Nat.zero_le _) (Nat.zero_le _)
  refine jr_aload_n hm (i := 3) rfl rfl dL_apart_0 ?_
  refine jr_iconst hm (v := 0) (by decide) dL_apart_1 ?_
  refine jr_aload_n hm (i := 0) rfl rfl dL_apart_2 ?_
  refine jr_iload_n hm (i := 1) rfl rfl dL_apart_3 ?_
  refine jr_iload_n hm (i := 2) rfl rfl dL_apart_4 ?_
  refine jr_callVX (cl := 0) (sl := 0) (mc := 1) (ms := 6) (as := [jI x1, jI x2]) hw hs (Nat.le_refl _) jw_1122 jw_1123 jw_1124 jw_115 jw_1125 jn_X9_apart rfl jo_0 (fun _ _ _ _ _ => ⟨_, rfl⟩) rfl rfl (Nat.le_of_ble_eq_true rfl) rfl dL_apart_5 (fun v w2 hp => ?_) (fun E w2 hp => ?_)
  · obtain ⟨r, rfl⟩ := hP v w2 hp
    have hm : jok C ML_apart (d + 1) (0 + 1) (0 + 6) := h6
    refine jr_i2l hm dL_apart_8 ?_
    refine jr_lastore hm (Or.inr rfl) ja_63 (show vp_in (nI 0) 1 from vp_in_nI (by omega) (by omega)) dL_apart_9 ?_
    refine jr_goto hm (tgt := 17) dL_apart_10 (by decide) ?_
    refine jr_iconst hm (v := 0) (by decide) dL_apart_17 ?_
    exact jr_ireturn hm rfl dL_apart_18 (Or.inl ⟨r, w2, hp, rfl, rfl⟩)
  · obtain rfl := hX E w2 hp
    have hm : jok C ML_apart (d + 1) (0 + 1) (0 + 6) := h6
    refine jr_catch (cl := 0 + 1) (sl := 0 + 6) hw [] _ [] rfl (fun z hz => absurd hz List.not_mem_nil) rfl (by decide) jw_1062 jcast_IOB (jh_astore hm (i := 4) (Nat.le_of_ble_eq_true rfl) rfl dL_apart_13 ?_)
    refine jr_iconst hm (v := 1) (by decide) dL_apart_15 ?_
    exact jr_ireturn hm rfl dL_apart_16 (Or.inr ⟨hp, rfl⟩)
theorem w_setTide {w : JW} {P : JV → JW → Prop} {PX : String → JW → Prop} {d : Nat} (x1 : Int32) (hs : jSX MX9_setTide d 1 6 [jR 0 false, jI x1] w P PX) (hP : ∀ v w', P v w' → ∃ r, v = jI r) (hX : ∀ E w', PX E w' → E = jIAE) : jSW ML_setTide [(0, 9, 12, 19)] (d + 1) 1 6 [jR 0 false, jI x1, jR 63 false] w (jWr P PX jIAE) := by
  refine jSW_of jp_L_setTide rfl (Nat.le_of_ble_eq_true rfl) (fun C hw => ?_)
  have h6 := hw.1
  have hm : jok C ML_setTide (d + 1) 0 0 := h6.less (Nat.le_refl _) (Nat.zero_le _) (Nat.zero_le _)
  refine jr_aload_n hm (i := 2) rfl rfl dL_setTide_0 ?_
  refine jr_iconst hm (v := 0) (by decide) dL_setTide_1 ?_
  refine jr_aload_n hm (i := 0) rfl rfl dL_setTide_2 ?_
  refine jr_iload_n hm (i := 1) rfl rfl dL_setTide_3 ?_
  refine jr_callVX (cl := 0) (sl := 0) (mc := 1) (ms := 6) (as := [jI x1]) hw hs (Nat.le_refl _) jw_1149 jw_1150 jw_1151 jw_115 jw_1152 jn_X9_setTide rfl jo_0 (fun _ _ _ _ _ => ⟨_, rfl⟩) rfl rfl (Nat.le_of_ble_eq_true rfl) rfl dL_setTide_4 (fun v w2 hp => ?_) (fun E w2 hp => ?_)
  · obtain ⟨r, rfl⟩ := hP v w2 hp
    have hm : jok C ML_setTide (d + 1) (0 + 1) (0 + 6) := h6
    refine jr_i2l hm dL_setTide_7 ?_
    refine jr_lastore hm (Or.inr rfl) ja_63 (show vp_in (nI 0) 1 from vp_in_nI (by omega) (by omega)) dL_setTide_8 ?_
    refine jr_goto hm (tgt := 15) dL_setTide_9 (by decide) ?_
    refine jr_iconst hm (v := 0) (by decide) dL_setTide_15 ?_
    exact jr_ireturn hm rfl dL_setTide_16 (Or.inl ⟨r, w2, hp, rfl, rfl⟩)
  · obtain rfl := hX E w2 hp
    have hm : jok C ML_setTide (d + 1) (0 + 1) (0 + 6) := h6
    refine jr_catch (cl := 0 + 1) (sl := 0 + 6) hw [] _ [] rfl (fun z hz => absurd hz List.not_mem_nil) rfl (by decide) jw_1038 jcast_IAE (jh_astore_n hm (i := 3) rfl (Nat.le_of_ble_eq_true rfl) rfl dL_setTide_12 ?_)
    refine jr_iconst hm (v := 1) (by decide) dL_setTide_13 ?_
    exact jr_ireturn hm rfl dL_setTide_14 (Or.inr ⟨hp, rfl⟩)
theorem w_clean {w : JW} {P : JV → JW → Prop} {PX : String → JW → Prop} {d : Nat} (x1 : Int32) (hs : jSX MX9_clean d 1 6 [jR 0 false, jI x1] w P PX) (hP : ∀ v w', P v w' → ∃ r, v = jI r) (hX : ∀ E w', PX E w' → E = jIOB) : jSW ML_clean [(0, 9, 12, 24)] (d + 1) 1 6 [jR 0 false, jI x1, jR 63 false] w (jWr P PX jIOB) := by
  refine jSW_of jp_L_clean rfl (Nat.le_of_ble_eq_true rfl) (fun C hw => ?_)
  have h6 := hw.1
  have hm : jok C ML_clean (d + 1) 0 0 := h6.less (Nat.le_refl _) (Nat.zero_le _) (Nat.zero_le _)
  refine jr_aload_n hm (i := 2) rfl rfl dL_clean_0 ?_
  refine jr_iconst hm (v := 0) (by decide) dL_clean_1 ?_
  refine jr_aload_n hm (i := 0) rfl rfl dL_clean_2 ?_
  refine jr_iload_n hm (i := 1) rfl rfl dL_clean_3 ?_
  refine jr_callVX (cl := 0) (sl := 0) (mc := 1) (ms := 6) (as := [jI x1]) hw hs (Nat.le_refl _) jw_1157 jw_1158 jw_1159 jw_115 jw_1160 jn_X9_clean rfl jo_0 (fun _ _ _ _ _ => ⟨_, rfl⟩) rfl rfl (Nat.le_of_ble_eq_true rfl) rfl dL_clean_4 (fun v w2 hp => ?_) (fun E w2 hp => ?_)
  · obtain ⟨r, rfl⟩ := hP v w2 hp
    have hm : jok C ML_clean (d + 1) (0 + 1) (0 + 6) := h6
    refine jr_i2l hm dL_clean_7 ?_
    refine jr_lastore hm (Or.inr rfl) ja_63 (show vp_in (nI 0) 1 from vp_in_nI (by omega) (by omega)) dL_clean_8 ?_
    refine jr_goto hm (tgt := 15) dL_clean_9 (by decide) ?_
    refine jr_iconst hm (v := 0) (by decide) dL_clean_15 ?_
    exact jr_ireturn hm rfl dL_clean_16 (Or.inl ⟨r, w2, hp, rfl, rfl⟩)
  · obtain rfl := hX E w2 hp
    have hm : jok C ML_clean (d + 1) (0 + 1) (0 + 6) := h6
    refine jr_catch (cl := 0 + 1) (sl := 0 + 6) hw [] _ [] rfl (fun z hz => absurd hz List.not_mem_nil) rfl (by decide) jw_1062 jcast_IOB (jh_astore_n hm (i := 3) rfl (Nat.le_of_ble_eq_true rfl) rfl dL_clean_12 ?_)
    refine jr_iconst hm (v := 1) (by decide) dL_clean_13 ?_
    exact jr_ireturn hm rfl dL_clean_14 (Or.inr ⟨hp, rfl⟩)
theorem w_pass {w : JW} {P : JV → JW → Prop} {PX : String → JW → Prop} {d : Nat} (x1 : Int32) (hs : jSX MX9_pass d 1 6 [jR 0 false, jI x1] w P PX) (hP : ∀ v w', P v w' → ∃ r, v = jI r) (hX : ∀ E w', PX E w' → E = jIAE) : jSW ML_pass [(0, 9, 12, 19)] (d + 1) 1 6 [jR 0 false, jI x1, jR 63 false] w (jWr P PX jIAE) := by
  refine jSW_of jp_L_pass rfl (Nat.le_of_ble_eq_true rfl) (fun C hw => ?_)
  have h6 := hw.1
  have hm : jok C ML_pass (d + 1) 0 0 := h6.less (Nat.le_refl _) (Nat.zero_le _) (Nat.zero_le _)
  refine jr_aload_n hm (i := 2) rfl rfl dL_pass_0 ?_
  refine jr_iconst hm (v := 0) (by decide) dL_pass_1 ?_
  refine jr_aload_n hm (i := 0) rfl rfl dL_pass_2 ?_
  refine jr_iload_n hm (i := 1) rfl rfl dL_pass_3 ?_
  refine jr_callVX (cl := 0) (sl := 0) (mc := 1) (ms := 6) (as := [jI x1]) hw hs (Nat.le_refl _) jw_1173 jw_1174 jw_1175 jw_115 jw_1176 jn_X9_pass rfl jo_0 (fun _ _ _ _ _ => ⟨_, rfl⟩) rfl rfl (Nat.le_of_ble_eq_true rfl) rfl dL_pass_4 (fun v w2 hp => ?_) (fun E w2 hp => ?_)
  · obtain ⟨r, rfl⟩ := hP v w2 hp
    have hm : jok C ML_pass (d + 1) (0 + 1) (0 + 6) := h6
    refine jr_i2l hm dL_pass_7 ?_
    refine jr_lastore hm (Or.inr rfl) ja_63 (show vp_in (nI 0) 1 from vp_in_nI (by omega) (by omega)) dL_pass_8 ?_
    refine jr_goto hm (tgt := 15) dL_pass_9 (by decide) ?_
    refine jr_iconst hm (v := 0) (by decide) dL_pass_15 ?_
    exact jr_ireturn hm rfl dL_pass_16 (Or.inl ⟨r, w2, hp, rfl, rfl⟩)
  · obtain rfl := hX E w2 hp
    have hm : jok C ML_pass (d + 1) (0 + 1) (0 + 6) := h6
    refine jr_catch (cl := 0 + 1) (sl := 0 + 6) hw [] _ [] rfl (fun z hz => absurd hz List.not_mem_nil) rfl (by decide) jw_1038 jcast_IAE (jh_astore_n hm (i := 3) rfl (Nat.le_of_ble_eq_true rfl) rfl dL_pass_12 ?_)
    refine jr_iconst hm (v := 1) (by decide) dL_pass_13 ?_
    exact jr_ireturn hm rfl dL_pass_14 (Or.inr ⟨hp, rfl⟩)
theorem w_until {w : JW} {P : JV → JW → Prop} {PX : String → JW → Prop} {d : Nat} (x1 : Int32) (hs : jSX MX9_until d 1 6 [jR 0 false, jI x1] w P PX) (hP : ∀ v w', P v w' → ∃ r, v = jI r) (hX : ∀ E w', PX E w' → E = jIOB) : jSW ML_until [(0, 9, 12, 24)] (d + 1) 1 6 [jR 0 false, jI x1, jR 63 false] w (jWr P PX jIOB) := by
  refine jSW_of jp_L_until rfl (Nat.le_of_ble_eq_true rfl) (fun C hw => ?_)
  have h6 := hw.1
  have hm : jok C ML_until (d + 1) 0 0 := h6.less (Nat.le_refl _) (Nat.zero_le _) (Nat.zero_le _)
  refine jr_aload_n hm (i := 2) rfl rfl dL_until_0 ?_
  refine jr_iconst hm (v := 0) (by decide) dL_until_1 ?_
  refine jr_aload_n hm (i := 0) rfl rfl dL_until_2 ?_
  refine jr_iload_n hm (i := 1) rfl rfl dL_until_3 ?_
  refine jr_callVX (cl := 0) (sl := 0) (mc := 1) (ms := 6) (as := [jI x1]) hw hs (Nat.le_refl _) jw_1215 jw_1216 jw_1217 jw_115 jw_1218 jn_X9_until rfl jo_0 (fun _ _ _ _ _ => ⟨_, rfl⟩) rfl rfl (Nat.le_of_ble_eq_true rfl) rfl dL_until_4 (fun v w2 hp => ?_) (fun E w2 hp => ?_)
  · obtain ⟨r, rfl⟩ := hP v w2 hp
    have hm : jok C ML_until (d + 1) (0 + 1) (0 + 6) := h6
    refine jr_i2l hm dL_until_7 ?_
    refine jr_lastore hm (Or.inr rfl) ja_63 (show vp_in (nI 0) 1 from vp_in_nI (by omega) (by omega)) dL_until_8 ?_
    refine jr_goto hm (tgt := 15) dL_until_9 (by decide) ?_
    refine jr_iconst hm (v := 0) (by decide) dL_until_15 ?_
    exact jr_ireturn hm rfl dL_until_16 (Or.inl ⟨r, w2, hp, rfl, rfl⟩)
  · obtain rfl := hX E w2 hp
    have hm : jok C ML_until (d + 1) (0 + 1) (0 + 6) := h6
    refine jr_catch (cl := 0 + 1) (sl := 0 + 6) hw [] _ [] rfl (fun z hz => absurd hz List.not_mem_nil) rfl (by decide) jw_1062 jcast_IOB (jh_astore_n hm (i := 3) rfl (Nat.le_of_ble_eq_true rfl) rfl dL_until_12 ?_)
    refine jr_iconst hm (v := 1) (by decide) dL_until_13 ?_
    exact jr_ireturn hm rfl dL_until_14 (Or.inr ⟨hp, rfl⟩)
theorem w_advise {w : JW} {P : JV → JW → Prop} {PX : String → JW → Prop} {d : Nat} (x1 : Int32) (hs : jSX MX9_advise d 1 6 [jR 0 false, jI x1] w P PX) (hP : ∀ v w', P v w' → ∃ r, v = jI r) (hX : ∀ E w', PX E w' → E = jIAE) : jSW ML_advise [(0, 9, 12, 19)] (d + 1) 1 6 [jR 0 false, jI x1, jR 63 false] w (jWr P PX jIAE) := by
  refine jSW_of jp_L_advise rfl (Nat.le_of_ble_eq_true rfl) (fun C hw => ?_)
  have h6 := hw.1
  have hm : jok C ML_advise (d + 1) 0 0 := h6.less (Nat.le_refl _) (Nat.zero_le _) (Nat.zero_le _)
  refine jr_aload_n hm (i := 2) rfl rfl dL_advise_0 ?_
  refine jr_iconst hm (v := 0) (by decide) dL_advise_1 ?_
  refine jr_aload_n hm (i := 0) rfl rfl dL_advise_2 ?_
  refine jr_iload_n hm (i := 1) rfl rfl dL_advise_3 ?_
  refine jr_callVX (cl := 0) (sl := 0) (mc := 1) (ms := 6) (as := [jI x1]) hw hs (Nat.le_refl _) jw_1238 jw_1239 jw_1240 jw_115 jw_1241 jn_X9_advise rfl jo_0 (fun _ _ _ _ _ => ⟨_, rfl⟩) rfl rfl (Nat.le_of_ble_eq_true rfl) rfl dL_advise_4 (fun v w2 hp => ?_) (fun E w2 hp => ?_)
  · obtain ⟨r, rfl⟩ := hP v w2 hp
    have hm : jok C ML_advise (d + 1) (0 + 1) (0 + 6) := h6
    refine jr_i2l hm dL_advise_7 ?_
    refine jr_lastore hm (Or.inr rfl) ja_63 (show vp_in (nI 0) 1 from vp_in_nI (by omega) (by omega)) dL_advise_8 ?_
    refine jr_goto hm (tgt := 15) dL_advise_9 (by decide) ?_
    refine jr_iconst hm (v := 0) (by decide) dL_advise_15 ?_
    exact jr_ireturn hm rfl dL_advise_16 (Or.inl ⟨r, w2, hp, rfl, rfl⟩)
  · obtain rfl := hX E w2 hp
    have hm : jok C ML_advise (d + 1) (0 + 1) (0 + 6) := h6
    refine jr_catch (cl := 0 + 1) (sl := 0 + 6) hw [] _ [] rfl (fun z hz => absurd hz List.not_mem_nil) rfl (by decide) jw_1038 jcast_IAE (jh_astore_n hm (i := 3) rfl (Nat.le_of_ble_eq_true rfl) rfl dL_advise_12 ?_)
    refine jr_iconst hm (v := 1) (by decide) dL_advise_13 ?_
    exact jr_ireturn hm rfl dL_advise_14 (Or.inr ⟨hp, rfl⟩)
theorem w_best {w : JW} {P : JV → JW → Prop} {PX : String → JW → Prop} {d : Nat} (x1 : Int32) (hs : jSX MX9_best d 1 6 [jR 0 false, jI x1] w P PX) (hP : ∀ v w', P v w' → ∃ r, v = jI r) (hX : ∀ E w', PX E w' → E = jIAE) : jSW ML_best [(0, 9, 12, 19)] (d + 1) 1 6 [jR 0 false, jI x1, jR 63 false] w (jWr P PX jIAE) := by
  refine jSW_of jp_L_best rfl (Nat.le_of_ble_eq_true rfl) (fun C hw => ?_)
  have h6 := hw.1
  have hm : jok C ML_best (d + 1) 0 0 := h6.less (Nat.le_refl _) (Nat.zero_le _) (Nat.zero_le _)
  refine jr_aload_n hm (i := 2) rfl rfl dL_best_0 ?_
  refine jr_iconst hm (v := 0) (by decide) dL_best_1 ?_
  refine jr_aload_n hm (i := 0) rfl rfl dL_best_2 ?_
  refine jr_iload_n hm (i := 1) rfl rfl dL_best_3 ?_
  refine jr_callVX (cl := 0) (sl := 0) (mc := 1) (ms := 6) (as := [jI x1]) hw hs (Nat.le_refl _) jw_1249 jw_1250 jw_1251 jw_115 jw_1252 jn_X9_best rfl jo_0 (fun _ _ _ _ _ => ⟨_, rfl⟩) rfl rfl (Nat.le_of_ble_eq_true rfl) rfl dL_best_4 (fun v w2 hp => ?_) (fun E w2 hp => ?_)
  · obtain ⟨r, rfl⟩ := hP v w2 hp
    have hm : jok C ML_best (d + 1) (0 + 1) (0 + 6) := h6
    refine jr_i2l hm dL_best_7 ?_
    refine jr_lastore hm (Or.inr rfl) ja_63 (show vp_in (nI 0) 1 from vp_in_nI (by omega) (by omega)) dL_best_8 ?_
    refine jr_goto hm (tgt := 15) dL_best_9 (by decide) ?_
    refine jr_iconst hm (v := 0) (by decide) dL_best_15 ?_
    exact jr_ireturn hm rfl dL_best_16 (Or.inl ⟨r, w2, hp, rfl, rfl⟩)
  · obtain rfl := hX E w2 hp
    have hm : jok C ML_best (d + 1) (0 + 1) (0 + 6) := h6
    refine jr_catch (cl := 0 + 1) (sl := 0 + 6) hw [] _ [] rfl (fun z hz => absurd hz List.not_mem_nil) rfl (by decide) jw_1038 jcast_IAE (jh_astore_n hm (i := 3) rfl (Nat.le_of_ble_eq_true rfl) rfl dL_best_12 ?_)
    refine jr_iconst hm (v := 1) (by decide) dL_best_13 ?_
    exact jr_ireturn hm rfl dL_best_14 (Or.inr ⟨hp, rfl⟩)
theorem w_isSilent {w : JW} {P : JV → JW → Prop} {PX : String → JW → Prop} {d : Nat} (x1 : Int32) (hs : jSX MX9_isSilent d 1 6 [jR 0 false, jI x1] w P PX) (hP : ∀ v w', P v w' → ∃ r, v = jI r ∧ (r = 0 ∨ r = 1)) (hX : ∀ E w', PX E w' → E = jIAE) : jSW ML_isSilent [(0, 16, 19, 19)] (d + 1) 1 6 [jR 0 false, jI x1, jR 63 false] w (jWr P PX jIAE) := by
  refine jSW_of jp_L_isSilent rfl (Nat.le_of_ble_eq_true rfl) (fun C hw => ?_)
  have h6 := hw.1
  have hm : jok C ML_isSilent (d + 1) 0 0 := h6.less (Nat.le_refl _) (Nat.zero_le _) (Nat.zero_le _)
  refine jr_aload_n hm (i := 2) rfl rfl dL_isSilent_0 ?_
  refine jr_iconst hm (v := 0) (by decide) dL_isSilent_1 ?_
  refine jr_aload_n hm (i := 0) rfl rfl dL_isSilent_2 ?_
  refine jr_iload_n hm (i := 1) rfl rfl dL_isSilent_3 ?_
  refine jr_callVX (cl := 0) (sl := 0) (mc := 1) (ms := 6) (as := [jI x1]) hw hs (Nat.le_refl _) jw_1141 jw_1142 jw_1143 jw_115 jw_1144 jn_X9_isSilent rfl jo_0 (fun _ _ _ _ _ => ⟨_, rfl⟩) rfl rfl (Nat.le_of_ble_eq_true rfl) rfl dL_isSilent_4 (fun v w2 hp => ?_) (fun E w2 hp => ?_)
  · obtain ⟨r, rfl, hr⟩ := hP v w2 hp
    have hm : jok C ML_isSilent (d + 1) (0 + 1) (0 + 6) := h6
    have fin : ∀ y : Int64, y = r.toInt64 → jW C (0 + 1) (0 + 6) (jQQ C 1 6 (jWr P PX jIAE)) 15 [jR 0 false, jI x1, jR 63 false, jU] [jL y, jI 0, jR 63 false] w2 := by
      intro y hy
      refine jr_lastore hm (Or.inr rfl) ja_63 (show vp_in (nI 0) 1 from vp_in_nI (by omega) (by omega)) dL_isSilent_15 ?_
      refine jr_goto hm (tgt := 22) dL_isSilent_16 (by decide) ?_
      refine jr_iconst hm (v := 0) (by decide) dL_isSilent_22 ?_
      exact jr_ireturn hm rfl dL_isSilent_23 (Or.inl ⟨r, w2, hp, rfl, by rw [hy]; rfl⟩)
    refine jr_if_eq hm (tgt := 14) dL_isSilent_7 (by decide) (fun z => ?_) (fun z => ?_)
    · refine jr_lconst hm (v := 0) (by decide) dL_isSilent_14 ?_
      exact fin 0 (by rw [z]; decide)
    · refine jr_lconst hm (v := 1) (by decide) dL_isSilent_10 ?_
      refine jr_goto hm (tgt := 15) dL_isSilent_11 (by decide) ?_
      exact fin 1 (by rw [hr.resolve_left z]; decide)
  · obtain rfl := hX E w2 hp
    have hm : jok C ML_isSilent (d + 1) (0 + 1) (0 + 6) := h6
    refine jr_catch (cl := 0 + 1) (sl := 0 + 6) hw [] _ [] rfl (fun z hz => absurd hz List.not_mem_nil) rfl (by decide) jw_1038 jcast_IAE (jh_astore_n hm (i := 3) rfl (Nat.le_of_ble_eq_true rfl) rfl dL_isSilent_19 ?_)
    refine jr_iconst hm (v := 1) (by decide) dL_isSilent_20 ?_
    exact jr_ireturn hm rfl dL_isSilent_21 (Or.inr ⟨hp, rfl⟩)

