theorem dL_list_0 : decode cL_list 0 = .ok (.new 47, 3) := by decide +kernel
theorem dL_list_3 : decode cL_list 3 = .ok (.dup, 1) := by decide +kernel
theorem dL_list_4 : decode cL_list 4 = .ok (.invokespecial 49, 3) := by decide +kernel
theorem dL_list_7 : decode cL_list 7 = .ok (.ldc 70, 2) := by decide +kernel
theorem dL_list_9 : decode cL_list 9 = .ok (.invokevirtual 54, 3) := by decide +kernel
theorem dL_list_12 : decode cL_list 12 = .ok (.aload_n 0, 1) := by decide +kernel
theorem dL_list_13 : decode cL_list 13 = .ok (.iconst 0, 1) := by decide +kernel
theorem dL_list_14 : decode cL_list 14 = .ok (.invokestatic 72, 3) := by decide +kernel
theorem dL_list_17 : decode cL_list 17 = .ok (.invokestatic 50, 3) := by decide +kernel
theorem dL_list_20 : decode cL_list 20 = .ok (.invokevirtual 54, 3) := by decide +kernel
theorem dL_list_23 : decode cL_list 23 = .ok (.ldc 75, 2) := by decide +kernel
theorem dL_list_25 : decode cL_list 25 = .ok (.invokevirtual 54, 3) := by decide +kernel
theorem dL_list_28 : decode cL_list 28 = .ok (.aload_n 0, 1) := by decide +kernel
theorem dL_list_29 : decode cL_list 29 = .ok (.iconst 0, 1) := by decide +kernel
theorem dL_list_30 : decode cL_list 30 = .ok (.invokestatic 77, 3) := by decide +kernel
theorem dL_list_33 : decode cL_list 33 = .ok (.invokestatic 50, 3) := by decide +kernel
theorem dL_list_36 : decode cL_list 36 = .ok (.invokevirtual 54, 3) := by decide +kernel
theorem dL_list_39 : decode cL_list 39 = .ok (.ldc 80, 2) := by decide +kernel
theorem dL_list_41 : decode cL_list 41 = .ok (.invokevirtual 54, 3) := by decide +kernel
theorem dL_list_44 : decode cL_list 44 = .ok (.aload_n 0, 1) := by decide +kernel
theorem dL_list_45 : decode cL_list 45 = .ok (.iconst 1, 1) := by decide +kernel
theorem dL_list_46 : decode cL_list 46 = .ok (.invokestatic 72, 3) := by decide +kernel
theorem dL_list_49 : decode cL_list 49 = .ok (.invokestatic 50, 3) := by decide +kernel
theorem dL_list_52 : decode cL_list 52 = .ok (.invokevirtual 54, 3) := by decide +kernel
theorem dL_list_55 : decode cL_list 55 = .ok (.ldc 75, 2) := by decide +kernel
theorem dL_list_57 : decode cL_list 57 = .ok (.invokevirtual 54, 3) := by decide +kernel
theorem dL_list_60 : decode cL_list 60 = .ok (.aload_n 0, 1) := by decide +kernel
theorem dL_list_61 : decode cL_list 61 = .ok (.iconst 1, 1) := by decide +kernel
theorem dL_list_62 : decode cL_list 62 = .ok (.invokestatic 77, 3) := by decide +kernel
theorem dL_list_65 : decode cL_list 65 = .ok (.invokestatic 50, 3) := by decide +kernel
theorem dL_list_68 : decode cL_list 68 = .ok (.invokevirtual 54, 3) := by decide +kernel
theorem dL_list_71 : decode cL_list 71 = .ok (.ldc 82, 2) := by decide +kernel
theorem dL_list_73 : decode cL_list 73 = .ok (.invokevirtual 54, 3) := by decide +kernel
theorem dL_list_76 : decode cL_list 76 = .ok (.invokevirtual 58, 3) := by decide +kernel
theorem dL_list_79 : decode cL_list 79 = .ok (.astore_n 1, 1) := by decide +kernel
theorem dL_list_80 : decode cL_list 80 = .ok (.iconst 4, 1) := by decide +kernel
theorem dL_list_81 : decode cL_list 81 = .ok (.anewarray 10, 3) := by decide +kernel
theorem dL_list_84 : decode cL_list 84 = .ok (.dup, 1) := by decide +kernel
theorem dL_list_85 : decode cL_list 85 = .ok (.iconst 0, 1) := by decide +kernel
theorem dL_list_86 : decode cL_list 86 = .ok (.ldc 84, 2) := by decide +kernel
theorem dL_list_88 : decode cL_list 88 = .ok (.aastore, 1) := by decide +kernel
theorem dL_list_89 : decode cL_list 89 = .ok (.dup, 1) := by decide +kernel
theorem dL_list_90 : decode cL_list 90 = .ok (.iconst 1, 1) := by decide +kernel
theorem dL_list_91 : decode cL_list 91 = .ok (.ldc 86, 2) := by decide +kernel
theorem dL_list_93 : decode cL_list 93 = .ok (.aastore, 1) := by decide +kernel
theorem dL_list_94 : decode cL_list 94 = .ok (.dup, 1) := by decide +kernel
theorem dL_list_95 : decode cL_list 95 = .ok (.iconst 2, 1) := by decide +kernel
theorem dL_list_96 : decode cL_list 96 = .ok (.ldc 88, 2) := by decide +kernel
theorem dL_list_98 : decode cL_list 98 = .ok (.aastore, 1) := by decide +kernel
theorem dL_list_99 : decode cL_list 99 = .ok (.dup, 1) := by decide +kernel
theorem dL_list_100 : decode cL_list 100 = .ok (.iconst 3, 1) := by decide +kernel
theorem dL_list_101 : decode cL_list 101 = .ok (.ldc 90, 2) := by decide +kernel
theorem dL_list_103 : decode cL_list 103 = .ok (.aastore, 1) := by decide +kernel
theorem dL_list_104 : decode cL_list 104 = .ok (.astore_n 2, 1) := by decide +kernel
theorem dL_list_105 : decode cL_list 105 = .ok (.iconst 0, 1) := by decide +kernel
theorem dL_list_106 : decode cL_list 106 = .ok (.istore_n 3, 1) := by decide +kernel
theorem dL_list_107 : decode cL_list 107 = .ok (.iload_n 3, 1) := by decide +kernel
theorem dL_list_108 : decode cL_list 108 = .ok (.iconst 4, 1) := by decide +kernel
theorem dL_list_109 : decode cL_list 109 = .ok (.if_icmp .ge 69, 3) := by decide +kernel
theorem dL_list_112 : decode cL_list 112 = .ok (.new 47, 3) := by decide +kernel
theorem dL_list_115 : decode cL_list 115 = .ok (.dup, 1) := by decide +kernel
theorem dL_list_116 : decode cL_list 116 = .ok (.invokespecial 49, 3) := by decide +kernel
theorem dL_list_119 : decode cL_list 119 = .ok (.aload_n 1, 1) := by decide +kernel
theorem dL_list_120 : decode cL_list 120 = .ok (.invokevirtual 54, 3) := by decide +kernel
theorem dL_list_123 : decode cL_list 123 = .ok (.ldc 92, 2) := by decide +kernel
theorem dL_list_125 : decode cL_list 125 = .ok (.invokevirtual 54, 3) := by decide +kernel
theorem dL_list_128 : decode cL_list 128 = .ok (.aload_n 2, 1) := by decide +kernel
theorem dL_list_129 : decode cL_list 129 = .ok (.iload_n 3, 1) := by decide +kernel
theorem dL_list_130 : decode cL_list 130 = .ok (.aaload, 1) := by decide +kernel
theorem dL_list_131 : decode cL_list 131 = .ok (.invokevirtual 54, 3) := by decide +kernel
theorem dL_list_134 : decode cL_list 134 = .ok (.ldc 94, 2) := by decide +kernel
theorem dL_list_136 : decode cL_list 136 = .ok (.invokevirtual 54, 3) := by decide +kernel
theorem dL_list_139 : decode cL_list 139 = .ok (.aload_n 0, 1) := by decide +kernel
theorem dL_list_140 : decode cL_list 140 = .ok (.iload_n 3, 1) := by decide +kernel
theorem dL_list_141 : decode cL_list 141 = .ok (.invokestatic 96, 3) := by decide +kernel
theorem dL_list_144 : decode cL_list 144 = .ok (.invokestatic 50, 3) := by decide +kernel
theorem dL_list_147 : decode cL_list 147 = .ok (.invokevirtual 54, 3) := by decide +kernel
theorem dL_list_150 : decode cL_list 150 = .ok (.aload_n 0, 1) := by decide +kernel
theorem dL_list_151 : decode cL_list 151 = .ok (.iload_n 3, 1) := by decide +kernel
theorem dL_list_152 : decode cL_list 152 = .ok (.invokestatic 99, 3) := by decide +kernel
theorem dL_list_155 : decode cL_list 155 = .ok (.ifCond .eq 8, 3) := by decide +kernel
theorem dL_list_158 : decode cL_list 158 = .ok (.ldc 103, 2) := by decide +kernel
theorem dL_list_160 : decode cL_list 160 = .ok (.goto 5, 3) := by decide +kernel
theorem dL_list_163 : decode cL_list 163 = .ok (.ldc 82, 2) := by decide +kernel
theorem dL_list_165 : decode cL_list 165 = .ok (.invokevirtual 54, 3) := by decide +kernel
theorem dL_list_168 : decode cL_list 168 = .ok (.invokevirtual 58, 3) := by decide +kernel
theorem dL_list_171 : decode cL_list 171 = .ok (.astore_n 1, 1) := by decide +kernel
theorem dL_list_172 : decode cL_list 172 = .ok (.iinc 3 1, 3) := by decide +kernel
theorem dL_list_175 : decode cL_list 175 = .ok (.goto (-68), 3) := by decide +kernel
theorem dL_list_178 : decode cL_list 178 = .ok (.iconst 0, 1) := by decide +kernel
theorem dL_list_179 : decode cL_list 179 = .ok (.istore_n 3, 1) := by decide +kernel
theorem dL_list_180 : decode cL_list 180 = .ok (.iload_n 3, 1) := by decide +kernel
theorem dL_list_181 : decode cL_list 181 = .ok (.iconst 2, 1) := by decide +kernel
theorem dL_list_182 : decode cL_list 182 = .ok (.if_icmp .ge 77, 3) := by decide +kernel
theorem dL_list_185 : decode cL_list 185 = .ok (.new 47, 3) := by decide +kernel
theorem dL_list_188 : decode cL_list 188 = .ok (.dup, 1) := by decide +kernel
theorem dL_list_189 : decode cL_list 189 = .ok (.invokespecial 49, 3) := by decide +kernel
theorem dL_list_192 : decode cL_list 192 = .ok (.aload_n 1, 1) := by decide +kernel
theorem dL_list_193 : decode cL_list 193 = .ok (.invokevirtual 54, 3) := by decide +kernel
theorem dL_list_196 : decode cL_list 196 = .ok (.ldc 105, 2) := by decide +kernel
theorem dL_list_198 : decode cL_list 198 = .ok (.invokevirtual 54, 3) := by decide +kernel
theorem dL_list_201 : decode cL_list 201 = .ok (.aload_n 0, 1) := by decide +kernel
theorem dL_list_202 : decode cL_list 202 = .ok (.iload_n 3, 1) := by decide +kernel
theorem dL_list_203 : decode cL_list 203 = .ok (.invokestatic 107, 3) := by decide +kernel
theorem dL_list_206 : decode cL_list 206 = .ok (.invokestatic 50, 3) := by decide +kernel
theorem dL_list_209 : decode cL_list 209 = .ok (.invokevirtual 54, 3) := by decide +kernel
theorem dL_list_212 : decode cL_list 212 = .ok (.ldc 110, 2) := by decide +kernel
theorem dL_list_214 : decode cL_list 214 = .ok (.invokevirtual 54, 3) := by decide +kernel
theorem dL_list_217 : decode cL_list 217 = .ok (.aload_n 0, 1) := by decide +kernel
theorem dL_list_218 : decode cL_list 218 = .ok (.iload_n 3, 1) := by decide +kernel
theorem dL_list_219 : decode cL_list 219 = .ok (.invokestatic 112, 3) := by decide +kernel
theorem dL_list_222 : decode cL_list 222 = .ok (.invokestatic 50, 3) := by decide +kernel
theorem dL_list_225 : decode cL_list 225 = .ok (.invokevirtual 54, 3) := by decide +kernel
theorem dL_list_228 : decode cL_list 228 = .ok (.ldc 115, 2) := by decide +kernel
theorem dL_list_230 : decode cL_list 230 = .ok (.invokevirtual 54, 3) := by decide +kernel
theorem dL_list_233 : decode cL_list 233 = .ok (.aload_n 0, 1) := by decide +kernel
theorem dL_list_234 : decode cL_list 234 = .ok (.iload_n 3, 1) := by decide +kernel
theorem dL_list_235 : decode cL_list 235 = .ok (.invokestatic 117, 3) := by decide +kernel
theorem dL_list_238 : decode cL_list 238 = .ok (.invokestatic 50, 3) := by decide +kernel
theorem dL_list_241 : decode cL_list 241 = .ok (.invokevirtual 54, 3) := by decide +kernel
theorem dL_list_244 : decode cL_list 244 = .ok (.ldc 82, 2) := by decide +kernel
theorem dL_list_246 : decode cL_list 246 = .ok (.invokevirtual 54, 3) := by decide +kernel
theorem dL_list_249 : decode cL_list 249 = .ok (.invokevirtual 58, 3) := by decide +kernel
theorem dL_list_252 : decode cL_list 252 = .ok (.astore_n 1, 1) := by decide +kernel
theorem dL_list_253 : decode cL_list 253 = .ok (.iinc 3 1, 3) := by decide +kernel
theorem dL_list_256 : decode cL_list 256 = .ok (.goto (-76), 3) := by decide +kernel
theorem dL_list_259 : decode cL_list 259 = .ok (.new 47, 3) := by decide +kernel
theorem dL_list_262 : decode cL_list 262 = .ok (.dup, 1) := by decide +kernel
theorem dL_list_263 : decode cL_list 263 = .ok (.invokespecial 49, 3) := by decide +kernel
theorem dL_list_266 : decode cL_list 266 = .ok (.aload_n 1, 1) := by decide +kernel
theorem dL_list_267 : decode cL_list 267 = .ok (.invokevirtual 54, 3) := by decide +kernel
theorem dL_list_270 : decode cL_list 270 = .ok (.ldc 120, 2) := by decide +kernel
theorem dL_list_272 : decode cL_list 272 = .ok (.invokevirtual 54, 3) := by decide +kernel
theorem dL_list_275 : decode cL_list 275 = .ok (.aload_n 0, 1) := by decide +kernel
theorem dL_list_276 : decode cL_list 276 = .ok (.invokestatic 122, 3) := by decide +kernel
theorem dL_list_279 : decode cL_list 279 = .ok (.invokestatic 50, 3) := by decide +kernel
theorem dL_list_282 : decode cL_list 282 = .ok (.invokevirtual 54, 3) := by decide +kernel
theorem dL_list_285 : decode cL_list 285 = .ok (.ldc 126, 2) := by decide +kernel
theorem dL_list_287 : decode cL_list 287 = .ok (.invokevirtual 54, 3) := by decide +kernel
theorem dL_list_290 : decode cL_list 290 = .ok (.aload_n 0, 1) := by decide +kernel
theorem dL_list_291 : decode cL_list 291 = .ok (.invokestatic 128, 3) := by decide +kernel
theorem dL_list_294 : decode cL_list 294 = .ok (.invokestatic 50, 3) := by decide +kernel
theorem dL_list_297 : decode cL_list 297 = .ok (.invokevirtual 54, 3) := by decide +kernel
theorem dL_list_300 : decode cL_list 300 = .ok (.ldc 131, 2) := by decide +kernel
theorem dL_list_302 : decode cL_list 302 = .ok (.invokevirtual 54, 3) := by decide +kernel
theorem dL_list_305 : decode cL_list 305 = .ok (.invokevirtual 58, 3) := by decide +kernel
theorem dL_list_308 : decode cL_list 308 = .ok (.astore_n 1, 1) := by decide +kernel
theorem dL_list_309 : decode cL_list 309 = .ok (.new 47, 3) := by decide +kernel
theorem dL_list_312 : decode cL_list 312 = .ok (.dup, 1) := by decide +kernel
theorem dL_list_313 : decode cL_list 313 = .ok (.invokespecial 49, 3) := by decide +kernel
theorem dL_list_316 : decode cL_list 316 = .ok (.aload_n 1, 1) := by decide +kernel
theorem dL_list_317 : decode cL_list 317 = .ok (.invokevirtual 54, 3) := by decide +kernel
theorem dL_list_320 : decode cL_list 320 = .ok (.ldc 133, 2) := by decide +kernel
theorem dL_list_322 : decode cL_list 322 = .ok (.invokevirtual 54, 3) := by decide +kernel
theorem dL_list_325 : decode cL_list 325 = .ok (.aload_n 0, 1) := by decide +kernel
theorem dL_list_326 : decode cL_list 326 = .ok (.invokestatic 135, 3) := by decide +kernel
theorem dL_list_329 : decode cL_list 329 = .ok (.invokestatic 50, 3) := by decide +kernel
theorem dL_list_332 : decode cL_list 332 = .ok (.invokevirtual 54, 3) := by decide +kernel
theorem dL_list_335 : decode cL_list 335 = .ok (.ldc 138, 2) := by decide +kernel
theorem dL_list_337 : decode cL_list 337 = .ok (.invokevirtual 54, 3) := by decide +kernel
theorem dL_list_340 : decode cL_list 340 = .ok (.aload_n 0, 1) := by decide +kernel
theorem dL_list_341 : decode cL_list 341 = .ok (.invokestatic 140, 3) := by decide +kernel
theorem dL_list_344 : decode cL_list 344 = .ok (.invokestatic 50, 3) := by decide +kernel
theorem dL_list_347 : decode cL_list 347 = .ok (.invokevirtual 54, 3) := by decide +kernel
theorem dL_list_350 : decode cL_list 350 = .ok (.ldc 143, 2) := by decide +kernel
theorem dL_list_352 : decode cL_list 352 = .ok (.invokevirtual 54, 3) := by decide +kernel
theorem dL_list_355 : decode cL_list 355 = .ok (.invokevirtual 58, 3) := by decide +kernel
theorem dL_list_358 : decode cL_list 358 = .ok (.areturn, 1) := by decide +kernel
abbrev ML_list : JM := (cL_list, 4, RL, (some (.object "java/lang/String")), yL_list)
theorem jn_L_list : jnm ML_list 1 := by decide +kernel
theorem jp_L_list : plainName ML_list.2.2.2.2.cls = true := by decide +kernel
theorem jw_881 : Cond.methodLink RL 72 yL_mouth ∈ jGL := jmem 881 (by decide +kernel) rfl
theorem jw_882 : Cond.static yL_mouth ∈ jGL := jmem 882 (by decide +kernel) rfl
theorem jw_883 : Cond.code yL_mouth cL_mouth 2 (some .int) ∈ jGL := jmem 883 (by decide +kernel) rfl
theorem jw_977 : Cond.methodLink RL 77 yL_deep ∈ jGL := jmem 977 (by decide +kernel) rfl
theorem jw_978 : Cond.static yL_deep ∈ jGL := jmem 978 (by decide +kernel) rfl
theorem jw_979 : Cond.code yL_deep cL_deep 2 (some .int) ∈ jGL := jmem 979 (by decide +kernel) rfl
theorem jw_982 : Cond.classLink RL 10 "java/lang/String" ∈ jGL := jmem 982 (by decide +kernel) rfl
theorem jw_990 : Cond.methodLink RL 96 yL_long0 ∈ jGL := jmem 990 (by decide +kernel) rfl
theorem jw_991 : Cond.static yL_long0 ∈ jGL := jmem 991 (by decide +kernel) rfl
theorem jw_992 : Cond.code yL_long0 cL_long0 2 (some .int) ∈ jGL := jmem 992 (by decide +kernel) rfl
theorem jw_993 : Cond.methodLink RL 99 yL_isReed ∈ jGL := jmem 993 (by decide +kernel) rfl
theorem jw_994 : Cond.static yL_isReed ∈ jGL := jmem 994 (by decide +kernel) rfl
theorem jw_995 : Cond.code yL_isReed cL_isReed 2 (some .boolean) ∈ jGL := jmem 995 (by decide +kernel) rfl
theorem jw_998 : Cond.methodLink RL 107 yL_high ∈ jGL := jmem 998 (by decide +kernel) rfl
theorem jw_999 : Cond.static yL_high ∈ jGL := jmem 999 (by decide +kernel) rfl
theorem jw_1000 : Cond.code yL_high cL_high 2 (some .int) ∈ jGL := jmem 1000 (by decide +kernel) rfl
theorem jw_1002 : Cond.methodLink RL 112 yL_every ∈ jGL := jmem 1002 (by decide +kernel) rfl
theorem jw_1003 : Cond.static yL_every ∈ jGL := jmem 1003 (by decide +kernel) rfl
theorem jw_1004 : Cond.code yL_every cL_every 2 (some .int) ∈ jGL := jmem 1004 (by decide +kernel) rfl
theorem jw_1006 : Cond.methodLink RL 117 yL_from ∈ jGL := jmem 1006 (by decide +kernel) rfl
theorem jw_1007 : Cond.static yL_from ∈ jGL := jmem 1007 (by decide +kernel) rfl
theorem jw_1008 : Cond.code yL_from cL_from 2 (some .int) ∈ jGL := jmem 1008 (by decide +kernel) rfl
theorem jw_1010 : Cond.methodLink RL 122 yL_quietFrom ∈ jGL := jmem 1010 (by decide +kernel) rfl
theorem jw_1011 : Cond.static yL_quietFrom ∈ jGL := jmem 1011 (by decide +kernel) rfl
theorem jw_1012 : Cond.code yL_quietFrom cL_quietFrom 1 (some .int) ∈ jGL := jmem 1012 (by decide +kernel) rfl
theorem jw_1014 : Cond.methodLink RL 128 yL_quietTo ∈ jGL := jmem 1014 (by decide +kernel) rfl
theorem jw_1015 : Cond.static yL_quietTo ∈ jGL := jmem 1015 (by decide +kernel) rfl
theorem jw_1016 : Cond.code yL_quietTo cL_quietTo 1 (some .int) ∈ jGL := jmem 1016 (by decide +kernel) rfl
theorem jw_1019 : Cond.methodLink RL 135 yL_mostIn ∈ jGL := jmem 1019 (by decide +kernel) rfl
theorem jw_1020 : Cond.static yL_mostIn ∈ jGL := jmem 1020 (by decide +kernel) rfl
theorem jw_1021 : Cond.code yL_mostIn cL_mostIn 1 (some .int) ∈ jGL := jmem 1021 (by decide +kernel) rfl
theorem jw_1023 : Cond.methodLink RL 140 yL_mostSilt ∈ jGL := jmem 1023 (by decide +kernel) rfl
theorem jw_1024 : Cond.static yL_mostSilt ∈ jGL := jmem 1024 (by decide +kernel) rfl
theorem jw_1025 : Cond.code yL_mostSilt cL_mostSilt 1 (some .int) ∈ jGL := jmem 1025 (by decide +kernel) rfl
/-! THE LAW's LIST -/
theorem kasc {a b : List Nat} (ha : ∀ x ∈ a, x < 128) (hb : ∀ x ∈ b, x < 128) : ∀ x ∈ a ++ b, x < 128 := fun x hx => (List.mem_append.mp hx).elim (ha x) (hb x)
theorem kname : ∀ p, p < 4 → (jkt (7 + p)).length ≤ 6 := by decide +kernel
def kTA (xs : JS0) : List Nat := ((((((((([] ++ jkt 3) ++ kdg (1 + kbl (kcl xs 0) 9)) ++ jkt 4) ++ kdg (1 + kbl (kcl xs 0 >>> (4 &&& 31)) 5)) ++ jkt 5) ++ kdg (1 + kbl (kcl xs 1) 9)) ++ jkt 4) ++ kdg (1 + kbl (kcl xs 1 >>> (4 &&& 31)) 5)) ++ jkt 6)
theorem kTA_asc (xs : JS0) : ∀ x ∈ kTA xs, x < 128 := (kasc (kasc (kasc (kasc (kasc (kasc (kasc (kasc (kasc (fun _ h => absurd h List.not_mem_nil) (jkt_ok 3 (by omega)).2.2) (kdg_asc (by have := kbl_lt (kcl xs 0) (show 0 < 9 by omega); omega))) (jkt_ok 4 (by omega)).2.2) (kdg_asc (by have := kbl_lt (kcl xs 0 >>> (4 &&& 31)) (show 0 < 5 by omega); omega))) (jkt_ok 5 (by omega)).2.2) (kdg_asc (by have := kbl_lt (kcl xs 1) (show 0 < 9 by omega); omega))) (jkt_ok 4 (by omega)).2.2) (kdg_asc (by have := kbl_lt (kcl xs 1 >>> (4 &&& 31)) (show 0 < 5 by omega); omega))) (jkt_ok 6 (by omega)).2.2)
def kTP (xs : JS0) (p : Nat) (u : List Nat) : List Nat := ((((([] ++ u) ++ jkt 11) ++ jkt (7 + p)) ++ jkt 12) ++ kdg (1 + kbl (kcl xs (2 + p)) 40)) ++ (if kbl (kcl xs (2 + p) >>> (6 &&& 31)) 2 = 1 then jkt 13 else jkt 6)
theorem kTP_asc (xs : JS0) {p : Nat} (hp : p < 4) {u : List Nat} (hua : ∀ x ∈ u, x < 128) : ∀ x ∈ kTP xs p u, x < 128 := kasc (kasc (kasc (kasc (kasc (kasc (fun _ h => absurd h List.not_mem_nil) hua) (jkt_ok 11 (by omega)).2.2) (jkt_ok (7 + p) (by omega)).2.2) (jkt_ok 12 (by omega)).2.2) (kdg_asc (by have := kbl_lt (kcl xs (2 + p)) (show 0 < 40 by omega); omega))) (by split; exact (jkt_ok 13 (by omega)).2.2; exact (jkt_ok 6 (by omega)).2.2)
def kTW (xs : JS0) (p : Nat) (u : List Nat) : List Nat := (((((((([] ++ u) ++ jkt 14) ++ kdg (1 + kbl (kcl xs (6 + p)) 30)) ++ jkt 15) ++ kdg (1 + kbl (kcl xs (6 + p) >>> (5 &&& 31)) 6)) ++ jkt 16) ++ kdg (kbl (kcl xs (6 + p) >>> (9 &&& 31)) 20)) ++ jkt 6)
theorem kTW_asc (xs : JS0) (p : Nat) {u : List Nat} (hua : ∀ x ∈ u, x < 128) : ∀ x ∈ kTW xs p u, x < 128 := (kasc (kasc (kasc (kasc (kasc (kasc (kasc (kasc (fun _ h => absurd h List.not_mem_nil) hua) (jkt_ok 14 (by omega)).2.2) (kdg_asc (by have := kbl_lt (kcl xs (6 + p)) (show 0 < 30 by omega); omega))) (jkt_ok 15 (by omega)).2.2) (kdg_asc (by have := kbl_lt (kcl xs (6 + p) >>> (5 &&& 31)) (show 0 < 6 by omega); omega))) (jkt_ok 16 (by omega)).2.2) (kdg_asc (by have := kbl_lt (kcl xs (6 + p) >>> (9 &&& 31)) (show 0 < 20 by omega); omega))) (jkt_ok 6 (by omega)).2.2)
def kTS (xs : JS0) (u : List Nat) : List Nat := (((((([] ++ u) ++ jkt 17) ++ kdg (kbl (kcl xs 8) 24)) ++ jkt 18) ++ kdg (kbl (kcl xs 8 >>> (5 &&& 31)) 24)) ++ jkt 19)
theorem kTS_asc (xs : JS0) {u : List Nat} (hua : ∀ x ∈ u, x < 128) : ∀ x ∈ kTS xs u, x < 128 := (kasc (kasc (kasc (kasc (kasc (kasc (fun _ h => absurd h List.not_mem_nil) hua) (jkt_ok 17 (by omega)).2.2) (kdg_asc (by have := kbl_lt (kcl xs 8) (show 0 < 24 by omega); omega))) (jkt_ok 18 (by omega)).2.2) (kdg_asc (by have := kbl_lt (kcl xs 8 >>> (5 &&& 31)) (show 0 < 24 by omega); omega))) (jkt_ok 19 (by omega)).2.2)
def kTF (xs : JS0) (u : List Nat) : List Nat := (((((([] ++ u) ++ jkt 20) ++ kdg (5 + kbl (kcl xs 9) 60)) ++ jkt 21) ++ kdg (1 + kbl (kcl xs 9 >>> (6 &&& 31)) 20)) ++ jkt 22)
theorem kTF_asc (xs : JS0) {u : List Nat} (hua : ∀ x ∈ u, x < 128) : ∀ x ∈ kTF xs u, x < 128 := (kasc (kasc (kasc (kasc (kasc (kasc (fun _ h => absurd h List.not_mem_nil) hua) (jkt_ok 20 (by omega)).2.2) (kdg_asc (by have := kbl_lt (kcl xs 9) (show 0 < 60 by omega); omega))) (jkt_ok 21 (by omega)).2.2) (kdg_asc (by have := kbl_lt (kcl xs 9 >>> (6 &&& 31)) (show 0 < 20 by omega); omega))) (jkt_ok 22 (by omega)).2.2)
theorem l_segA {C : JC} (hm : jokT C ML_list 8 300 700000) (hS : jFq (jS C)) (hx : (jS C).2.2.2.1.2.1 ≤ 260) {Q : State → Prop} {cl sl : Nat} (hc : cl + 53 ≤ 300) (hs : sl + 120900 ≤ 700000) (k : ∀ (q v : Nat) (f : Nat → Int32) (cl2 sl2 : Nat), cl2 ≤ cl + 53 → sl2 ≤ sl + 120900 → jFt (kTA (jS C).2.2.2.1) f → (kTA (jS C).2.2.2.1).length ≤ 49 → jG C cl2 sl2 Q 80 [jR (jS C).2.2.2.1.1 false, jR q false, jU, jU] [] (jStC (jcs C) q v (kTA (jS C).2.2.2.1) f)) : jG C cl sl Q 0 [jR (jS C).2.2.2.1.1 false, jU, jU, jU] [] [] := by
  refine jl_new hm hS (by omega) (by omega) (by omega) rfl (fun _ => (Nat.le_of_ble_eq_true rfl)) dL_list_0 dL_list_3 dL_list_4 (fun h v0 => ?_)
  refine jl_capp (B := 0) (u := []) (L := 13) hm hS 3 jBT0 (Nat.le_refl _) (by decide) rfl rfl (by decide +kernel) (by omega) (by omega) (by omega) (by omega) rfl (Nat.le_of_ble_eq_true rfl) dL_list_7 dL_list_9 (fun v1 m1 f1 hB1 hl1 => ?_)
  refine jg_aload_n hm.1 (i := 0) rfl rfl dL_list_12 ?_
  refine jg_iconst hm.1 (v := 0) (by decide) dL_list_13 ?_
  refine jl_pure (as := [jR (jS C).2.2.2.1.1 false, jI (nI 0)]) (st := [jR h false]) hm hS (t_mouth (xs := (jS C).2.2.2.1) (o := none) (k := 0) (by omega) hx) (by omega) (by omega) (by omega) jw_881 jw_882 jw_46 jw_883 jn_L_mouth rfl rfl (Nat.le_of_ble_eq_true rfl) rfl dL_list_14 ?_
  refine jl_napp hm hS hB1 hl1 (n := 1 + kbl (kcl (jS C).2.2.2.1 0) 9) (by have := kbl_lt (kcl (jS C).2.2.2.1 0) (show 0 < 9 by omega); omega) (by omega) (by omega) (by omega) (by omega) rfl (Nat.le_of_ble_eq_true rfl) (fun _ => (Nat.le_of_ble_eq_true rfl)) dL_list_17 dL_list_20 (fun v2 m2 f2 hB2 hl2 => ?_)
  refine jl_capp (L := 6) hm hS 4 hB2 hl2 (by decide) rfl rfl (by decide +kernel) (by omega) (by omega) (by omega) (by omega) rfl (Nat.le_of_ble_eq_true rfl) dL_list_23 dL_list_25 (fun v3 m3 f3 hB3 hl3 => ?_)
  refine jg_aload_n hm.1 (i := 0) rfl rfl dL_list_28 ?_
  refine jg_iconst hm.1 (v := 0) (by decide) dL_list_29 ?_
  refine jl_pure (as := [jR (jS C).2.2.2.1.1 false, jI (nI 0)]) (st := [jR h false]) hm hS (t_deep (xs := (jS C).2.2.2.1) (o := none) (k := 0) (by omega) hx) (by omega) (by omega) (by omega) jw_977 jw_978 jw_46 jw_979 jn_L_deep rfl rfl (Nat.le_of_ble_eq_true rfl) rfl dL_list_30 ?_
  refine jl_napp hm hS hB3 hl3 (n := 1 + kbl (kcl (jS C).2.2.2.1 0 >>> (4 &&& 31)) 5) (by have := kbl_lt (kcl (jS C).2.2.2.1 0 >>> (4 &&& 31)) (show 0 < 5 by omega); omega) (by omega) (by omega) (by omega) (by omega) rfl (Nat.le_of_ble_eq_true rfl) (fun _ => (Nat.le_of_ble_eq_true rfl)) dL_list_33 dL_list_36 (fun v4 m4 f4 hB4 hl4 => ?_)
  refine jl_capp (L := 15) hm hS 5 hB4 hl4 (by decide) rfl rfl (by decide +kernel) (by omega) (by omega) (by omega) (by omega) rfl (Nat.le_of_ble_eq_true rfl) dL_list_39 dL_list_41 (fun v5 m5 f5 hB5 hl5 => ?_)
  refine jg_aload_n hm.1 (i := 0) rfl rfl dL_list_44 ?_
  refine jg_iconst hm.1 (v := 1) (by decide) dL_list_45 ?_
  refine jl_pure (as := [jR (jS C).2.2.2.1.1 false, jI (nI 1)]) (st := [jR h false]) hm hS (t_mouth (xs := (jS C).2.2.2.1) (o := none) (k := 1) (by omega) hx) (by omega) (by omega) (by omega) jw_881 jw_882 jw_46 jw_883 jn_L_mouth rfl rfl (Nat.le_of_ble_eq_true rfl) rfl dL_list_46 ?_
  refine jl_napp hm hS hB5 hl5 (n := 1 + kbl (kcl (jS C).2.2.2.1 1) 9) (by have := kbl_lt (kcl (jS C).2.2.2.1 1) (show 0 < 9 by omega); omega) (by omega) (by omega) (by omega) (by omega) rfl (Nat.le_of_ble_eq_true rfl) (fun _ => (Nat.le_of_ble_eq_true rfl)) dL_list_49 dL_list_52 (fun v6 m6 f6 hB6 hl6 => ?_)
  refine jl_capp (L := 6) hm hS 4 hB6 hl6 (by decide) rfl rfl (by decide +kernel) (by omega) (by omega) (by omega) (by omega) rfl (Nat.le_of_ble_eq_true rfl) dL_list_55 dL_list_57 (fun v7 m7 f7 hB7 hl7 => ?_)
  refine jg_aload_n hm.1 (i := 0) rfl rfl dL_list_60 ?_
  refine jg_iconst hm.1 (v := 1) (by decide) dL_list_61 ?_
  refine jl_pure (as := [jR (jS C).2.2.2.1.1 false, jI (nI 1)]) (st := [jR h false]) hm hS (t_deep (xs := (jS C).2.2.2.1) (o := none) (k := 1) (by omega) hx) (by omega) (by omega) (by omega) jw_977 jw_978 jw_46 jw_979 jn_L_deep rfl rfl (Nat.le_of_ble_eq_true rfl) rfl dL_list_62 ?_
  refine jl_napp hm hS hB7 hl7 (n := 1 + kbl (kcl (jS C).2.2.2.1 1 >>> (4 &&& 31)) 5) (by have := kbl_lt (kcl (jS C).2.2.2.1 1 >>> (4 &&& 31)) (show 0 < 5 by omega); omega) (by omega) (by omega) (by omega) (by omega) rfl (Nat.le_of_ble_eq_true rfl) (fun _ => (Nat.le_of_ble_eq_true rfl)) dL_list_65 dL_list_68 (fun v8 m8 f8 hB8 hl8 => ?_)
  refine jl_capp (L := 1) hm hS 6 hB8 hl8 (by decide) rfl rfl (by decide +kernel) (by omega) (by omega) (by omega) (by omega) rfl (Nat.le_of_ble_eq_true rfl) dL_list_71 dL_list_73 (fun v9 m9 f9 hB9 hl9 => ?_)
  refine jl_str hm hS hB9 (by omega) (by omega) (by omega) rfl (Nat.le_of_ble_eq_true rfl) dL_list_76 (fun q v f hf => ?_)
  refine jg_astore_n hm.1 (i := 1) rfl (Nat.le_of_ble_eq_true rfl) rfl dL_list_79 ?_
  exact k q v f _ _ (by omega) (by omega) hf (Nat.le_trans hl9 (by omega))
theorem l_names {C : JC} (hm : jokT C ML_list 8 300 700000) (hS : jFq (jS C)) (hx : (jS C).2.2.2.1.2.1 ≤ 260) {Q : State → Prop} {cl sl : Nat} {q v : Nat} {u : List Nat} {f : Nat → Int32} (hc : cl + 1 ≤ 300) (hs : sl + 4 ≤ 700000) (k : ∀ (qn : Nat) (cA : ClassId) (g : Nat → Option Nat), va_K (jD C) vwCl (jty (jcs C) ++ [(cA, .object "java/lang/String")]) (js C) → (∀ p, p < 4 → g p = some ((jS C).1 (7 + p))) → jG C (cl + 1) (sl + 4) Q 107 [jR (jS C).2.2.2.1.1 false, jR q false, jR qn false, jI (nI 0)] [] (jStC (jcs C) q v u f ++ [(qn, .inl (cA, 4, .inr (.inr (.inr (.inr g)))))])) : jG C cl sl Q 80 [jR (jS C).2.2.2.1.1 false, jR q false, jU, jU] [] (jStC (jcs C) q v u f) := by
  refine jg_iconst hm.1 (v := 4) (by decide) dL_list_80 ?_
  refine jt_newq hm (N := 4) jw_982 (by decide) (by decide +kernel) (Nat.le_of_ble_eq_true rfl) (by omega) (by omega) dL_list_81 (fun qn cA hK => ?_)
  refine jg_dup hm.1 dL_list_84 ?_
  refine jg_iconst hm.1 (v := 0) (by decide) dL_list_85 ?_
  refine jt_ldcS hm 7 (by decide) rfl rfl dL_list_86 ?_
  refine jt_astq hm hK (i := 7) 2 rfl (by decide) (vp_in_nI (n := 0) (N := 4) (by omega) (by omega)) dL_list_88 ?_
  refine jg_eq (X2 := jStC (jcs C) q v u f ++ [(qn, .inl (cA, 4, .inr (.inr (.inr (.inr (va_up (fun _ => none) (nI 0).toNatClampNeg (some ((jS C).1 7))))))))]) rfl ?_
  refine jg_dup hm.1 dL_list_89 ?_
  refine jg_iconst hm.1 (v := 1) (by decide) dL_list_90 ?_
  refine jt_ldcS hm 8 (by decide) rfl rfl dL_list_91 ?_
  refine jt_astq hm hK (i := 8) 2 rfl (by decide) (vp_in_nI (n := 1) (N := 4) (by omega) (by omega)) dL_list_93 ?_
  refine jg_eq (X2 := jStC (jcs C) q v u f ++ [(qn, .inl (cA, 4, .inr (.inr (.inr (.inr (va_up (va_up (fun _ => none) (nI 0).toNatClampNeg (some ((jS C).1 7))) (nI 1).toNatClampNeg (some ((jS C).1 8))))))))]) rfl ?_
  refine jg_dup hm.1 dL_list_94 ?_
  refine jg_iconst hm.1 (v := 2) (by decide) dL_list_95 ?_
  refine jt_ldcS hm 9 (by decide) rfl rfl dL_list_96 ?_
  refine jt_astq hm hK (i := 9) 2 rfl (by decide) (vp_in_nI (n := 2) (N := 4) (by omega) (by omega)) dL_list_98 ?_
  refine jg_eq (X2 := jStC (jcs C) q v u f ++ [(qn, .inl (cA, 4, .inr (.inr (.inr (.inr (va_up (va_up (va_up (fun _ => none) (nI 0).toNatClampNeg (some ((jS C).1 7))) (nI 1).toNatClampNeg (some ((jS C).1 8))) (nI 2).toNatClampNeg (some ((jS C).1 9))))))))]) rfl ?_
  refine jg_dup hm.1 dL_list_99 ?_
  refine jg_iconst hm.1 (v := 3) (by decide) dL_list_100 ?_
  refine jt_ldcS hm 10 (by decide) rfl rfl dL_list_101 ?_
  refine jt_astq hm hK (i := 10) 2 rfl (by decide) (vp_in_nI (n := 3) (N := 4) (by omega) (by omega)) dL_list_103 ?_
  refine jg_eq (X2 := jStC (jcs C) q v u f ++ [(qn, .inl (cA, 4, .inr (.inr (.inr (.inr (va_up (va_up (va_up (va_up (fun _ => none) (nI 0).toNatClampNeg (some ((jS C).1 7))) (nI 1).toNatClampNeg (some ((jS C).1 8))) (nI 2).toNatClampNeg (some ((jS C).1 9))) (nI 3).toNatClampNeg (some ((jS C).1 10))))))))]) rfl ?_
  refine jg_astore_n hm.1 (i := 2) rfl (Nat.le_of_ble_eq_true rfl) rfl dL_list_104 ?_
  refine jg_iconst hm.1 (v := 0) (by decide) dL_list_105 ?_
  refine jg_istore_n hm.1 (i := 3) rfl (Nat.le_of_ble_eq_true rfl) rfl dL_list_106 ?_
  refine k qn cA _ hK (fun p hp => ?_)
  rcases (show p = 0 ∨ p = 1 ∨ p = 2 ∨ p = 3 by omega) with rfl | rfl | rfl | rfl <;> rfl
theorem l_pipe {C : JC} (hm : jokT C ML_list 8 300 700000) (hS : jFq (jS C)) (hx : (jS C).2.2.2.1.2.1 ≤ 260) {Q : State → Prop} {cl sl : Nat} {u : List Nat} {q v b : Nat} {f : Nat → Int32} (hub : u.length ≤ b) (hb : b ≤ 300) (hua : ∀ x ∈ u, x < 128) (hf : jFt u f) {cA : ClassId} {g : Nat → Option Nat} {qn : Nat} (hK : va_K (jD C) vwCl (jty (jcs C) ++ [(cA, .object "java/lang/String")]) (js C)) (hg : ∀ p, p < 4 → g p = some ((jS C).1 (7 + p))) {p : Nat} (hp : p < 4) (hc : cl + 20 ≤ 300) (hs : sl + 48300 ≤ 700000) (k : ∀ (q v : Nat) (f : Nat → Int32) (cl2 sl2 : Nat), cl2 ≤ cl + 20 → sl2 ≤ sl + 48300 → jFt (kTP (jS C).2.2.2.1 p u) f → (kTP (jS C).2.2.2.1 p u).length ≤ b + 28 → jG C cl2 sl2 Q 107 [jR (jS C).2.2.2.1.1 false, jR q false, jR qn false, jI (nI (p + 1))] [] (jStC (jcs C) q v (kTP (jS C).2.2.2.1 p u) f ++ [(qn, .inl (cA, 4, .inr (.inr (.inr (.inr g)))))])) : jG C cl sl Q 107 [jR (jS C).2.2.2.1.1 false, jR q false, jR qn false, jI (nI p)] [] (jStC (jcs C) q v u f ++ [(qn, .inl (cA, 4, .inr (.inr (.inr (.inr g)))))]) := by
  refine jg_iload_n hm.1 (i := 3) rfl rfl dL_list_107 ?_
  refine jg_iconst hm.1 (v := 4) (by decide) dL_list_108 ?_
  refine jg_icmp_ge hm.1 (tgt := 178) dL_list_109 (by decide) (fun z => absurd z (nI_ge (b := 4) hp (by omega))) (fun _ => ?_)
  refine jl_new hm hS (by omega) (by omega) (by omega) rfl (fun _ => (Nat.le_of_ble_eq_true rfl)) dL_list_112 dL_list_115 dL_list_116 (fun h v0 => ?_)
  refine jg_aload_n hm.1 (i := 1) rfl rfl dL_list_119 ?_
  refine jl_app (B := 0) (u := []) hm hS jBT0 (Nat.le_refl _) hub (by omega) hua (jTa_cell 1 0 rfl rfl hf) (by omega) (by omega) (by omega) rfl (Nat.le_of_ble_eq_true rfl) dL_list_120 (fun v1 m1 f1 hB1 hl1 => ?_)
  refine jl_capp (L := 6) hm hS 11 hB1 hl1 (by decide) rfl rfl (by decide +kernel) (by omega) (by omega) (by omega) (by omega) rfl (Nat.le_of_ble_eq_true rfl) dL_list_123 dL_list_125 (fun v2 m2 f2 hB2 hl2 => ?_)
  refine jg_aload_n hm.1 (i := 2) rfl rfl dL_list_128 ?_
  refine jg_iload_n hm.1 (i := 3) rfl rfl dL_list_129 ?_
  refine jt_aldq hm hK 2 rfl (vp_in_nI hp (by omega)) (by rw [nI_clamp (by omega)]; exact hg p hp) dL_list_130 ?_
  refine jl_app (L := 6) hm hS hB2 hl2 (kname p hp) (by omega) (jkt_ok (7 + p) (by omega)).2.2 (jTa_const (7 + p) (by omega)) (by omega) (by omega) (by omega) rfl (Nat.le_of_ble_eq_true rfl) dL_list_131 (fun v3 m3 f3 hB3 hl3 => ?_)
  refine jl_capp (L := 8) hm hS 12 hB3 hl3 (by decide) rfl rfl (by decide +kernel) (by omega) (by omega) (by omega) (by omega) rfl (Nat.le_of_ble_eq_true rfl) dL_list_134 dL_list_136 (fun v4 m4 f4 hB4 hl4 => ?_)
  refine jg_aload_n hm.1 (i := 0) rfl rfl dL_list_139 ?_
  refine jg_iload_n hm.1 (i := 3) rfl rfl dL_list_140 ?_
  refine jl_pure (as := [jR (jS C).2.2.2.1.1 false, jI (nI p)]) (st := [jR h false]) hm hS (t_long0 (xs := (jS C).2.2.2.1) (o := none) (k := p) (by omega) hx) (by omega) (by omega) (by omega) jw_990 jw_991 jw_46 jw_992 jn_L_long0 rfl rfl (Nat.le_of_ble_eq_true rfl) rfl dL_list_141 ?_
  refine jl_napp hm hS hB4 hl4 (n := 1 + kbl (kcl (jS C).2.2.2.1 (2 + p)) 40) (by have := kbl_lt (kcl (jS C).2.2.2.1 (2 + p)) (show 0 < 40 by omega); omega) (by omega) (by omega) (by omega) (by omega) rfl (Nat.le_of_ble_eq_true rfl) (fun _ => (Nat.le_of_ble_eq_true rfl)) dL_list_144 dL_list_147 (fun v5 m5 f5 hB5 hl5 => ?_)
  refine jg_aload_n hm.1 (i := 0) rfl rfl dL_list_150 ?_
  refine jg_iload_n hm.1 (i := 3) rfl rfl dL_list_151 ?_
  refine jl_pure (as := [jR (jS C).2.2.2.1.1 false, jI (nI p)]) (st := [jR h false]) hm hS (t_isReed (xs := (jS C).2.2.2.1) (o := none) (k := p) (by omega) hx) (by omega) (by omega) (by omega) jw_993 jw_994 jw_46 jw_995 jn_L_isReed rfl rfl (Nat.le_of_ble_eq_true rfl) rfl dL_list_152 ?_
  unfold kTP at k
  by_cases hr : kbl (kcl (jS C).2.2.2.1 (2 + p) >>> (6 &&& 31)) 2 = 1
  · rw [if_pos hr] at k ⊢
    refine jg_if_eq hm.1 (tgt := 163) dL_list_155 (by decide) (fun z => absurd z (by decide)) (fun _ => ?_)
    refine jt_ldcS hm 13 (by decide) rfl rfl dL_list_158 ?_
    refine jg_goto hm.1 (tgt := 165) dL_list_160 (by decide) ?_
    refine jl_app (L := 6) hm hS hB5 hl5 (show (jkt 13).length ≤ 6 by decide +kernel) (by omega) (jkt_ok 13 (by omega)).2.2 (jTa_const 13 (by omega)) (by omega) (by omega) (by omega) rfl (Nat.le_of_ble_eq_true rfl) dL_list_165 (fun v9 m9 f9 hB9 hl9 => ?_)
    refine jl_str hm hS hB9 (by omega) (by omega) (by omega) rfl (Nat.le_of_ble_eq_true rfl) dL_list_168 (fun q8 v8 f8 hf8 => ?_)
    refine jg_sub (X2 := jStC (jcs C) q8 v8 (((((([] ++ u) ++ jkt 11) ++ jkt (7 + p)) ++ jkt 12) ++ kdg (1 + kbl (kcl (jS C).2.2.2.1 (2 + p)) 40)) ++ jkt 13) f8 ++ [(qn, .inl (cA, 4, .inr (.inr (.inr (.inr g)))))]) [3, 4, 2] rfl rfl ?_
    refine jg_astore_n hm.1 (i := 1) rfl (Nat.le_of_ble_eq_true rfl) rfl dL_list_171 ?_
    refine jg_iinc hm.1 (i := 3) rfl (nI_inc _) rfl dL_list_172 ?_
    refine jg_goto hm.1 (tgt := 107) dL_list_175 (by decide) ?_
    exact k q8 v8 f8 _ _ (by omega) (by omega) hf8 (Nat.le_trans hl9 (by omega))
  · rw [if_neg hr] at k ⊢
    refine jg_if_eq hm.1 (tgt := 163) dL_list_155 (by decide) (fun _ => ?_) (fun z => absurd rfl z)
    refine jt_ldcS hm 6 (by decide) rfl rfl dL_list_163 ?_
    refine jl_app (L := 6) hm hS hB5 hl5 (show (jkt 6).length ≤ 6 by decide +kernel) (by omega) (jkt_ok 6 (by omega)).2.2 (jTa_const 6 (by omega)) (by omega) (by omega) (by omega) rfl (Nat.le_of_ble_eq_true rfl) dL_list_165 (fun v9 m9 f9 hB9 hl9 => ?_)
    refine jl_str hm hS hB9 (by omega) (by omega) (by omega) rfl (Nat.le_of_ble_eq_true rfl) dL_list_168 (fun q8 v8 f8 hf8 => ?_)
    refine jg_sub (X2 := jStC (jcs C) q8 v8 (((((([] ++ u) ++ jkt 11) ++ jkt (7 + p)) ++ jkt 12) ++ kdg (1 + kbl (kcl (jS C).2.2.2.1 (2 + p)) 40)) ++ jkt 6) f8 ++ [(qn, .inl (cA, 4, .inr (.inr (.inr (.inr g)))))]) [3, 4, 2] rfl rfl ?_
    refine jg_astore_n hm.1 (i := 1) rfl (Nat.le_of_ble_eq_true rfl) rfl dL_list_171 ?_
    refine jg_iinc hm.1 (i := 3) rfl (nI_inc _) rfl dL_list_172 ?_
    refine jg_goto hm.1 (tgt := 107) dL_list_175 (by decide) ?_
    exact k q8 v8 f8 _ _ (by omega) (by omega) hf8 (Nat.le_trans hl9 (by omega))
theorem l_swell {C : JC} (hm : jokT C ML_list 8 300 700000) (hS : jFq (jS C)) (hx : (jS C).2.2.2.1.2.1 ≤ 260) {Q : State → Prop} {cl sl : Nat} {u : List Nat} {q v b : Nat} {f : Nat → Int32} (hub : u.length ≤ b) (hb : b ≤ 300) (hua : ∀ x ∈ u, x < 128) (hf : jFt u f) {cA : ClassId} {g : Nat → Option Nat} {qn : Nat} (hK : va_K (jD C) vwCl (jty (jcs C) ++ [(cA, .object "java/lang/String")]) (js C)) (hg : ∀ p, p < 4 → g p = some ((jS C).1 (7 + p))) {p : Nat} (hp : p < 2) (hc : cl + 42 ≤ 300) (hs : sl + 96700 ≤ 700000) (k : ∀ (q v : Nat) (f : Nat → Int32) (cl2 sl2 : Nat), cl2 ≤ cl + 42 → sl2 ≤ sl + 96700 → jFt (kTW (jS C).2.2.2.1 p u) f → (kTW (jS C).2.2.2.1 p u).length ≤ b + 34 → jG C cl2 sl2 Q 180 [jR (jS C).2.2.2.1.1 false, jR q false, jR qn false, jI (nI (p + 1))] [] (jStC (jcs C) q v (kTW (jS C).2.2.2.1 p u) f ++ [(qn, .inl (cA, 4, .inr (.inr (.inr (.inr g)))))])) : jG C cl sl Q 180 [jR (jS C).2.2.2.1.1 false, jR q false, jR qn false, jI (nI p)] [] (jStC (jcs C) q v u f ++ [(qn, .inl (cA, 4, .inr (.inr (.inr (.inr g)))))]) := by
  refine jg_iload_n hm.1 (i := 3) rfl rfl dL_list_180 ?_
  refine jg_iconst hm.1 (v := 2) (by decide) dL_list_181 ?_
  refine jg_icmp_ge hm.1 (tgt := 259) dL_list_182 (by decide) (fun z => absurd z (nI_ge (b := 2) hp (by omega))) (fun _ => ?_)
  refine jl_new hm hS (by omega) (by omega) (by omega) rfl (fun _ => (Nat.le_of_ble_eq_true rfl)) dL_list_185 dL_list_188 dL_list_189 (fun h v0 => ?_)
  refine jg_aload_n hm.1 (i := 1) rfl rfl dL_list_192 ?_
  refine jl_app (B := 0) (u := []) hm hS jBT0 (Nat.le_refl _) hub (by omega) hua (jTa_cell 1 0 rfl rfl hf) (by omega) (by omega) (by omega) rfl (Nat.le_of_ble_eq_true rfl) dL_list_193 (fun v1 m1 f1 hB1 hl1 => ?_)
  refine jl_capp (L := 12) hm hS 14 hB1 hl1 (by decide) rfl rfl (by decide +kernel) (by omega) (by omega) (by omega) (by omega) rfl (Nat.le_of_ble_eq_true rfl) dL_list_196 dL_list_198 (fun v2 m2 f2 hB2 hl2 => ?_)
  refine jg_aload_n hm.1 (i := 0) rfl rfl dL_list_201 ?_
  refine jg_iload_n hm.1 (i := 3) rfl rfl dL_list_202 ?_
  refine jl_pure (as := [jR (jS C).2.2.2.1.1 false, jI (nI p)]) (st := [jR h false]) hm hS (t_high (xs := (jS C).2.2.2.1) (o := none) (k := p) (by omega) hx) (by omega) (by omega) (by omega) jw_998 jw_999 jw_46 jw_1000 jn_L_high rfl rfl (Nat.le_of_ble_eq_true rfl) rfl dL_list_203 ?_
  refine jl_napp hm hS hB2 hl2 (n := 1 + kbl (kcl (jS C).2.2.2.1 (6 + p)) 30) (by have := kbl_lt (kcl (jS C).2.2.2.1 (6 + p)) (show 0 < 30 by omega); omega) (by omega) (by omega) (by omega) (by omega) rfl (Nat.le_of_ble_eq_true rfl) (fun _ => (Nat.le_of_ble_eq_true rfl)) dL_list_206 dL_list_209 (fun v3 m3 f3 hB3 hl3 => ?_)
  refine jl_capp (L := 7) hm hS 15 hB3 hl3 (by decide) rfl rfl (by decide +kernel) (by omega) (by omega) (by omega) (by omega) rfl (Nat.le_of_ble_eq_true rfl) dL_list_212 dL_list_214 (fun v4 m4 f4 hB4 hl4 => ?_)
  refine jg_aload_n hm.1 (i := 0) rfl rfl dL_list_217 ?_
  refine jg_iload_n hm.1 (i := 3) rfl rfl dL_list_218 ?_
  refine jl_pure (as := [jR (jS C).2.2.2.1.1 false, jI (nI p)]) (st := [jR h false]) hm hS (t_every (xs := (jS C).2.2.2.1) (o := none) (k := p) (by omega) hx) (by omega) (by omega) (by omega) jw_1002 jw_1003 jw_46 jw_1004 jn_L_every rfl rfl (Nat.le_of_ble_eq_true rfl) rfl dL_list_219 ?_
  refine jl_napp hm hS hB4 hl4 (n := 1 + kbl (kcl (jS C).2.2.2.1 (6 + p) >>> (5 &&& 31)) 6) (by have := kbl_lt (kcl (jS C).2.2.2.1 (6 + p) >>> (5 &&& 31)) (show 0 < 6 by omega); omega) (by omega) (by omega) (by omega) (by omega) rfl (Nat.le_of_ble_eq_true rfl) (fun _ => (Nat.le_of_ble_eq_true rfl)) dL_list_222 dL_list_225 (fun v5 m5 f5 hB5 hl5 => ?_)
  refine jl_capp (L := 6) hm hS 16 hB5 hl5 (by decide) rfl rfl (by decide +kernel) (by omega) (by omega) (by omega) (by omega) rfl (Nat.le_of_ble_eq_true rfl) dL_list_228 dL_list_230 (fun v6 m6 f6 hB6 hl6 => ?_)
  refine jg_aload_n hm.1 (i := 0) rfl rfl dL_list_233 ?_
  refine jg_iload_n hm.1 (i := 3) rfl rfl dL_list_234 ?_
  refine jl_pure (as := [jR (jS C).2.2.2.1.1 false, jI (nI p)]) (st := [jR h false]) hm hS (t_from (xs := (jS C).2.2.2.1) (o := none) (k := p) (by omega) hx) (by omega) (by omega) (by omega) jw_1006 jw_1007 jw_46 jw_1008 jn_L_from rfl rfl (Nat.le_of_ble_eq_true rfl) rfl dL_list_235 ?_
  refine jl_napp hm hS hB6 hl6 (n := kbl (kcl (jS C).2.2.2.1 (6 + p) >>> (9 &&& 31)) 20) (by have := kbl_lt (kcl (jS C).2.2.2.1 (6 + p) >>> (9 &&& 31)) (show 0 < 20 by omega); omega) (by omega) (by omega) (by omega) (by omega) rfl (Nat.le_of_ble_eq_true rfl) (fun _ => (Nat.le_of_ble_eq_true rfl)) dL_list_238 dL_list_241 (fun v7 m7 f7 hB7 hl7 => ?_)
  refine jl_capp (L := 1) hm hS 6 hB7 hl7 (by decide) rfl rfl (by decide +kernel) (by omega) (by omega) (by omega) (by omega) rfl (Nat.le_of_ble_eq_true rfl) dL_list_244 dL_list_246 (fun v8 m8 f8 hB8 hl8 => ?_)
  refine jl_str hm hS hB8 (by omega) (by omega) (by omega) rfl (Nat.le_of_ble_eq_true rfl) dL_list_249 (fun q8 v8 f8 hf8 => ?_)
  refine jg_sub (X2 := jStC (jcs C) q8 v8 (((((((([] ++ u) ++ jkt 14) ++ kdg (1 + kbl (kcl (jS C).2.2.2.1 (6 + p)) 30)) ++ jkt 15) ++ kdg (1 + kbl (kcl (jS C).2.2.2.1 (6 + p) >>> (5 &&& 31)) 6)) ++ jkt 16) ++ kdg (kbl (kcl (jS C).2.2.2.1 (6 + p) >>> (9 &&& 31)) 20)) ++ jkt 6) f8 ++ [(qn, .inl (cA, 4, .inr (.inr (.inr (.inr g)))))]) [3, 4, 2] rfl rfl ?_
  refine jg_astore_n hm.1 (i := 1) rfl (Nat.le_of_ble_eq_true rfl) rfl dL_list_252 ?_
  refine jg_iinc hm.1 (i := 3) rfl (nI_inc _) rfl dL_list_253 ?_
  refine jg_goto hm.1 (tgt := 180) dL_list_256 (by decide) ?_
  exact k q8 v8 f8 _ _ (by omega) (by omega) hf8 (Nat.le_trans hl8 (by omega))
theorem l_sil {C : JC} (hm : jokT C ML_list 8 300 700000) (hS : jFq (jS C)) (hx : (jS C).2.2.2.1.2.1 ≤ 260) {Q : State → Prop} {cl sl : Nat} {u : List Nat} {q v b : Nat} {f : Nat → Int32} (hub : u.length ≤ b) (hb : b ≤ 300) (hua : ∀ x ∈ u, x < 128) (hf : jFt u f) {qn : Nat} {cA : ClassId} {g : Nat → Option Nat} {vn vp : JV} (hc : cl + 30 ≤ 300) (hs : sl + 68500 ≤ 700000) (k : ∀ (q v : Nat) (f : Nat → Int32) (cl2 sl2 : Nat), cl2 ≤ cl + 30 → sl2 ≤ sl + 68500 → jFt (kTS (jS C).2.2.2.1 u) f → (kTS (jS C).2.2.2.1 u).length ≤ b + 60 → jG C cl2 sl2 Q 309 [jR (jS C).2.2.2.1.1 false, jR q false, vn, vp] [] (jStC (jcs C) q v (kTS (jS C).2.2.2.1 u) f)) : jG C cl sl Q 259 [jR (jS C).2.2.2.1.1 false, jR q false, vn, vp] [] (jStC (jcs C) q v u f ++ [(qn, .inl (cA, 4, .inr (.inr (.inr (.inr g)))))]) := by
  refine jl_new hm hS (by omega) (by omega) (by omega) rfl (fun _ => (Nat.le_of_ble_eq_true rfl)) dL_list_259 dL_list_262 dL_list_263 (fun h v0 => ?_)
  refine jg_aload_n hm.1 (i := 1) rfl rfl dL_list_266 ?_
  refine jl_app (B := 0) (u := []) hm hS jBT0 (Nat.le_refl _) hub (by omega) hua (jTa_cell 1 0 rfl rfl hf) (by omega) (by omega) (by omega) rfl (Nat.le_of_ble_eq_true rfl) dL_list_267 (fun v1 m1 f1 hB1 hl1 => ?_)
  refine jl_capp (L := 14) hm hS 17 hB1 hl1 (by decide) rfl rfl (by decide +kernel) (by omega) (by omega) (by omega) (by omega) rfl (Nat.le_of_ble_eq_true rfl) dL_list_270 dL_list_272 (fun v2 m2 f2 hB2 hl2 => ?_)
  refine jg_aload_n hm.1 (i := 0) rfl rfl dL_list_275 ?_
  refine jl_pure (as := [jR (jS C).2.2.2.1.1 false]) (st := [jR h false]) hm hS (t_quietFrom (xs := (jS C).2.2.2.1) (o := none) hx) (by omega) (by omega) (by omega) jw_1010 jw_1011 jw_46 jw_1012 jn_L_quietFrom rfl rfl (Nat.le_of_ble_eq_true rfl) rfl dL_list_276 ?_
  refine jl_napp hm hS hB2 hl2 (n := kbl (kcl (jS C).2.2.2.1 8) 24) (by have := kbl_lt (kcl (jS C).2.2.2.1 8) (show 0 < 24 by omega); omega) (by omega) (by omega) (by omega) (by omega) rfl (Nat.le_of_ble_eq_true rfl) (fun _ => (Nat.le_of_ble_eq_true rfl)) dL_list_279 dL_list_282 (fun v3 m3 f3 hB3 hl3 => ?_)
  refine jl_capp (L := 4) hm hS 18 hB3 hl3 (by decide) rfl rfl (by decide +kernel) (by omega) (by omega) (by omega) (by omega) rfl (Nat.le_of_ble_eq_true rfl) dL_list_285 dL_list_287 (fun v4 m4 f4 hB4 hl4 => ?_)
  refine jg_aload_n hm.1 (i := 0) rfl rfl dL_list_290 ?_
  refine jl_pure (as := [jR (jS C).2.2.2.1.1 false]) (st := [jR h false]) hm hS (t_quietTo (xs := (jS C).2.2.2.1) (o := none) hx) (by omega) (by omega) (by omega) jw_1014 jw_1015 jw_46 jw_1016 jn_L_quietTo rfl rfl (Nat.le_of_ble_eq_true rfl) rfl dL_list_291 ?_
  refine jl_napp hm hS hB4 hl4 (n := kbl (kcl (jS C).2.2.2.1 8 >>> (5 &&& 31)) 24) (by have := kbl_lt (kcl (jS C).2.2.2.1 8 >>> (5 &&& 31)) (show 0 < 24 by omega); omega) (by omega) (by omega) (by omega) (by omega) rfl (Nat.le_of_ble_eq_true rfl) (fun _ => (Nat.le_of_ble_eq_true rfl)) dL_list_294 dL_list_297 (fun v5 m5 f5 hB5 hl5 => ?_)
  refine jl_capp (L := 35) hm hS 19 hB5 hl5 (by decide) rfl rfl (by decide +kernel) (by omega) (by omega) (by omega) (by omega) rfl (Nat.le_of_ble_eq_true rfl) dL_list_300 dL_list_302 (fun v6 m6 f6 hB6 hl6 => ?_)
  refine jl_str hm hS hB6 (by omega) (by omega) (by omega) rfl (Nat.le_of_ble_eq_true rfl) dL_list_305 (fun q8 v8 f8 hf8 => ?_)
  refine jg_sub (X2 := jStC (jcs C) q8 v8 (((((([] ++ u) ++ jkt 17) ++ kdg (kbl (kcl (jS C).2.2.2.1 8) 24)) ++ jkt 18) ++ kdg (kbl (kcl (jS C).2.2.2.1 8 >>> (5 &&& 31)) 24)) ++ jkt 19) f8) [3, 4] rfl rfl ?_
  refine jg_astore_n hm.1 (i := 1) rfl (Nat.le_of_ble_eq_true rfl) rfl dL_list_308 ?_
  exact k q8 v8 f8 _ _ (by omega) (by omega) hf8 (Nat.le_trans hl6 (by omega))
theorem l_fin {C : JC} (hm : jokT C ML_list 8 300 700000) (hS : jFq (jS C)) (hx : (jS C).2.2.2.1.2.1 ≤ 260) {Q : State → Prop} {cl sl : Nat} {u : List Nat} {q v b : Nat} {f : Nat → Int32} (hub : u.length ≤ b) (hb : b ≤ 300) (hua : ∀ x ∈ u, x < 128) (hf : jFt u f) {q9 : Nat} (hq9 : q9 = q) {vn vp : JV} (hc : cl + 30 ≤ 300) (hs : sl + 68500 ≤ 700000) (k : ∀ (q v : Nat) (f : Nat → Int32) (cl2 sl2 : Nat), cl2 ≤ cl + 30 → sl2 ≤ sl + 68500 → jFt (kTF (jS C).2.2.2.1 u) f → (kTF (jS C).2.2.2.1 u).length ≤ b + 126 → jG C cl2 sl2 Q 358 [jR (jS C).2.2.2.1.1 false, jR q9 false, vn, vp] [jR q false] (jStC (jcs C) q v (kTF (jS C).2.2.2.1 u) f)) : jG C cl sl Q 309 [jR (jS C).2.2.2.1.1 false, jR q false, vn, vp] [] (jStC (jcs C) q v u f) := by
  refine jl_new hm hS (by omega) (by omega) (by omega) rfl (fun _ => (Nat.le_of_ble_eq_true rfl)) dL_list_309 dL_list_312 dL_list_313 (fun h v0 => ?_)
  refine jg_aload_n hm.1 (i := 1) rfl rfl dL_list_316 ?_
  refine jl_app (B := 0) (u := []) hm hS jBT0 (Nat.le_refl _) hub (by omega) hua (jTa_cell 1 0 rfl rfl hf) (by omega) (by omega) (by omega) rfl (Nat.le_of_ble_eq_true rfl) dL_list_317 (fun v1 m1 f1 hB1 hl1 => ?_)
  refine jl_capp (L := 27) hm hS 20 hB1 hl1 (by decide) rfl rfl (by decide +kernel) (by omega) (by omega) (by omega) (by omega) rfl (Nat.le_of_ble_eq_true rfl) dL_list_320 dL_list_322 (fun v2 m2 f2 hB2 hl2 => ?_)
  refine jg_aload_n hm.1 (i := 0) rfl rfl dL_list_325 ?_
  refine jl_pure (as := [jR (jS C).2.2.2.1.1 false]) (st := [jR h false]) hm hS (t_mostIn (xs := (jS C).2.2.2.1) (o := none) hx) (by omega) (by omega) (by omega) jw_1019 jw_1020 jw_46 jw_1021 jn_L_mostIn rfl rfl (Nat.le_of_ble_eq_true rfl) rfl dL_list_326 ?_
  refine jl_napp hm hS hB2 hl2 (n := 5 + kbl (kcl (jS C).2.2.2.1 9) 60) (by have := kbl_lt (kcl (jS C).2.2.2.1 9) (show 0 < 60 by omega); omega) (by omega) (by omega) (by omega) (by omega) rfl (Nat.le_of_ble_eq_true rfl) (fun _ => (Nat.le_of_ble_eq_true rfl)) dL_list_329 dL_list_332 (fun v3 m3 f3 hB3 hl3 => ?_)
  refine jl_capp (L := 71) hm hS 21 hB3 hl3 (by decide) rfl rfl (by decide +kernel) (by omega) (by omega) (by omega) (by omega) rfl (Nat.le_of_ble_eq_true rfl) dL_list_335 dL_list_337 (fun v4 m4 f4 hB4 hl4 => ?_)
  refine jg_aload_n hm.1 (i := 0) rfl rfl dL_list_340 ?_
  refine jl_pure (as := [jR (jS C).2.2.2.1.1 false]) (st := [jR h false]) hm hS (t_mostSilt (xs := (jS C).2.2.2.1) (o := none) hx) (by omega) (by omega) (by omega) jw_1023 jw_1024 jw_46 jw_1025 jn_L_mostSilt rfl rfl (Nat.le_of_ble_eq_true rfl) rfl dL_list_341 ?_
  refine jl_napp hm hS hB4 hl4 (n := 1 + kbl (kcl (jS C).2.2.2.1 9 >>> (6 &&& 31)) 20) (by have := kbl_lt (kcl (jS C).2.2.2.1 9 >>> (6 &&& 31)) (show 0 < 20 by omega); omega) (by omega) (by omega) (by omega) (by omega) rfl (Nat.le_of_ble_eq_true rfl) (fun _ => (Nat.le_of_ble_eq_true rfl)) dL_list_344 dL_list_347 (fun v5 m5 f5 hB5 hl5 => ?_)
  refine jl_capp (L := 24) hm hS 22 hB5 hl5 (by decide) rfl rfl (by decide +kernel) (by omega) (by omega) (by omega) (by omega) rfl (Nat.le_of_ble_eq_true rfl) dL_list_350 dL_list_352 (fun v6 m6 f6 hB6 hl6 => ?_)

  refine jl_str hm hS hB6 (by omega) (by omega) (by omega) rfl (Nat.le_of_ble_eq_true rfl) dL_list_355 (fun q8 v8 f8 hf8 => ?_)
  refine jg_sub (X2 := jStC (jcs C) q8 v8 (((((([] ++ u) ++ jkt 20) ++ kdg (5 + kbl (kcl (jS C).2.2.2.1 9) 60)) ++ jkt 21) ++ kdg (1 + kbl (kcl (jS C).2.2.2.1 9 >>> (6 &&& 31)) 20)) ++ jkt 22) f8) [2, 3] rfl rfl ?_
  subst hq9
  exact k q8 v8 f8 _ _ (by omega) (by omega) hf8 (Nat.le_trans hl6 (by omega))
/-- the text of the list -/
def kList (xs : JS0) : List Nat := kTF xs (kTS xs (kTW xs 1 (kTW xs 0 (kTP xs 3 (kTP xs 2 (kTP xs 1 (kTP xs 0 (kTA xs))))))))
theorem kList_asc (xs : JS0) : ∀ x ∈ kList xs, x < 128 := kTF_asc xs (kTS_asc xs (kTW_asc xs 1 (kTW_asc xs 0 (kTP_asc xs (by omega) (kTP_asc xs (by omega) (kTP_asc xs (by omega) (kTP_asc xs (by omega) (kTA_asc xs))))))))
theorem t_list {xs : JS0} {o : Option (Nat × (Nat × List Nat))} (hx : xs.2.1 ≤ 260) : jSG ML_list 8 300 700000 [jR xs.1 false] (xs, o) (fun _ => []) (fun cs r X => ∃ (q v : Nat) (f : Nat → Int32), r = jR q false ∧ X = jStC cs q v (kList xs) f ∧ jFt (kList xs) f ∧ (kList xs).length ≤ 420) := by
  refine jSG_of jp_L_list rfl (Nat.le_of_ble_eq_true rfl) (fun C hm hS hi => ?_)
  have hT := jsx_t hS.1
  have hX := (jsx_x hS.1).symm
  subst hX
  refine l_segA hm hS.2 hx (cl := 0) (sl := 0) (by omega) (by omega) (fun q1 v1 f1 cl1 sl1 c1 s1 g1 b1 => ?_)
  refine l_names hm hS.2 hx (by omega) (by omega) (fun qn cA g hK hg => ?_)
  refine l_pipe (p := 0) hm hS.2 hx b1 (by omega) (kTA_asc _) g1 hK hg (by omega) (by omega) (by omega) (fun q2 v2 f2 cl2 sl2 c2 s2 g2 b2 => ?_)
  refine l_pipe (p := 1) hm hS.2 hx b2 (by omega) (kTP_asc _ (by omega) (kTA_asc _)) g2 hK hg (by omega) (by omega) (by omega) (fun q3 v3 f3 cl3 sl3 c3 s3 g3 b3 => ?_)
  refine l_pipe (p := 2) hm hS.2 hx b3 (by omega) (kTP_asc _ (by omega) (kTP_asc _ (by omega) (kTA_asc _))) g3 hK hg (by omega) (by omega) (by omega) (fun q4 v4 f4 cl4 sl4 c4 s4 g4 b4 => ?_)
  refine l_pipe (p := 3) hm hS.2 hx b4 (by omega) (kTP_asc _ (by omega) (kTP_asc _ (by omega) (kTP_asc _ (by omega) (kTA_asc _)))) g4 hK hg (by omega) (by omega) (by omega) (fun q5 v5 f5 cl5 sl5 c5 s5 g5 b5 => ?_)
  have a5 := kTP_asc (jS C).2.2.2.1 (p := 3) (by omega) (kTP_asc (jS C).2.2.2.1 (p := 2) (by omega) (kTP_asc (jS C).2.2.2.1 (p := 1) (by omega) (kTP_asc (jS C).2.2.2.1 (p := 0) (by omega) (kTA_asc (jS C).2.2.2.1))))
  refine jg_iload_n hm.1 (i := 3) rfl rfl dL_list_107 ?_
  refine jg_iconst hm.1 (v := 4) (by decide) dL_list_108 ?_
  refine jg_icmp_ge hm.1 (tgt := 178) dL_list_109 (by decide) (fun _ => ?_) (fun z => absurd (by decide) z)
  refine jg_iconst hm.1 (v := 0) (by decide) dL_list_178 ?_
  refine jg_istore_n hm.1 (i := 3) rfl (Nat.le_of_ble_eq_true rfl) rfl dL_list_179 ?_
  refine l_swell (p := 0) hm hS.2 hx b5 (by omega) a5 g5 hK hg (by omega) (by omega) (by omega) (fun q6 v6 f6 cl6 sl6 c6 s6 g6 b6 => ?_)
  refine l_swell (p := 1) hm hS.2 hx b6 (by omega) (kTW_asc _ _ a5) g6 hK hg (by omega) (by omega) (by omega) (fun q7 v7 f7 cl7 sl7 c7 s7 g7 b7 => ?_)
  refine jg_iload_n hm.1 (i := 3) rfl rfl dL_list_180 ?_
  refine jg_iconst hm.1 (v := 2) (by decide) dL_list_181 ?_
  refine jg_icmp_ge hm.1 (tgt := 259) dL_list_182 (by decide) (fun _ => ?_) (fun z => absurd (by decide) z)
  refine l_sil hm hS.2 hx b7 (by omega) (kTW_asc _ _ (kTW_asc _ _ a5)) g7 (by omega) (by omega) (fun q8 v8 f8 cl8 sl8 c8 s8 g8 b8 => ?_)
  refine l_fin hm hS.2 hx b8 (by omega) (kTS_asc _ (kTW_asc _ _ (kTW_asc _ _ a5))) g8 rfl (by omega) (by omega) (fun q9 v9 f9 cl9 sl9 c9 s9 g9 b9 => ?_)
  exact jt_aret hm rfl (Or.inl ⟨_, rfl⟩) (by omega) (by omega) dL_list_358 ⟨q9, v9, f9, rfl, rfl, g9, Nat.le_trans b9 (by omega)⟩

