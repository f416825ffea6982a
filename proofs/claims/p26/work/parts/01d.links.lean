theorem il_RL_11 : ILink RL 11 yX4_init := ⟨tg 33 (by decide +kernel) (by decide +kernel), tg 34 (by decide +kernel) (by decide +kernel), tg 24 (by decide +kernel) (by decide +kernel)⟩
theorem ol_RX4_1 : Cond.methodLink RX4 1 objectInit ∈ TG := tg 36 (by decide +kernel) (by decide +kernel)
theorem il_RX4_9 : ILink RX4 9 yX1_init := ⟨tg 41 (by decide +kernel) (by decide +kernel), tg 42 (by decide +kernel) (by decide +kernel), tg 25 (by decide +kernel) (by decide +kernel)⟩
theorem ol_RX1_5 : Cond.methodLink RX1 5 objectInit ∈ TG := tg 44 (by decide +kernel) (by decide +kernel)
theorem il_RX1_13 : ILink RX1 13 yX3_init := ⟨tg 47 (by decide +kernel) (by decide +kernel), tg 48 (by decide +kernel) (by decide +kernel), tg 26 (by decide +kernel) (by decide +kernel)⟩
theorem ol_RX3_3 : Cond.methodLink RX3 3 objectInit ∈ TG := tg 50 (by decide +kernel) (by decide +kernel)
theorem jl_RX3_18 : Cond.methodLink RX3 18 Lib.Math.max.name ∈ TG := tg 51 (by decide +kernel) (by decide +kernel)
theorem vl_RX1_32 : VLink RX1 32 yX3_append := ⟨tg 68 (by decide +kernel) (by decide +kernel), tg 69 (by decide +kernel) (by decide +kernel), tg 70 (by decide +kernel) (by decide +kernel), tg 26 (by decide +kernel) (by decide +kernel)⟩
theorem vl_RX3_38 : VLink RX3 38 yX3_isFull := ⟨tg 72 (by decide +kernel) (by decide +kernel), tg 73 (by decide +kernel) (by decide +kernel), tg 74 (by decide +kernel) (by decide +kernel), tg 26 (by decide +kernel) (by decide +kernel)⟩
theorem vl_RX3_34 : VLink RX3 34 yX3_write := ⟨tg 76 (by decide +kernel) (by decide +kernel), tg 77 (by decide +kernel) (by decide +kernel), tg 78 (by decide +kernel) (by decide +kernel), tg 26 (by decide +kernel) (by decide +kernel)⟩
theorem vl_RX1_36 : VLink RX1 36 yX3_write := ⟨tg 80 (by decide +kernel) (by decide +kernel), tg 77 (by decide +kernel) (by decide +kernel), tg 78 (by decide +kernel) (by decide +kernel), tg 26 (by decide +kernel) (by decide +kernel)⟩
theorem il_RX4_21 : ILink RX4 21 yX0_init := ⟨tg 120 (by decide +kernel) (by decide +kernel), tg 121 (by decide +kernel) (by decide +kernel), tg 28 (by decide +kernel) (by decide +kernel)⟩
theorem ol_RX0_1 : Cond.methodLink RX0 1 objectInit ∈ TG := tg 123 (by decide +kernel) (by decide +kernel)
theorem il_RX0_15 : ILink RX0 15 yX1_init := ⟨tg 126 (by decide +kernel) (by decide +kernel), tg 42 (by decide +kernel) (by decide +kernel), tg 25 (by decide +kernel) (by decide +kernel)⟩
theorem il_RX4_28 : ILink RX4 28 yX2_init := ⟨tg 137 (by decide +kernel) (by decide +kernel), tg 138 (by decide +kernel) (by decide +kernel), tg 29 (by decide +kernel) (by decide +kernel)⟩
theorem ol_RX2_3 : Cond.methodLink RX2 3 objectInit ∈ TG := tg 140 (by decide +kernel) (by decide +kernel)
theorem il_RX2_17 : ILink RX2 17 yX3_init := ⟨tg 142 (by decide +kernel) (by decide +kernel), tg 48 (by decide +kernel) (by decide +kernel), tg 26 (by decide +kernel) (by decide +kernel)⟩
theorem vl_RL_29 : VLink RL 29 yX4_resident := ⟨tg 169 (by decide +kernel) (by decide +kernel), tg 170 (by decide +kernel) (by decide +kernel), tg 171 (by decide +kernel) (by decide +kernel), tg 24 (by decide +kernel) (by decide +kernel)⟩
theorem sl_RX4_33 : SLink RX4 33 yX4_isWeight := ⟨tg 173 (by decide +kernel) (by decide +kernel), tg 174 (by decide +kernel) (by decide +kernel), tg 24 (by decide +kernel) (by decide +kernel)⟩
theorem sl_RX4_62 : SLink RX4 62 yX4_isIn := ⟨tg 176 (by decide +kernel) (by decide +kernel), tg 177 (by decide +kernel) (by decide +kernel), tg 24 (by decide +kernel) (by decide +kernel)⟩
theorem vl_RX4_41 : VLink RX4 41 yX3_isFull := ⟨tg 179 (by decide +kernel) (by decide +kernel), tg 73 (by decide +kernel) (by decide +kernel), tg 74 (by decide +kernel) (by decide +kernel), tg 26 (by decide +kernel) (by decide +kernel)⟩
theorem vl_RX4_47 : VLink RX4 47 yX0_keep := ⟨tg 180 (by decide +kernel) (by decide +kernel), tg 181 (by decide +kernel) (by decide +kernel), tg 182 (by decide +kernel) (by decide +kernel), tg 28 (by decide +kernel) (by decide +kernel)⟩
theorem vl_RX0_20 : VLink RX0 20 yX0_dropOldest := ⟨tg 184 (by decide +kernel) (by decide +kernel), tg 186 (by decide +kernel) (by decide +kernel), tg 0 (by decide +kernel) (by decide +kernel), tg 28 (by decide +kernel) (by decide +kernel)⟩
theorem vl_RX0_23 : VLink RX0 23 yX0_stateAt := ⟨tg 188 (by decide +kernel) (by decide +kernel), tg 190 (by decide +kernel) (by decide +kernel), tg 1 (by decide +kernel) (by decide +kernel), tg 28 (by decide +kernel) (by decide +kernel)⟩
theorem vl_RX0_27 : VLink RX0 27 yX1_copyFrom := ⟨tg 192 (by decide +kernel) (by decide +kernel), tg 193 (by decide +kernel) (by decide +kernel), tg 194 (by decide +kernel) (by decide +kernel), tg 25 (by decide +kernel) (by decide +kernel)⟩
theorem vl_RX1_40 : VLink RX1 40 yX3_copyFrom := ⟨tg 196 (by decide +kernel) (by decide +kernel), tg 197 (by decide +kernel) (by decide +kernel), tg 198 (by decide +kernel) (by decide +kernel), tg 26 (by decide +kernel) (by decide +kernel)⟩
theorem jl_RX3_46 : Cond.methodLink RX3 46 Lib.Math.min.name ∈ TG := tg 200 (by decide +kernel) (by decide +kernel)
theorem jl_RX3_49 : Cond.methodLink RX3 49 arraycopyName ∈ TG := tg 203 (by decide +kernel) (by decide +kernel)
theorem vl_RX4_51 : VLink RX4 51 yX1_addResident := ⟨tg 206 (by decide +kernel) (by decide +kernel), tg 207 (by decide +kernel) (by decide +kernel), tg 208 (by decide +kernel) (by decide +kernel), tg 25 (by decide +kernel) (by decide +kernel)⟩
theorem vl_RL_33 : VLink RL 33 yX4_area := ⟨tg 210 (by decide +kernel) (by decide +kernel), tg 211 (by decide +kernel) (by decide +kernel), tg 212 (by decide +kernel) (by decide +kernel), tg 24 (by decide +kernel) (by decide +kernel)⟩
theorem vl_RX4_80 : VLink RX4 80 yX1_addArea := ⟨tg 214 (by decide +kernel) (by decide +kernel), tg 215 (by decide +kernel) (by decide +kernel), tg 216 (by decide +kernel) (by decide +kernel), tg 25 (by decide +kernel) (by decide +kernel)⟩
theorem vl_RL_26 : VLink RL 26 yX4_set := ⟨tg 218 (by decide +kernel) (by decide +kernel), tg 219 (by decide +kernel) (by decide +kernel), tg 220 (by decide +kernel) (by decide +kernel), tg 24 (by decide +kernel) (by decide +kernel)⟩
theorem sl_RX4_83 : SLink RX4 83 yX4_isSettingValue := ⟨tg 222 (by decide +kernel) (by decide +kernel), tg 223 (by decide +kernel) (by decide +kernel), tg 24 (by decide +kernel) (by decide +kernel)⟩
theorem vl_RX4_58 : VLink RX4 58 yX3_exchange := ⟨tg 225 (by decide +kernel) (by decide +kernel), tg 226 (by decide +kernel) (by decide +kernel), tg 227 (by decide +kernel) (by decide +kernel), tg 26 (by decide +kernel) (by decide +kernel)⟩
theorem vl_RX3_31 : VLink RX3 31 yX3_cell := ⟨tg 229 (by decide +kernel) (by decide +kernel), tg 230 (by decide +kernel) (by decide +kernel), tg 231 (by decide +kernel) (by decide +kernel), tg 26 (by decide +kernel) (by decide +kernel)⟩
theorem sl_RL_12 : SLink RL 12 yL_cell := ⟨tg 233 (by decide +kernel) (by decide +kernel), tg 234 (by decide +kernel) (by decide +kernel), tg 23 (by decide +kernel) (by decide +kernel)⟩
theorem sl_RL_22 : SLink RL 22 yL_up := ⟨tg 237 (by decide +kernel) (by decide +kernel), tg 238 (by decide +kernel) (by decide +kernel), tg 23 (by decide +kernel) (by decide +kernel)⟩
theorem sl_RL_37 : SLink RL 37 yL_act := ⟨tg 241 (by decide +kernel) (by decide +kernel), tg 242 (by decide +kernel) (by decide +kernel), tg 23 (by decide +kernel) (by decide +kernel)⟩
theorem vl_RL_60 : VLink RL 60 yX4_count := ⟨tg 244 (by decide +kernel) (by decide +kernel), tg 245 (by decide +kernel) (by decide +kernel), tg 246 (by decide +kernel) (by decide +kernel), tg 24 (by decide +kernel) (by decide +kernel)⟩
theorem vl_RX4_157 : VLink RX4 157 yX3_size := ⟨tg 248 (by decide +kernel) (by decide +kernel), tg 249 (by decide +kernel) (by decide +kernel), tg 250 (by decide +kernel) (by decide +kernel), tg 26 (by decide +kernel) (by decide +kernel)⟩
theorem vl_RX4_160 : VLink RX4 160 yX1_countOpenTasks := ⟨tg 252 (by decide +kernel) (by decide +kernel), tg 253 (by decide +kernel) (by decide +kernel), tg 254 (by decide +kernel) (by decide +kernel), tg 25 (by decide +kernel) (by decide +kernel)⟩
theorem vl_RX1_66 : VLink RX1 66 yX3_size := ⟨tg 256 (by decide +kernel) (by decide +kernel), tg 249 (by decide +kernel) (by decide +kernel), tg 250 (by decide +kernel) (by decide +kernel), tg 26 (by decide +kernel) (by decide +kernel)⟩
theorem vl_RX1_124 : VLink RX1 124 yX1_isOpen := ⟨tg 257 (by decide +kernel) (by decide +kernel), tg 258 (by decide +kernel) (by decide +kernel), tg 259 (by decide +kernel) (by decide +kernel), tg 25 (by decide +kernel) (by decide +kernel)⟩
theorem vl_RX1_121 : VLink RX1 121 yX3_has := ⟨tg 261 (by decide +kernel) (by decide +kernel), tg 262 (by decide +kernel) (by decide +kernel), tg 263 (by decide +kernel) (by decide +kernel), tg 26 (by decide +kernel) (by decide +kernel)⟩
theorem vl_RX1_58 : VLink RX1 58 yX3_cell := ⟨tg 265 (by decide +kernel) (by decide +kernel), tg 230 (by decide +kernel) (by decide +kernel), tg 231 (by decide +kernel) (by decide +kernel), tg 26 (by decide +kernel) (by decide +kernel)⟩
theorem sl_RX4_73 : SLink RX4 73 yX4_bit := ⟨tg 269 (by decide +kernel) (by decide +kernel), tg 267 (by decide +kernel) (by decide +kernel), tg 24 (by decide +kernel) (by decide +kernel)⟩
theorem vl_RX4_169 : VLink RX4 169 yX1_spread := ⟨tg 270 (by decide +kernel) (by decide +kernel), tg 271 (by decide +kernel) (by decide +kernel), tg 272 (by decide +kernel) (by decide +kernel), tg 25 (by decide +kernel) (by decide +kernel)⟩
theorem vl_RX1_170 : VLink RX1 170 yX1_spreadOf := ⟨tg 274 (by decide +kernel) (by decide +kernel), tg 276 (by decide +kernel) (by decide +kernel), tg 2 (by decide +kernel) (by decide +kernel), tg 25 (by decide +kernel) (by decide +kernel)⟩
theorem vl_RX1_118 : VLink RX1 118 yX1_loadOf := ⟨tg 278 (by decide +kernel) (by decide +kernel), tg 279 (by decide +kernel) (by decide +kernel), tg 280 (by decide +kernel) (by decide +kernel), tg 25 (by decide +kernel) (by decide +kernel)⟩
theorem vl_RX1_174 : VLink RX1 174 yX1_rateOf := ⟨tg 282 (by decide +kernel) (by decide +kernel), tg 283 (by decide +kernel) (by decide +kernel), tg 284 (by decide +kernel) (by decide +kernel), tg 25 (by decide +kernel) (by decide +kernel)⟩
theorem jl_RX1_146 : Cond.methodLink RX1 146 Lib.Math.min.name ∈ TG := tg 286 (by decide +kernel) (by decide +kernel)
theorem jl_RX1_69 : Cond.methodLink RX1 69 Lib.Math.max.name ∈ TG := tg 287 (by decide +kernel) (by decide +kernel)
theorem vl_RX4_172 : VLink RX4 172 yX1_plannedSpread := ⟨tg 288 (by decide +kernel) (by decide +kernel), tg 289 (by decide +kernel) (by decide +kernel), tg 290 (by decide +kernel) (by decide +kernel), tg 25 (by decide +kernel) (by decide +kernel)⟩
theorem vl_RX4_107 : VLink RX4 107 yX3_cell := ⟨tg 292 (by decide +kernel) (by decide +kernel), tg 230 (by decide +kernel) (by decide +kernel), tg 231 (by decide +kernel) (by decide +kernel), tg 26 (by decide +kernel) (by decide +kernel)⟩
theorem sl_RL_63 : SLink RL 63 yL_plans := ⟨tg 293 (by decide +kernel) (by decide +kernel), tg 294 (by decide +kernel) (by decide +kernel), tg 23 (by decide +kernel) (by decide +kernel)⟩
theorem vl_RL_101 : VLink RL 101 yX4_plan := ⟨tg 296 (by decide +kernel) (by decide +kernel), tg 297 (by decide +kernel) (by decide +kernel), tg 298 (by decide +kernel) (by decide +kernel), tg 24 (by decide +kernel) (by decide +kernel)⟩
theorem vl_RX4_94 : VLink RX4 94 yX1_planWeek := ⟨tg 300 (by decide +kernel) (by decide +kernel), tg 301 (by decide +kernel) (by decide +kernel), tg 302 (by decide +kernel) (by decide +kernel), tg 25 (by decide +kernel) (by decide +kernel)⟩
theorem vl_RX1_77 : VLink RX1 77 yX1_leastLoaded := ⟨tg 304 (by decide +kernel) (by decide +kernel), tg 306 (by decide +kernel) (by decide +kernel), tg 3 (by decide +kernel) (by decide +kernel), tg 25 (by decide +kernel) (by decide +kernel)⟩
theorem vl_RX1_111 : VLink RX1 111 yX1_isAway := ⟨tg 308 (by decide +kernel) (by decide +kernel), tg 309 (by decide +kernel) (by decide +kernel), tg 310 (by decide +kernel) (by decide +kernel), tg 25 (by decide +kernel) (by decide +kernel)⟩
theorem vl_RX1_114 : VLink RX1 114 yX1_goesAhead := ⟨tg 313 (by decide +kernel) (by decide +kernel), tg 315 (by decide +kernel) (by decide +kernel), tg 4 (by decide +kernel) (by decide +kernel), tg 25 (by decide +kernel) (by decide +kernel)⟩
theorem vl_RX1_81 : VLink RX1 81 yX1_makeTasks := ⟨tg 317 (by decide +kernel) (by decide +kernel), tg 319 (by decide +kernel) (by decide +kernel), tg 5 (by decide +kernel) (by decide +kernel), tg 25 (by decide +kernel) (by decide +kernel)⟩
theorem vl_RX1_87 : VLink RX1 87 yX1_areaOfNextTask := ⟨tg 321 (by decide +kernel) (by decide +kernel), tg 323 (by decide +kernel) (by decide +kernel), tg 6 (by decide +kernel) (by decide +kernel), tg 25 (by decide +kernel) (by decide +kernel)⟩
theorem vl_RX1_90 : VLink RX1 90 yX1_effortOfTask := ⟨tg 325 (by decide +kernel) (by decide +kernel), tg 327 (by decide +kernel) (by decide +kernel), tg 7 (by decide +kernel) (by decide +kernel), tg 25 (by decide +kernel) (by decide +kernel)⟩
theorem vl_RX1_93 : VLink RX1 93 yX1_needsDeepClean := ⟨tg 329 (by decide +kernel) (by decide +kernel), tg 330 (by decide +kernel) (by decide +kernel), tg 331 (by decide +kernel) (by decide +kernel), tg 25 (by decide +kernel) (by decide +kernel)⟩
theorem vl_RX1_101 : VLink RX1 101 yX1_isDue := ⟨tg 333 (by decide +kernel) (by decide +kernel), tg 334 (by decide +kernel) (by decide +kernel), tg 335 (by decide +kernel) (by decide +kernel), tg 25 (by decide +kernel) (by decide +kernel)⟩
theorem vl_RX1_97 : VLink RX1 97 yX1_addTask := ⟨tg 337 (by decide +kernel) (by decide +kernel), tg 339 (by decide +kernel) (by decide +kernel), tg 8 (by decide +kernel) (by decide +kernel), tg 25 (by decide +kernel) (by decide +kernel)⟩
theorem vl_RX1_84 : VLink RX1 84 yX1_giveTasks := ⟨tg 341 (by decide +kernel) (by decide +kernel), tg 343 (by decide +kernel) (by decide +kernel), tg 9 (by decide +kernel) (by decide +kernel), tg 25 (by decide +kernel) (by decide +kernel)⟩
theorem vl_RX1_108 : VLink RX1 108 yX1_hasTwinAhead := ⟨tg 345 (by decide +kernel) (by decide +kernel), tg 347 (by decide +kernel) (by decide +kernel), tg 10 (by decide +kernel) (by decide +kernel), tg 25 (by decide +kernel) (by decide +kernel)⟩
theorem vl_RX1_74 : VLink RX1 74 yX3_increase := ⟨tg 349 (by decide +kernel) (by decide +kernel), tg 350 (by decide +kernel) (by decide +kernel), tg 351 (by decide +kernel) (by decide +kernel), tg 26 (by decide +kernel) (by decide +kernel)⟩
theorem vl_RL_98 : VLink RL 98 yX4_about := ⟨tg 353 (by decide +kernel) (by decide +kernel), tg 354 (by decide +kernel) (by decide +kernel), tg 355 (by decide +kernel) (by decide +kernel), tg 24 (by decide +kernel) (by decide +kernel)⟩
theorem vl_RX4_55 : VLink RX4 55 yX3_has := ⟨tg 357 (by decide +kernel) (by decide +kernel), tg 262 (by decide +kernel) (by decide +kernel), tg 263 (by decide +kernel) (by decide +kernel), tg 26 (by decide +kernel) (by decide +kernel)⟩
theorem vl_RX4_139 : VLink RX4 139 yX1_loadOf := ⟨tg 358 (by decide +kernel) (by decide +kernel), tg 279 (by decide +kernel) (by decide +kernel), tg 280 (by decide +kernel) (by decide +kernel), tg 25 (by decide +kernel) (by decide +kernel)⟩
theorem vl_RX4_142 : VLink RX4 142 yX1_rateOf := ⟨tg 359 (by decide +kernel) (by decide +kernel), tg 283 (by decide +kernel) (by decide +kernel), tg 284 (by decide +kernel) (by decide +kernel), tg 25 (by decide +kernel) (by decide +kernel)⟩
theorem vl_RX4_145 : VLink RX4 145 yX1_countOpenTasksOf := ⟨tg 360 (by decide +kernel) (by decide +kernel), tg 361 (by decide +kernel) (by decide +kernel), tg 362 (by decide +kernel) (by decide +kernel), tg 25 (by decide +kernel) (by decide +kernel)⟩
theorem vl_RX1_127 : VLink RX1 127 yX1_isOpenTaskOf := ⟨tg 364 (by decide +kernel) (by decide +kernel), tg 365 (by decide +kernel) (by decide +kernel), tg 366 (by decide +kernel) (by decide +kernel), tg 25 (by decide +kernel) (by decide +kernel)⟩
theorem vl_RX4_148 : VLink RX4 148 yX1_firstOpenTaskOf := ⟨tg 368 (by decide +kernel) (by decide +kernel), tg 369 (by decide +kernel) (by decide +kernel), tg 370 (by decide +kernel) (by decide +kernel), tg 25 (by decide +kernel) (by decide +kernel)⟩
theorem vl_RX4_70 : VLink RX4 70 yX1_isAway := ⟨tg 372 (by decide +kernel) (by decide +kernel), tg 309 (by decide +kernel) (by decide +kernel), tg 310 (by decide +kernel) (by decide +kernel), tg 25 (by decide +kernel) (by decide +kernel)⟩
theorem vl_RL_104 : VLink RL 104 yX4_room := ⟨tg 373 (by decide +kernel) (by decide +kernel), tg 374 (by decide +kernel) (by decide +kernel), tg 375 (by decide +kernel) (by decide +kernel), tg 24 (by decide +kernel) (by decide +kernel)⟩
theorem vl_RX4_151 : VLink RX4 151 yX1_needsDeepClean := ⟨tg 377 (by decide +kernel) (by decide +kernel), tg 330 (by decide +kernel) (by decide +kernel), tg 331 (by decide +kernel) (by decide +kernel), tg 25 (by decide +kernel) (by decide +kernel)⟩
theorem vl_RX4_154 : VLink RX4 154 yX1_isDue := ⟨tg 378 (by decide +kernel) (by decide +kernel), tg 334 (by decide +kernel) (by decide +kernel), tg 335 (by decide +kernel) (by decide +kernel), tg 25 (by decide +kernel) (by decide +kernel)⟩
theorem vl_RL_107 : VLink RL 107 yX4_task := ⟨tg 379 (by decide +kernel) (by decide +kernel), tg 380 (by decide +kernel) (by decide +kernel), tg 381 (by decide +kernel) (by decide +kernel), tg 24 (by decide +kernel) (by decide +kernel)⟩
theorem vl_RL_66 : VLink RL 66 yX4_done := ⟨tg 383 (by decide +kernel) (by decide +kernel), tg 384 (by decide +kernel) (by decide +kernel), tg 385 (by decide +kernel) (by decide +kernel), tg 24 (by decide +kernel) (by decide +kernel)⟩
theorem vl_RX4_101 : VLink RX4 101 yX1_isOpen := ⟨tg 387 (by decide +kernel) (by decide +kernel), tg 258 (by decide +kernel) (by decide +kernel), tg 259 (by decide +kernel) (by decide +kernel), tg 25 (by decide +kernel) (by decide +kernel)⟩
theorem vl_RX4_104 : VLink RX4 104 yX1_finish := ⟨tg 388 (by decide +kernel) (by decide +kernel), tg 389 (by decide +kernel) (by decide +kernel), tg 390 (by decide +kernel) (by decide +kernel), tg 25 (by decide +kernel) (by decide +kernel)⟩
theorem vl_RX1_130 : VLink RX1 130 yX1_isTwinOpen := ⟨tg 392 (by decide +kernel) (by decide +kernel), tg 394 (by decide +kernel) (by decide +kernel), tg 11 (by decide +kernel) (by decide +kernel), tg 25 (by decide +kernel) (by decide +kernel)⟩
theorem vl_RX1_133 : VLink RX1 133 yX1_clean := ⟨tg 396 (by decide +kernel) (by decide +kernel), tg 398 (by decide +kernel) (by decide +kernel), tg 12 (by decide +kernel) (by decide +kernel), tg 25 (by decide +kernel) (by decide +kernel)⟩
theorem vl_RX1_137 : VLink RX1 137 yX1_dropSwapsWith := ⟨tg 400 (by decide +kernel) (by decide +kernel), tg 402 (by decide +kernel) (by decide +kernel), tg 13 (by decide +kernel) (by decide +kernel), tg 25 (by decide +kernel) (by decide +kernel)⟩
theorem vl_RX1_164 : VLink RX1 164 yX3_remove := ⟨tg 404 (by decide +kernel) (by decide +kernel), tg 405 (by decide +kernel) (by decide +kernel), tg 406 (by decide +kernel) (by decide +kernel), tg 26 (by decide +kernel) (by decide +kernel)⟩
theorem vl_RX3_42 : VLink RX3 42 yX3_has := ⟨tg 408 (by decide +kernel) (by decide +kernel), tg 262 (by decide +kernel) (by decide +kernel), tg 263 (by decide +kernel) (by decide +kernel), tg 26 (by decide +kernel) (by decide +kernel)⟩
theorem sl_RL_69 : SLink RL 69 yL_does := ⟨tg 409 (by decide +kernel) (by decide +kernel), tg 410 (by decide +kernel) (by decide +kernel), tg 23 (by decide +kernel) (by decide +kernel)⟩
theorem vl_RL_110 : VLink RL 110 yX4_swap := ⟨tg 412 (by decide +kernel) (by decide +kernel), tg 413 (by decide +kernel) (by decide +kernel), tg 414 (by decide +kernel) (by decide +kernel), tg 24 (by decide +kernel) (by decide +kernel)⟩
theorem vl_RL_72 : VLink RL 72 yX4_end := ⟨tg 416 (by decide +kernel) (by decide +kernel), tg 417 (by decide +kernel) (by decide +kernel), tg 418 (by decide +kernel) (by decide +kernel), tg 24 (by decide +kernel) (by decide +kernel)⟩
theorem vl_RX4_118 : VLink RX4 118 yX1_endWeek := ⟨tg 420 (by decide +kernel) (by decide +kernel), tg 421 (by decide +kernel) (by decide +kernel), tg 422 (by decide +kernel) (by decide +kernel), tg 25 (by decide +kernel) (by decide +kernel)⟩
theorem vl_RX1_149 : VLink RX1 149 yX1_countOpenTasks := ⟨tg 424 (by decide +kernel) (by decide +kernel), tg 253 (by decide +kernel) (by decide +kernel), tg 254 (by decide +kernel) (by decide +kernel), tg 25 (by decide +kernel) (by decide +kernel)⟩
theorem vl_RX1_152 : VLink RX1 152 yX1_skip := ⟨tg 425 (by decide +kernel) (by decide +kernel), tg 427 (by decide +kernel) (by decide +kernel), tg 14 (by decide +kernel) (by decide +kernel), tg 25 (by decide +kernel) (by decide +kernel)⟩
theorem vl_RX1_155 : VLink RX1 155 yX3_clear := ⟨tg 429 (by decide +kernel) (by decide +kernel), tg 430 (by decide +kernel) (by decide +kernel), tg 431 (by decide +kernel) (by decide +kernel), tg 26 (by decide +kernel) (by decide +kernel)⟩
theorem vl_RX1_158 : VLink RX1 158 yX1_decayPoints := ⟨tg 433 (by decide +kernel) (by decide +kernel), tg 435 (by decide +kernel) (by decide +kernel), tg 15 (by decide +kernel) (by decide +kernel), tg 25 (by decide +kernel) (by decide +kernel)⟩
theorem vl_RX1_161 : VLink RX1 161 yX1_growDirt := ⟨tg 437 (by decide +kernel) (by decide +kernel), tg 439 (by decide +kernel) (by decide +kernel), tg 16 (by decide +kernel) (by decide +kernel), tg 25 (by decide +kernel) (by decide +kernel)⟩
theorem sl_RL_76 : SLink RL 76 yL_ends := ⟨tg 441 (by decide +kernel) (by decide +kernel), tg 442 (by decide +kernel) (by decide +kernel), tg 23 (by decide +kernel) (by decide +kernel)⟩
theorem sl_RL_79 : SLink RL 79 yL_extra := ⟨tg 444 (by decide +kernel) (by decide +kernel), tg 445 (by decide +kernel) (by decide +kernel), tg 23 (by decide +kernel) (by decide +kernel)⟩
theorem vl_RL_113 : VLink RL 113 yX4_extra := ⟨tg 447 (by decide +kernel) (by decide +kernel), tg 448 (by decide +kernel) (by decide +kernel), tg 449 (by decide +kernel) (by decide +kernel), tg 24 (by decide +kernel) (by decide +kernel)⟩
theorem vl_RX4_111 : VLink RX4 111 yX1_payDebt := ⟨tg 451 (by decide +kernel) (by decide +kernel), tg 452 (by decide +kernel) (by decide +kernel), tg 453 (by decide +kernel) (by decide +kernel), tg 25 (by decide +kernel) (by decide +kernel)⟩
theorem vl_RL_83 : VLink RL 83 yX4_propose := ⟨tg 455 (by decide +kernel) (by decide +kernel), tg 456 (by decide +kernel) (by decide +kernel), tg 457 (by decide +kernel) (by decide +kernel), tg 24 (by decide +kernel) (by decide +kernel)⟩
theorem vl_RX4_121 : VLink RX4 121 yX1_canExchange := ⟨tg 459 (by decide +kernel) (by decide +kernel), tg 460 (by decide +kernel) (by decide +kernel), tg 461 (by decide +kernel) (by decide +kernel), tg 25 (by decide +kernel) (by decide +kernel)⟩
theorem vl_RX4_124 : VLink RX4 124 yX1_isProposed := ⟨tg 463 (by decide +kernel) (by decide +kernel), tg 464 (by decide +kernel) (by decide +kernel), tg 465 (by decide +kernel) (by decide +kernel), tg 25 (by decide +kernel) (by decide +kernel)⟩
theorem vl_RX4_130 : VLink RX4 130 yX1_addSwap := ⟨tg 467 (by decide +kernel) (by decide +kernel), tg 468 (by decide +kernel) (by decide +kernel), tg 469 (by decide +kernel) (by decide +kernel), tg 25 (by decide +kernel) (by decide +kernel)⟩
theorem sl_RL_86 : SLink RL 86 yL_proposes := ⟨tg 471 (by decide +kernel) (by decide +kernel), tg 472 (by decide +kernel) (by decide +kernel), tg 23 (by decide +kernel) (by decide +kernel)⟩
theorem vl_RL_89 : VLink RL 89 yX4_answer := ⟨tg 474 (by decide +kernel) (by decide +kernel), tg 475 (by decide +kernel) (by decide +kernel), tg 476 (by decide +kernel) (by decide +kernel), tg 24 (by decide +kernel) (by decide +kernel)⟩
theorem vl_RX4_133 : VLink RX4 133 yX1_acceptSwap := ⟨tg 478 (by decide +kernel) (by decide +kernel), tg 479 (by decide +kernel) (by decide +kernel), tg 480 (by decide +kernel) (by decide +kernel), tg 25 (by decide +kernel) (by decide +kernel)⟩
theorem vl_RX1_167 : VLink RX1 167 yX1_gainOfExchange := ⟨tg 482 (by decide +kernel) (by decide +kernel), tg 484 (by decide +kernel) (by decide +kernel), tg 17 (by decide +kernel) (by decide +kernel), tg 25 (by decide +kernel) (by decide +kernel)⟩
theorem vl_RX4_136 : VLink RX4 136 yX1_declineSwap := ⟨tg 486 (by decide +kernel) (by decide +kernel), tg 487 (by decide +kernel) (by decide +kernel), tg 488 (by decide +kernel) (by decide +kernel), tg 25 (by decide +kernel) (by decide +kernel)⟩
theorem sl_RL_92 : SLink RL 92 yL_answers := ⟨tg 490 (by decide +kernel) (by decide +kernel), tg 491 (by decide +kernel) (by decide +kernel), tg 23 (by decide +kernel) (by decide +kernel)⟩
theorem vl_RL_95 : VLink RL 95 yX4_away := ⟨tg 493 (by decide +kernel) (by decide +kernel), tg 494 (by decide +kernel) (by decide +kernel), tg 495 (by decide +kernel) (by decide +kernel), tg 24 (by decide +kernel) (by decide +kernel)⟩
theorem vl_RX4_66 : VLink RX4 66 yX3_write := ⟨tg 497 (by decide +kernel) (by decide +kernel), tg 77 (by decide +kernel) (by decide +kernel), tg 78 (by decide +kernel) (by decide +kernel), tg 26 (by decide +kernel) (by decide +kernel)⟩
theorem sl_RL_41 : SLink RL 41 yL_spreads := ⟨tg 498 (by decide +kernel) (by decide +kernel), tg 499 (by decide +kernel) (by decide +kernel), tg 23 (by decide +kernel) (by decide +kernel)⟩
theorem vl_RL_115 : VLink RL 115 yX4_forecast := ⟨tg 501 (by decide +kernel) (by decide +kernel), tg 502 (by decide +kernel) (by decide +kernel), tg 503 (by decide +kernel) (by decide +kernel), tg 24 (by decide +kernel) (by decide +kernel)⟩
theorem vl_RX4_181 : VLink RX4 181 yX1_copyFrom := ⟨tg 505 (by decide +kernel) (by decide +kernel), tg 193 (by decide +kernel) (by decide +kernel), tg 194 (by decide +kernel) (by decide +kernel), tg 25 (by decide +kernel) (by decide +kernel)⟩
theorem vl_RX4_184 : VLink RX4 184 yX1_countOpenDeepTasks := ⟨tg 506 (by decide +kernel) (by decide +kernel), tg 507 (by decide +kernel) (by decide +kernel), tg 508 (by decide +kernel) (by decide +kernel), tg 25 (by decide +kernel) (by decide +kernel)⟩
theorem vl_RX4_187 : VLink RX4 187 yX1_finishOpenTasks := ⟨tg 510 (by decide +kernel) (by decide +kernel), tg 511 (by decide +kernel) (by decide +kernel), tg 512 (by decide +kernel) (by decide +kernel), tg 25 (by decide +kernel) (by decide +kernel)⟩
theorem vl_RX1_143 : VLink RX1 143 yX1_finishFromTo := ⟨tg 514 (by decide +kernel) (by decide +kernel), tg 515 (by decide +kernel) (by decide +kernel), tg 516 (by decide +kernel) (by decide +kernel), tg 25 (by decide +kernel) (by decide +kernel)⟩
theorem vl_RX1_140 : VLink RX1 140 yX1_finish := ⟨tg 518 (by decide +kernel) (by decide +kernel), tg 389 (by decide +kernel) (by decide +kernel), tg 390 (by decide +kernel) (by decide +kernel), tg 25 (by decide +kernel) (by decide +kernel)⟩
theorem vl_RX4_190 : VLink RX4 190 yX1_greatestDirt := ⟨tg 519 (by decide +kernel) (by decide +kernel), tg 520 (by decide +kernel) (by decide +kernel), tg 521 (by decide +kernel) (by decide +kernel), tg 25 (by decide +kernel) (by decide +kernel)⟩
theorem sl_RL_45 : SLink RL 45 yL_open := ⟨tg 523 (by decide +kernel) (by decide +kernel), tg 524 (by decide +kernel) (by decide +kernel), tg 23 (by decide +kernel) (by decide +kernel)⟩
theorem sl_RL_48 : SLink RL 48 yL_comes := ⟨tg 526 (by decide +kernel) (by decide +kernel), tg 527 (by decide +kernel) (by decide +kernel), tg 23 (by decide +kernel) (by decide +kernel)⟩
theorem vl_RL_118 : VLink RL 118 yX4_wipe := ⟨tg 529 (by decide +kernel) (by decide +kernel), tg 530 (by decide +kernel) (by decide +kernel), tg 531 (by decide +kernel) (by decide +kernel), tg 24 (by decide +kernel) (by decide +kernel)⟩
theorem vl_RL_123 : VLink RL 123 yX4_put := ⟨tg 534 (by decide +kernel) (by decide +kernel), tg 535 (by decide +kernel) (by decide +kernel), tg 536 (by decide +kernel) (by decide +kernel), tg 24 (by decide +kernel) (by decide +kernel)⟩
theorem sl_RX4_196 : SLink RX4 196 yX2_countCharacters := ⟨tg 538 (by decide +kernel) (by decide +kernel), tg 539 (by decide +kernel) (by decide +kernel), tg 29 (by decide +kernel) (by decide +kernel)⟩
theorem vl_RX4_200 : VLink RX4 200 yX2_append := ⟨tg 543 (by decide +kernel) (by decide +kernel), tg 544 (by decide +kernel) (by decide +kernel), tg 545 (by decide +kernel) (by decide +kernel), tg 29 (by decide +kernel) (by decide +kernel)⟩
theorem vl_RL_127 : VLink RL 127 yX4_load := ⟨tg 547 (by decide +kernel) (by decide +kernel), tg 548 (by decide +kernel) (by decide +kernel), tg 549 (by decide +kernel) (by decide +kernel), tg 24 (by decide +kernel) (by decide +kernel)⟩
theorem vl_RX4_204 : VLink RX4 204 yX2_read := ⟨tg 551 (by decide +kernel) (by decide +kernel), tg 552 (by decide +kernel) (by decide +kernel), tg 553 (by decide +kernel) (by decide +kernel), tg 29 (by decide +kernel) (by decide +kernel)⟩
theorem vl_RX2_38 : VLink RX2 38 yX3_clear := ⟨tg 555 (by decide +kernel) (by decide +kernel), tg 430 (by decide +kernel) (by decide +kernel), tg 431 (by decide +kernel) (by decide +kernel), tg 26 (by decide +kernel) (by decide +kernel)⟩
theorem vl_RX2_41 : VLink RX2 41 yX2_endOfNumber := ⟨tg 556 (by decide +kernel) (by decide +kernel), tg 558 (by decide +kernel) (by decide +kernel), tg 18 (by decide +kernel) (by decide +kernel), tg 29 (by decide +kernel) (by decide +kernel)⟩
theorem vl_RX2_59 : VLink RX2 59 yX2_isDigitAt := ⟨tg 560 (by decide +kernel) (by decide +kernel), tg 562 (by decide +kernel) (by decide +kernel), tg 19 (by decide +kernel) (by decide +kernel), tg 29 (by decide +kernel) (by decide +kernel)⟩
theorem vl_RX2_34 : VLink RX2 34 yX2_characterAt := ⟨tg 564 (by decide +kernel) (by decide +kernel), tg 566 (by decide +kernel) (by decide +kernel), tg 20 (by decide +kernel) (by decide +kernel), tg 29 (by decide +kernel) (by decide +kernel)⟩
theorem vl_RX2_44 : VLink RX2 44 yX2_numberIn := ⟨tg 568 (by decide +kernel) (by decide +kernel), tg 570 (by decide +kernel) (by decide +kernel), tg 21 (by decide +kernel) (by decide +kernel), tg 29 (by decide +kernel) (by decide +kernel)⟩
theorem vl_RX2_48 : VLink RX2 48 yX2_addPart := ⟨tg 572 (by decide +kernel) (by decide +kernel), tg 574 (by decide +kernel) (by decide +kernel), tg 22 (by decide +kernel) (by decide +kernel), tg 29 (by decide +kernel) (by decide +kernel)⟩
theorem vl_RX2_51 : VLink RX2 51 yX3_append := ⟨tg 576 (by decide +kernel) (by decide +kernel), tg 69 (by decide +kernel) (by decide +kernel), tg 70 (by decide +kernel) (by decide +kernel), tg 26 (by decide +kernel) (by decide +kernel)⟩
theorem vl_RX2_55 : VLink RX2 55 yX3_write := ⟨tg 577 (by decide +kernel) (by decide +kernel), tg 77 (by decide +kernel) (by decide +kernel), tg 78 (by decide +kernel) (by decide +kernel), tg 26 (by decide +kernel) (by decide +kernel)⟩
theorem vl_RX4_210 : VLink RX4 210 yX1_finishFromTo := ⟨tg 578 (by decide +kernel) (by decide +kernel), tg 515 (by decide +kernel) (by decide +kernel), tg 516 (by decide +kernel) (by decide +kernel), tg 25 (by decide +kernel) (by decide +kernel)⟩
theorem vl_RL_130 : VLink RL 130 yX4_undo := ⟨tg 579 (by decide +kernel) (by decide +kernel), tg 580 (by decide +kernel) (by decide +kernel), tg 581 (by decide +kernel) (by decide +kernel), tg 24 (by decide +kernel) (by decide +kernel)⟩
theorem vl_RX4_214 : VLink RX4 214 yX0_restore := ⟨tg 583 (by decide +kernel) (by decide +kernel), tg 584 (by decide +kernel) (by decide +kernel), tg 585 (by decide +kernel) (by decide +kernel), tg 28 (by decide +kernel) (by decide +kernel)⟩
theorem sl_RL_51 : SLink RL 51 yL_fair := ⟨tg 587 (by decide +kernel) (by decide +kernel), tg 588 (by decide +kernel) (by decide +kernel), tg 23 (by decide +kernel) (by decide +kernel)⟩
theorem vl_RL_134 : VLink RL 134 yX4_fairer := ⟨tg 591 (by decide +kernel) (by decide +kernel), tg 592 (by decide +kernel) (by decide +kernel), tg 593 (by decide +kernel) (by decide +kernel), tg 24 (by decide +kernel) (by decide +kernel)⟩
theorem vl_RX4_193 : VLink RX4 193 yX1_spreadIfExchanged := ⟨tg 595 (by decide +kernel) (by decide +kernel), tg 596 (by decide +kernel) (by decide +kernel), tg 597 (by decide +kernel) (by decide +kernel), tg 25 (by decide +kernel) (by decide +kernel)⟩
theorem sl_RL_54 : SLink RL 54 yL_told := ⟨tg 599 (by decide +kernel) (by decide +kernel), tg 600 (by decide +kernel) (by decide +kernel), tg 23 (by decide +kernel) (by decide +kernel)⟩
theorem vl_RL_139 : VLink RL 139 yX4_fault := ⟨tg 603 (by decide +kernel) (by decide +kernel), tg 604 (by decide +kernel) (by decide +kernel), tg 605 (by decide +kernel) (by decide +kernel), tg 24 (by decide +kernel) (by decide +kernel)⟩
theorem sl_RL_57 : SLink RL 57 yL_back := ⟨tg 607 (by decide +kernel) (by decide +kernel), tg 608 (by decide +kernel) (by decide +kernel), tg 23 (by decide +kernel) (by decide +kernel)⟩
theorem vl_RL_142 : VLink RL 142 yX4_weigh := ⟨tg 610 (by decide +kernel) (by decide +kernel), tg 611 (by decide +kernel) (by decide +kernel), tg 612 (by decide +kernel) (by decide +kernel), tg 24 (by decide +kernel) (by decide +kernel)⟩
theorem sl_RL_18 : SLink RL 18 yL_refused := ⟨tg 614 (by decide +kernel) (by decide +kernel), tg 615 (by decide +kernel) (by decide +kernel), tg 23 (by decide +kernel) (by decide +kernel)⟩
theorem j_max : Cond.static Lib.Math.max.name ∈ TG ∧ Cond.initialized "java/lang/Math" ∈ TG ∧ Cond.code Lib.Math.max.name Lib.Math.max.code 2 (some .int) ∈ TG := ⟨tg 52 (by decide +kernel) (by decide +kernel), tg 27 (by decide +kernel) (by decide +kernel), tg 53 (by decide +kernel) (by decide +kernel)⟩
theorem j_min : Cond.static Lib.Math.min.name ∈ TG ∧ Cond.initialized "java/lang/Math" ∈ TG ∧ Cond.code Lib.Math.min.name Lib.Math.min.code 2 (some .int) ∈ TG := ⟨tg 201 (by decide +kernel) (by decide +kernel), tg 27 (by decide +kernel) (by decide +kernel), tg 202 (by decide +kernel) (by decide +kernel)⟩
theorem j_cpy : Cond.native arraycopyName ∈ TG ∧ Cond.static arraycopyName ∈ TG ∧ Cond.initialized "java/lang/System" ∈ TG := ⟨tg 205 (by decide +kernel) (by decide +kernel), tg 204 (by decide +kernel) (by decide +kernel), tg 30 (by decide +kernel) (by decide +kernel)⟩
theorem ki_RL_7 : Cond.constant RL 7 73244475 ∈ TG := tg 236 (by decide +kernel) (by decide +kernel)
theorem ki_RL_8 : Cond.constant RL 8 2147483647 ∈ TG := tg 240 (by decide +kernel) (by decide +kernel)
theorem kl_RL_121 : Cond.constantLong RL 121 808270137 ∈ TG := tg 533 (by decide +kernel) (by decide +kernel)
theorem kl_RX2_24 : Cond.constantLong RX2 24 255 ∈ TG := tg 541 (by decide +kernel) (by decide +kernel)
theorem ki_RL_133 : Cond.constant RL 133 1000000000 ∈ TG := tg 590 (by decide +kernel) (by decide +kernel)
theorem kl_RL_137 : Cond.constantLong RL 137 11520 ∈ TG := tg 602 (by decide +kernel) (by decide +kernel)
theorem ki_RL_145 : Cond.constant RL 145 1000000 ∈ TG := tg 617 (by decide +kernel) (by decide +kernel)
theorem nl_X4_bit : NLink yX4_bit := ⟨tg 267 (by decide +kernel) (by decide +kernel), tg 24 (by decide +kernel) (by decide +kernel)⟩
theorem nl_X4_isIn : NLink yX4_isIn := ⟨tg 177 (by decide +kernel) (by decide +kernel), tg 24 (by decide +kernel) (by decide +kernel)⟩
def nestWs : List Cond := [Cond.methodLinkNest RX1 104 yX4_bit RX4, Cond.methodLinkNest RX1 62 yX4_isIn RX4, Cond.methodLinkNest RX2 26 yX4_isIn RX4, Cond.fieldLinkNest RX4 37 RX1 "residents" "LCleaningRota$Table;" RX4, Cond.fieldLinkNest RX4 77 RX1 "areas" "LCleaningRota$Table;" RX4, Cond.fieldLinkNest RX4 98 RX1 "tasks" "LCleaningRota$Table;" RX4, Cond.fieldLinkNest RX4 127 RX1 "swaps" "LCleaningRota$Table;" RX4, Cond.fieldLinkNest RX4 87 RX1 "settings" "LCleaningRota$Table;" RX4, Cond.fieldLinkNest RX4 114 RX1 "week" "I" RX4, Cond.fieldLinkNest RX4 90 RX1 "isPlanned" "Z" RX4, Cond.fieldLinkNest RX4 163 RX1 "tasksDone" "I" RX4, Cond.fieldLinkNest RX4 166 RX1 "tasksSkipped" "I" RX4, Cond.fieldLinkNest RX4 178 RX0 "kept" "I" RX4, Cond.fieldLinkNest RX4 175 RX2 "length" "I" RX4, Cond.fieldLinkNest RX4 207 RX2 "parts" "LCleaningRota$Table;" RX4]
theorem nest_in : ∀ w ∈ nestWs, w ∈ lw_tbl := by
  intro w hw
  have h : nestWs = [266, 312, 542, 82, 84, 86, 88, 90, 92, 94, 96, 98, 129, 145, 147].filterMap (fun i => lw_tbl[i]?) := by decide +kernel
  rw [h] at hw
  obtain ⟨i, -, hi⟩ := List.mem_filterMap.mp hw
  exact List.mem_of_getElem? hi
-- the field links of a class: pool number, class, field
def FLw (own : String) (e : Nat × Nat × Nat) : Prop := ∃ r : vw_C, vwCl[e.2.1]? = some r ∧ e.2.2 < r.2.2 ∧ r.1 = (r.2.1 e.2.2).1 ∧ (Cond.fieldLink own e.1 r.1 (r.2.1 e.2.2).2.1 (r.2.1 e.2.2).2.2.1 ∈ TG ∨ Cond.fieldLinkNest own e.1 r.1 (r.2.1 e.2.2).2.1 (r.2.1 e.2.2).2.2.1 RX4 ∈ nestWs)
def fl0 : List (Nat × Nat × Nat) := [(11, 0, 0), (16, 0, 1)]
theorem fl0_ok : ∀ e ∈ fl0, FLw RX0 e := List.forall_mem_cons.mpr ⟨⟨_, rfl, by decide +kernel, by decide +kernel, Or.inl (tg 127 (by decide +kernel) (by decide +kernel))⟩, List.forall_mem_cons.mpr ⟨⟨_, rfl, by decide +kernel, by decide +kernel, Or.inl (tg 128 (by decide +kernel) (by decide +kernel))⟩, fun _ h => absurd h List.not_mem_nil⟩⟩
def fl1 : List (Nat × Nat × Nat) := [(16, 1, 0), (20, 1, 1), (23, 1, 2), (26, 1, 3), (29, 1, 4), (44, 1, 5), (48, 1, 6), (52, 1, 7), (55, 1, 8)]
theorem fl1_ok : ∀ e ∈ fl1, FLw RX1 e := List.forall_mem_cons.mpr ⟨⟨_, rfl, by decide +kernel, by decide +kernel, Or.inl (tg 81 (by decide +kernel) (by decide +kernel))⟩, List.forall_mem_cons.mpr ⟨⟨_, rfl, by decide +kernel, by decide +kernel, Or.inl (tg 83 (by decide +kernel) (by decide +kernel))⟩, List.forall_mem_cons.mpr ⟨⟨_, rfl, by decide +kernel, by decide +kernel, Or.inl (tg 85 (by decide +kernel) (by decide +kernel))⟩, List.forall_mem_cons.mpr ⟨⟨_, rfl, by decide +kernel, by decide +kernel, Or.inl (tg 87 (by decide +kernel) (by decide +kernel))⟩, List.forall_mem_cons.mpr ⟨⟨_, rfl, by decide +kernel, by decide +kernel, Or.inl (tg 89 (by decide +kernel) (by decide +kernel))⟩, List.forall_mem_cons.mpr ⟨⟨_, rfl, by decide +kernel, by decide +kernel, Or.inl (tg 91 (by decide +kernel) (by decide +kernel))⟩, List.forall_mem_cons.mpr ⟨⟨_, rfl, by decide +kernel, by decide +kernel, Or.inl (tg 93 (by decide +kernel) (by decide +kernel))⟩, List.forall_mem_cons.mpr ⟨⟨_, rfl, by decide +kernel, by decide +kernel, Or.inl (tg 95 (by decide +kernel) (by decide +kernel))⟩, List.forall_mem_cons.mpr ⟨⟨_, rfl, by decide +kernel, by decide +kernel, Or.inl (tg 97 (by decide +kernel) (by decide +kernel))⟩, fun _ h => absurd h List.not_mem_nil⟩⟩⟩⟩⟩⟩⟩⟩⟩
def fl2 : List (Nat × Nat × Nat) := [(9, 2, 0), (30, 2, 1), (20, 2, 2)]
theorem fl2_ok : ∀ e ∈ fl2, FLw RX2 e := List.forall_mem_cons.mpr ⟨⟨_, rfl, by decide +kernel, by decide +kernel, Or.inl (tg 143 (by decide +kernel) (by decide +kernel))⟩, List.forall_mem_cons.mpr ⟨⟨_, rfl, by decide +kernel, by decide +kernel, Or.inl (tg 144 (by decide +kernel) (by decide +kernel))⟩, List.forall_mem_cons.mpr ⟨⟨_, rfl, by decide +kernel, by decide +kernel, Or.inl (tg 146 (by decide +kernel) (by decide +kernel))⟩, fun _ h => absurd h List.not_mem_nil⟩⟩⟩
def fl3 : List (Nat × Nat × Nat) := [(9, 3, 0), (15, 3, 1), (24, 3, 2), (28, 3, 3)]
theorem fl3_ok : ∀ e ∈ fl3, FLw RX3 e := List.forall_mem_cons.mpr ⟨⟨_, rfl, by decide +kernel, by decide +kernel, Or.inl (tg 54 (by decide +kernel) (by decide +kernel))⟩, List.forall_mem_cons.mpr ⟨⟨_, rfl, by decide +kernel, by decide +kernel, Or.inl (tg 55 (by decide +kernel) (by decide +kernel))⟩, List.forall_mem_cons.mpr ⟨⟨_, rfl, by decide +kernel, by decide +kernel, Or.inl (tg 56 (by decide +kernel) (by decide +kernel))⟩, List.forall_mem_cons.mpr ⟨⟨_, rfl, by decide +kernel, by decide +kernel, Or.inl (tg 57 (by decide +kernel) (by decide +kernel))⟩, fun _ h => absurd h List.not_mem_nil⟩⟩⟩⟩
def fl4 : List (Nat × Nat × Nat) := [(10, 4, 0), (16, 4, 1), (22, 4, 2), (29, 4, 3), (37, 1, 0), (77, 1, 1), (98, 1, 2), (127, 1, 3), (87, 1, 4), (114, 1, 5), (90, 1, 6), (163, 1, 7), (166, 1, 8), (178, 0, 1), (175, 2, 1), (207, 2, 2)]
theorem fl4_ok : ∀ e ∈ fl4, FLw RX4 e := List.forall_mem_cons.mpr ⟨⟨_, rfl, by decide +kernel, by decide +kernel, Or.inl (tg 156 (by decide +kernel) (by decide +kernel))⟩, List.forall_mem_cons.mpr ⟨⟨_, rfl, by decide +kernel, by decide +kernel, Or.inl (tg 157 (by decide +kernel) (by decide +kernel))⟩, List.forall_mem_cons.mpr ⟨⟨_, rfl, by decide +kernel, by decide +kernel, Or.inl (tg 158 (by decide +kernel) (by decide +kernel))⟩, List.forall_mem_cons.mpr ⟨⟨_, rfl, by decide +kernel, by decide +kernel, Or.inl (tg 159 (by decide +kernel) (by decide +kernel))⟩, List.forall_mem_cons.mpr ⟨⟨_, rfl, by decide +kernel, by decide +kernel, Or.inr (by decide +kernel)⟩, List.forall_mem_cons.mpr ⟨⟨_, rfl, by decide +kernel, by decide +kernel, Or.inr (by decide +kernel)⟩, List.forall_mem_cons.mpr ⟨⟨_, rfl, by decide +kernel, by decide +kernel, Or.inr (by decide +kernel)⟩, List.forall_mem_cons.mpr ⟨⟨_, rfl, by decide +kernel, by decide +kernel, Or.inr (by decide +kernel)⟩, List.forall_mem_cons.mpr ⟨⟨_, rfl, by decide +kernel, by decide +kernel, Or.inr (by decide +kernel)⟩, List.forall_mem_cons.mpr ⟨⟨_, rfl, by decide +kernel, by decide +kernel, Or.inr (by decide +kernel)⟩, List.forall_mem_cons.mpr ⟨⟨_, rfl, by decide +kernel, by decide +kernel, Or.inr (by decide +kernel)⟩, List.forall_mem_cons.mpr ⟨⟨_, rfl, by decide +kernel, by decide +kernel, Or.inr (by decide +kernel)⟩, List.forall_mem_cons.mpr ⟨⟨_, rfl, by decide +kernel, by decide +kernel, Or.inr (by decide +kernel)⟩, List.forall_mem_cons.mpr ⟨⟨_, rfl, by decide +kernel, by decide +kernel, Or.inr (by decide +kernel)⟩, List.forall_mem_cons.mpr ⟨⟨_, rfl, by decide +kernel, by decide +kernel, Or.inr (by decide +kernel)⟩, List.forall_mem_cons.mpr ⟨⟨_, rfl, by decide +kernel, by decide +kernel, Or.inr (by decide +kernel)⟩, fun _ h => absurd h List.not_mem_nil⟩⟩⟩⟩⟩⟩⟩⟩⟩⟩⟩⟩⟩⟩⟩⟩
theorem iw0 : ∀ w ∈ wsX00, w ∈ TG := by
  intro w hw
  have h : wsX00 = [130, 132].filterMap (fun i => lw_tbl[i]?) := by decide +kernel
  have g : wsX00.all goodWord = true := by decide +kernel
  have hg := List.all_eq_true.mp g w hw
  rw [h] at hw
  obtain ⟨i, -, hi⟩ := List.mem_filterMap.mp hw
  exact tg i hi hg
theorem iw1 : ∀ w ∈ wsX10, w ∈ TG := by
  intro w hw
  have h : wsX10 = [99, 101, 103, 105, 107, 109, 111, 113, 115].filterMap (fun i => lw_tbl[i]?) := by decide +kernel
  have g : wsX10.all goodWord = true := by decide +kernel
  have hg := List.all_eq_true.mp g w hw
  rw [h] at hw
  obtain ⟨i, -, hi⟩ := List.mem_filterMap.mp hw
  exact tg i hi hg
theorem iw2 : ∀ w ∈ wsX20, w ∈ TG := by
  intro w hw
  have h : wsX20 = [148, 150, 152].filterMap (fun i => lw_tbl[i]?) := by decide +kernel
  have g : wsX20.all goodWord = true := by decide +kernel
  have hg := List.all_eq_true.mp g w hw
  rw [h] at hw
  obtain ⟨i, -, hi⟩ := List.mem_filterMap.mp hw
  exact tg i hi hg
theorem iw3 : ∀ w ∈ wsX30, w ∈ TG := by
  intro w hw
  have h : wsX30 = [58, 60, 62, 64].filterMap (fun i => lw_tbl[i]?) := by decide +kernel
  have g : wsX30.all goodWord = true := by decide +kernel
  have hg := List.all_eq_true.mp g w hw
  rw [h] at hw
  obtain ⟨i, -, hi⟩ := List.mem_filterMap.mp hw
  exact tg i hi hg
theorem iw4 : ∀ w ∈ wsX40, w ∈ TG := by
  intro w hw
  have h : wsX40 = [160, 162, 164, 166].filterMap (fun i => lw_tbl[i]?) := by decide +kernel
  have g : wsX40.all goodWord = true := by decide +kernel
  have hg := List.all_eq_true.mp g w hw
  rw [h] at hw
  obtain ⟨i, -, hi⟩ := List.mem_filterMap.mp hw
  exact tg i hi hg
