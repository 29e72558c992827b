/-! LINKS by class and index, METHODS, THE LAYOUT behind both constructors. -/
set_option maxRecDepth 100000 in
theorem fl_0_9 : FLk 0 9 0 0 := ⟨by decide, by decide, rfl, Or.inl (List.mem_of_getElem? (i := 365) rfl)⟩
set_option maxRecDepth 100000 in
theorem fl_0_15 : FLk 0 15 0 1 := ⟨by decide, by decide, rfl, Or.inl (List.mem_of_getElem? (i := 368) rfl)⟩
set_option maxRecDepth 100000 in
theorem fl_0_18 : FLk 0 18 0 2 := ⟨by decide, by decide, rfl, Or.inl (List.mem_of_getElem? (i := 371) rfl)⟩
set_option maxRecDepth 100000 in
theorem fl_1_9 : FLk 1 9 1 0 := ⟨by decide, by decide, rfl, Or.inl (List.mem_of_getElem? (i := 216) rfl)⟩
set_option maxRecDepth 100000 in
theorem fl_1_15 : FLk 1 15 1 1 := ⟨by decide, by decide, rfl, Or.inl (List.mem_of_getElem? (i := 217) rfl)⟩
set_option maxRecDepth 100000 in
theorem fl_1_20 : FLk 1 20 1 2 := ⟨by decide, by decide, rfl, Or.inl (List.mem_of_getElem? (i := 218) rfl)⟩
set_option maxRecDepth 100000 in
theorem fl_1_23 : FLk 1 23 1 3 := ⟨by decide, by decide, rfl, Or.inl (List.mem_of_getElem? (i := 219) rfl)⟩
set_option maxRecDepth 100000 in
theorem fl_1_26 : FLk 1 26 1 4 := ⟨by decide, by decide, rfl, Or.inl (List.mem_of_getElem? (i := 220) rfl)⟩
set_option maxRecDepth 100000 in
theorem fl_1_29 : FLk 1 29 1 5 := ⟨by decide, by decide, rfl, Or.inl (List.mem_of_getElem? (i := 221) rfl)⟩
set_option maxRecDepth 100000 in
theorem fl_1_32 : FLk 1 32 1 6 := ⟨by decide, by decide, rfl, Or.inl (List.mem_of_getElem? (i := 222) rfl)⟩
set_option maxRecDepth 100000 in
theorem fl_1_36 : FLk 1 36 2 8 := ⟨by decide, by decide, rfl, Or.inr ⟨_, List.mem_of_getElem? (i := 415) rfl⟩⟩
set_option maxRecDepth 100000 in
theorem fl_1_40 : FLk 1 40 2 9 := ⟨by decide, by decide, rfl, Or.inr ⟨_, List.mem_of_getElem? (i := 418) rfl⟩⟩
set_option maxRecDepth 100000 in
theorem fl_1_42 : FLk 1 42 2 0 := ⟨by decide, by decide, rfl, Or.inr ⟨_, List.mem_of_getElem? (i := 387) rfl⟩⟩
set_option maxRecDepth 100000 in
theorem fl_1_46 : FLk 1 46 7 0 := ⟨by decide, by decide, rfl, Or.inr ⟨_, List.mem_of_getElem? (i := 294) rfl⟩⟩
set_option maxRecDepth 100000 in
theorem fl_1_56 : FLk 1 56 7 1 := ⟨by decide, by decide, rfl, Or.inr ⟨_, List.mem_of_getElem? (i := 299) rfl⟩⟩
set_option maxRecDepth 100000 in
theorem fl_1_58 : FLk 1 58 7 2 := ⟨by decide, by decide, rfl, Or.inr ⟨_, List.mem_of_getElem? (i := 304) rfl⟩⟩
set_option maxRecDepth 100000 in
theorem fl_1_60 : FLk 1 60 7 7 := ⟨by decide, by decide, rfl, Or.inr ⟨_, List.mem_of_getElem? (i := 325) rfl⟩⟩
set_option maxRecDepth 100000 in
theorem fl_2_12 : FLk 2 12 2 0 := ⟨by decide, by decide, rfl, Or.inl (List.mem_of_getElem? (i := 385) rfl)⟩
set_option maxRecDepth 100000 in
theorem fl_2_21 : FLk 2 21 2 1 := ⟨by decide, by decide, rfl, Or.inl (List.mem_of_getElem? (i := 392) rfl)⟩
set_option maxRecDepth 100000 in
theorem fl_2_25 : FLk 2 25 2 2 := ⟨by decide, by decide, rfl, Or.inl (List.mem_of_getElem? (i := 395) rfl)⟩
set_option maxRecDepth 100000 in
theorem fl_2_31 : FLk 2 31 7 8 := ⟨by decide, by decide, rfl, Or.inr ⟨_, List.mem_of_getElem? (i := 329) rfl⟩⟩
set_option maxRecDepth 100000 in
theorem fl_2_35 : FLk 2 35 0 2 := ⟨by decide, by decide, rfl, Or.inr ⟨_, List.mem_of_getElem? (i := 372) rfl⟩⟩
set_option maxRecDepth 100000 in
theorem fl_2_36 : FLk 2 36 2 3 := ⟨by decide, by decide, rfl, Or.inl (List.mem_of_getElem? (i := 397) rfl)⟩
set_option maxRecDepth 100000 in
theorem fl_2_39 : FLk 2 39 2 4 := ⟨by decide, by decide, rfl, Or.inl (List.mem_of_getElem? (i := 401) rfl)⟩
set_option maxRecDepth 100000 in
theorem fl_2_42 : FLk 2 42 2 5 := ⟨by decide, by decide, rfl, Or.inl (List.mem_of_getElem? (i := 405) rfl)⟩
set_option maxRecDepth 100000 in
theorem fl_2_45 : FLk 2 45 2 6 := ⟨by decide, by decide, rfl, Or.inl (List.mem_of_getElem? (i := 409) rfl)⟩
set_option maxRecDepth 100000 in
theorem fl_2_48 : FLk 2 48 2 7 := ⟨by decide, by decide, rfl, Or.inl (List.mem_of_getElem? (i := 412) rfl)⟩
set_option maxRecDepth 100000 in
theorem fl_2_51 : FLk 2 51 2 8 := ⟨by decide, by decide, rfl, Or.inl (List.mem_of_getElem? (i := 416) rfl)⟩
set_option maxRecDepth 100000 in
theorem fl_2_54 : FLk 2 54 2 9 := ⟨by decide, by decide, rfl, Or.inl (List.mem_of_getElem? (i := 419) rfl)⟩
set_option maxRecDepth 100000 in
theorem fl_2_61 : FLk 2 61 0 0 := ⟨by decide, by decide, rfl, Or.inr ⟨_, List.mem_of_getElem? (i := 366) rfl⟩⟩
set_option maxRecDepth 100000 in
theorem fl_2_70 : FLk 2 70 0 1 := ⟨by decide, by decide, rfl, Or.inr ⟨_, List.mem_of_getElem? (i := 369) rfl⟩⟩
set_option maxRecDepth 100000 in
theorem fl_3_9 : FLk 3 9 3 0 := ⟨by decide, by decide, rfl, Or.inl (List.mem_of_getElem? (i := 246) rfl)⟩
set_option maxRecDepth 100000 in
theorem fl_3_15 : FLk 3 15 3 1 := ⟨by decide, by decide, rfl, Or.inl (List.mem_of_getElem? (i := 247) rfl)⟩
set_option maxRecDepth 100000 in
theorem fl_3_18 : FLk 3 18 3 2 := ⟨by decide, by decide, rfl, Or.inl (List.mem_of_getElem? (i := 248) rfl)⟩
set_option maxRecDepth 100000 in
theorem fl_3_35 : FLk 3 35 6 5 := ⟨by decide, by decide, rfl, Or.inr ⟨_, List.mem_of_getElem? (i := 455) rfl⟩⟩
set_option maxRecDepth 100000 in
theorem fl_3_39 : FLk 3 39 2 0 := ⟨by decide, by decide, rfl, Or.inr ⟨_, List.mem_of_getElem? (i := 388) rfl⟩⟩
set_option maxRecDepth 100000 in
theorem fl_3_45 : FLk 3 45 7 8 := ⟨by decide, by decide, rfl, Or.inr ⟨_, List.mem_of_getElem? (i := 330) rfl⟩⟩
set_option maxRecDepth 100000 in
theorem fl_4_12 : FLk 4 12 4 0 := ⟨by decide, by decide, rfl, Or.inl (List.mem_of_getElem? (i := 469) rfl)⟩
set_option maxRecDepth 100000 in
theorem fl_4_18 : FLk 4 18 4 1 := ⟨by decide, by decide, rfl, Or.inl (List.mem_of_getElem? (i := 471) rfl)⟩
set_option maxRecDepth 100000 in
theorem fl_4_22 : FLk 4 22 4 2 := ⟨by decide, by decide, rfl, Or.inl (List.mem_of_getElem? (i := 472) rfl)⟩
set_option maxRecDepth 100000 in
theorem fl_4_25 : FLk 4 25 4 3 := ⟨by decide, by decide, rfl, Or.inl (List.mem_of_getElem? (i := 473) rfl)⟩
set_option maxRecDepth 100000 in
theorem fl_4_28 : FLk 4 28 4 4 := ⟨by decide, by decide, rfl, Or.inl (List.mem_of_getElem? (i := 474) rfl)⟩
set_option maxRecDepth 100000 in
theorem fl_4_31 : FLk 4 31 4 5 := ⟨by decide, by decide, rfl, Or.inl (List.mem_of_getElem? (i := 475) rfl)⟩
set_option maxRecDepth 100000 in
theorem fl_4_35 : FLk 4 35 4 6 := ⟨by decide, by decide, rfl, Or.inl (List.mem_of_getElem? (i := 476) rfl)⟩
set_option maxRecDepth 100000 in
theorem fl_4_39 : FLk 4 39 4 7 := ⟨by decide, by decide, rfl, Or.inl (List.mem_of_getElem? (i := 478) rfl)⟩
set_option maxRecDepth 100000 in
theorem fl_4_42 : FLk 4 42 4 8 := ⟨by decide, by decide, rfl, Or.inl (List.mem_of_getElem? (i := 480) rfl)⟩
set_option maxRecDepth 100000 in
theorem fl_4_45 : FLk 4 45 4 9 := ⟨by decide, by decide, rfl, Or.inl (List.mem_of_getElem? (i := 482) rfl)⟩
set_option maxRecDepth 100000 in
theorem fl_4_48 : FLk 4 48 4 10 := ⟨by decide, by decide, rfl, Or.inl (List.mem_of_getElem? (i := 484) rfl)⟩
set_option maxRecDepth 100000 in
theorem fl_4_51 : FLk 4 51 4 11 := ⟨by decide, by decide, rfl, Or.inl (List.mem_of_getElem? (i := 486) rfl)⟩
set_option maxRecDepth 100000 in
theorem fl_4_54 : FLk 4 54 4 12 := ⟨by decide, by decide, rfl, Or.inl (List.mem_of_getElem? (i := 488) rfl)⟩
set_option maxRecDepth 100000 in
theorem fl_4_57 : FLk 4 57 6 5 := ⟨by decide, by decide, rfl, Or.inr ⟨_, List.mem_of_getElem? (i := 454) rfl⟩⟩
set_option maxRecDepth 100000 in
theorem fl_4_61 : FLk 4 61 2 0 := ⟨by decide, by decide, rfl, Or.inr ⟨_, List.mem_of_getElem? (i := 386) rfl⟩⟩
set_option maxRecDepth 100000 in
theorem fl_4_70 : FLk 4 70 7 0 := ⟨by decide, by decide, rfl, Or.inr ⟨_, List.mem_of_getElem? (i := 295) rfl⟩⟩
set_option maxRecDepth 100000 in
theorem fl_4_81 : FLk 4 81 7 1 := ⟨by decide, by decide, rfl, Or.inr ⟨_, List.mem_of_getElem? (i := 300) rfl⟩⟩
set_option maxRecDepth 100000 in
theorem fl_4_85 : FLk 4 85 6 0 := ⟨by decide, by decide, rfl, Or.inr ⟨_, List.mem_of_getElem? (i := 444) rfl⟩⟩
set_option maxRecDepth 100000 in
theorem fl_4_99 : FLk 4 99 2 4 := ⟨by decide, by decide, rfl, Or.inr ⟨_, List.mem_of_getElem? (i := 403) rfl⟩⟩
set_option maxRecDepth 100000 in
theorem fl_4_102 : FLk 4 102 2 3 := ⟨by decide, by decide, rfl, Or.inr ⟨_, List.mem_of_getElem? (i := 399) rfl⟩⟩
set_option maxRecDepth 100000 in
theorem fl_4_131 : FLk 4 131 7 8 := ⟨by decide, by decide, rfl, Or.inr ⟨_, List.mem_of_getElem? (i := 333) rfl⟩⟩
set_option maxRecDepth 100000 in
theorem fl_4_145 : FLk 4 145 7 2 := ⟨by decide, by decide, rfl, Or.inr ⟨_, List.mem_of_getElem? (i := 307) rfl⟩⟩
set_option maxRecDepth 100000 in
theorem fl_4_148 : FLk 4 148 7 5 := ⟨by decide, by decide, rfl, Or.inr ⟨_, List.mem_of_getElem? (i := 318) rfl⟩⟩
set_option maxRecDepth 100000 in
theorem fl_4_179 : FLk 4 179 7 7 := ⟨by decide, by decide, rfl, Or.inr ⟨_, List.mem_of_getElem? (i := 326) rfl⟩⟩
set_option maxRecDepth 100000 in
theorem fl_4_192 : FLk 4 192 7 3 := ⟨by decide, by decide, rfl, Or.inr ⟨_, List.mem_of_getElem? (i := 312) rfl⟩⟩
set_option maxRecDepth 100000 in
theorem fl_5_9 : FLk 5 9 5 0 := ⟨by decide, by decide, rfl, Or.inl (List.mem_of_getElem? (i := 177) rfl)⟩
set_option maxRecDepth 100000 in
theorem fl_5_15 : FLk 5 15 5 1 := ⟨by decide, by decide, rfl, Or.inl (List.mem_of_getElem? (i := 178) rfl)⟩
set_option maxRecDepth 100000 in
theorem fl_5_19 : FLk 5 19 5 2 := ⟨by decide, by decide, rfl, Or.inl (List.mem_of_getElem? (i := 180) rfl)⟩
set_option maxRecDepth 100000 in
theorem fl_5_22 : FLk 5 22 5 3 := ⟨by decide, by decide, rfl, Or.inl (List.mem_of_getElem? (i := 181) rfl)⟩
set_option maxRecDepth 100000 in
theorem fl_5_25 : FLk 5 25 5 4 := ⟨by decide, by decide, rfl, Or.inl (List.mem_of_getElem? (i := 182) rfl)⟩
set_option maxRecDepth 100000 in
theorem fl_5_28 : FLk 5 28 5 5 := ⟨by decide, by decide, rfl, Or.inl (List.mem_of_getElem? (i := 183) rfl)⟩
set_option maxRecDepth 100000 in
theorem fl_5_31 : FLk 5 31 5 6 := ⟨by decide, by decide, rfl, Or.inl (List.mem_of_getElem? (i := 185) rfl)⟩
set_option maxRecDepth 100000 in
theorem fl_5_34 : FLk 5 34 5 7 := ⟨by decide, by decide, rfl, Or.inl (List.mem_of_getElem? (i := 186) rfl)⟩
set_option maxRecDepth 100000 in
theorem fl_5_37 : FLk 5 37 5 8 := ⟨by decide, by decide, rfl, Or.inl (List.mem_of_getElem? (i := 187) rfl)⟩
set_option maxRecDepth 100000 in
theorem fl_5_117 : FLk 5 117 2 0 := ⟨by decide, by decide, rfl, Or.inr ⟨_, List.mem_of_getElem? (i := 391) rfl⟩⟩
set_option maxRecDepth 100000 in
theorem fl_5_121 : FLk 5 121 7 8 := ⟨by decide, by decide, rfl, Or.inr ⟨_, List.mem_of_getElem? (i := 334) rfl⟩⟩
set_option maxRecDepth 100000 in
theorem fl_5_129 : FLk 5 129 2 3 := ⟨by decide, by decide, rfl, Or.inr ⟨_, List.mem_of_getElem? (i := 400) rfl⟩⟩
set_option maxRecDepth 100000 in
theorem fl_5_132 : FLk 5 132 2 4 := ⟨by decide, by decide, rfl, Or.inr ⟨_, List.mem_of_getElem? (i := 404) rfl⟩⟩
set_option maxRecDepth 100000 in
theorem fl_5_144 : FLk 5 144 2 5 := ⟨by decide, by decide, rfl, Or.inr ⟨_, List.mem_of_getElem? (i := 407) rfl⟩⟩
set_option maxRecDepth 100000 in
theorem fl_5_146 : FLk 5 146 2 6 := ⟨by decide, by decide, rfl, Or.inr ⟨_, List.mem_of_getElem? (i := 411) rfl⟩⟩
set_option maxRecDepth 100000 in
theorem fl_5_148 : FLk 5 148 2 7 := ⟨by decide, by decide, rfl, Or.inr ⟨_, List.mem_of_getElem? (i := 414) rfl⟩⟩
set_option maxRecDepth 100000 in
theorem fl_5_161 : FLk 5 161 2 1 := ⟨by decide, by decide, rfl, Or.inr ⟨_, List.mem_of_getElem? (i := 393) rfl⟩⟩
set_option maxRecDepth 100000 in
theorem fl_5_169 : FLk 5 169 2 2 := ⟨by decide, by decide, rfl, Or.inr ⟨_, List.mem_of_getElem? (i := 396) rfl⟩⟩
set_option maxRecDepth 100000 in
theorem fl_5_171 : FLk 5 171 7 3 := ⟨by decide, by decide, rfl, Or.inr ⟨_, List.mem_of_getElem? (i := 311) rfl⟩⟩
set_option maxRecDepth 100000 in
theorem fl_5_174 : FLk 5 174 7 4 := ⟨by decide, by decide, rfl, Or.inr ⟨_, List.mem_of_getElem? (i := 315) rfl⟩⟩
set_option maxRecDepth 100000 in
theorem fl_5_177 : FLk 5 177 7 5 := ⟨by decide, by decide, rfl, Or.inr ⟨_, List.mem_of_getElem? (i := 319) rfl⟩⟩
set_option maxRecDepth 100000 in
theorem fl_5_180 : FLk 5 180 7 6 := ⟨by decide, by decide, rfl, Or.inr ⟨_, List.mem_of_getElem? (i := 323) rfl⟩⟩
set_option maxRecDepth 100000 in
theorem fl_6_12 : FLk 6 12 6 0 := ⟨by decide, by decide, rfl, Or.inl (List.mem_of_getElem? (i := 443) rfl)⟩
set_option maxRecDepth 100000 in
theorem fl_6_18 : FLk 6 18 6 1 := ⟨by decide, by decide, rfl, Or.inl (List.mem_of_getElem? (i := 446) rfl)⟩
set_option maxRecDepth 100000 in
theorem fl_6_21 : FLk 6 21 6 2 := ⟨by decide, by decide, rfl, Or.inl (List.mem_of_getElem? (i := 448) rfl)⟩
set_option maxRecDepth 100000 in
theorem fl_6_24 : FLk 6 24 6 3 := ⟨by decide, by decide, rfl, Or.inl (List.mem_of_getElem? (i := 449) rfl)⟩
set_option maxRecDepth 100000 in
theorem fl_6_28 : FLk 6 28 6 4 := ⟨by decide, by decide, rfl, Or.inl (List.mem_of_getElem? (i := 450) rfl)⟩
set_option maxRecDepth 100000 in
theorem fl_6_34 : FLk 6 34 6 5 := ⟨by decide, by decide, rfl, Or.inl (List.mem_of_getElem? (i := 452) rfl)⟩
set_option maxRecDepth 100000 in
theorem fl_6_46 : FLk 6 46 2 9 := ⟨by decide, by decide, rfl, Or.inr ⟨_, List.mem_of_getElem? (i := 420) rfl⟩⟩
set_option maxRecDepth 100000 in
theorem fl_6_54 : FLk 6 54 2 0 := ⟨by decide, by decide, rfl, Or.inr ⟨_, List.mem_of_getElem? (i := 390) rfl⟩⟩
set_option maxRecDepth 100000 in
theorem fl_6_58 : FLk 6 58 7 2 := ⟨by decide, by decide, rfl, Or.inr ⟨_, List.mem_of_getElem? (i := 305) rfl⟩⟩
set_option maxRecDepth 100000 in
theorem fl_6_67 : FLk 6 67 7 0 := ⟨by decide, by decide, rfl, Or.inr ⟨_, List.mem_of_getElem? (i := 296) rfl⟩⟩
set_option maxRecDepth 100000 in
theorem fl_6_70 : FLk 6 70 7 1 := ⟨by decide, by decide, rfl, Or.inr ⟨_, List.mem_of_getElem? (i := 301) rfl⟩⟩
set_option maxRecDepth 100000 in
theorem fl_6_92 : FLk 6 92 7 8 := ⟨by decide, by decide, rfl, Or.inr ⟨_, List.mem_of_getElem? (i := 332) rfl⟩⟩
set_option maxRecDepth 100000 in
theorem fl_6_95 : FLk 6 95 7 9 := ⟨by decide, by decide, rfl, Or.inr ⟨_, List.mem_of_getElem? (i := 336) rfl⟩⟩
set_option maxRecDepth 100000 in
theorem fl_6_98 : FLk 6 98 7 3 := ⟨by decide, by decide, rfl, Or.inr ⟨_, List.mem_of_getElem? (i := 310) rfl⟩⟩
set_option maxRecDepth 100000 in
theorem fl_6_108 : FLk 6 108 7 6 := ⟨by decide, by decide, rfl, Or.inr ⟨_, List.mem_of_getElem? (i := 322) rfl⟩⟩
set_option maxRecDepth 100000 in
theorem fl_6_130 : FLk 6 130 2 1 := ⟨by decide, by decide, rfl, Or.inr ⟨_, List.mem_of_getElem? (i := 394) rfl⟩⟩
set_option maxRecDepth 100000 in
theorem fl_6_134 : FLk 6 134 0 2 := ⟨by decide, by decide, rfl, Or.inr ⟨_, List.mem_of_getElem? (i := 373) rfl⟩⟩
set_option maxRecDepth 100000 in
theorem fl_6_137 : FLk 6 137 0 0 := ⟨by decide, by decide, rfl, Or.inr ⟨_, List.mem_of_getElem? (i := 367) rfl⟩⟩
set_option maxRecDepth 100000 in
theorem fl_6_140 : FLk 6 140 2 5 := ⟨by decide, by decide, rfl, Or.inr ⟨_, List.mem_of_getElem? (i := 408) rfl⟩⟩
set_option maxRecDepth 100000 in
theorem fl_6_146 : FLk 6 146 0 1 := ⟨by decide, by decide, rfl, Or.inr ⟨_, List.mem_of_getElem? (i := 370) rfl⟩⟩
set_option maxRecDepth 100000 in
theorem fl_7_9 : FLk 7 9 7 0 := ⟨by decide, by decide, rfl, Or.inl (List.mem_of_getElem? (i := 293) rfl)⟩
set_option maxRecDepth 100000 in
theorem fl_7_15 : FLk 7 15 7 1 := ⟨by decide, by decide, rfl, Or.inl (List.mem_of_getElem? (i := 298) rfl)⟩
set_option maxRecDepth 100000 in
theorem fl_7_18 : FLk 7 18 7 2 := ⟨by decide, by decide, rfl, Or.inl (List.mem_of_getElem? (i := 303) rfl)⟩
set_option maxRecDepth 100000 in
theorem fl_7_21 : FLk 7 21 7 3 := ⟨by decide, by decide, rfl, Or.inl (List.mem_of_getElem? (i := 308) rfl)⟩
set_option maxRecDepth 100000 in
theorem fl_7_24 : FLk 7 24 7 4 := ⟨by decide, by decide, rfl, Or.inl (List.mem_of_getElem? (i := 313) rfl)⟩
set_option maxRecDepth 100000 in
theorem fl_7_27 : FLk 7 27 7 5 := ⟨by decide, by decide, rfl, Or.inl (List.mem_of_getElem? (i := 316) rfl)⟩
set_option maxRecDepth 100000 in
theorem fl_7_30 : FLk 7 30 7 6 := ⟨by decide, by decide, rfl, Or.inl (List.mem_of_getElem? (i := 320) rfl)⟩
set_option maxRecDepth 100000 in
theorem fl_7_33 : FLk 7 33 7 7 := ⟨by decide, by decide, rfl, Or.inl (List.mem_of_getElem? (i := 324) rfl)⟩
set_option maxRecDepth 100000 in
theorem fl_7_36 : FLk 7 36 7 8 := ⟨by decide, by decide, rfl, Or.inl (List.mem_of_getElem? (i := 328) rfl)⟩
set_option maxRecDepth 100000 in
theorem fl_7_40 : FLk 7 40 7 9 := ⟨by decide, by decide, rfl, Or.inl (List.mem_of_getElem? (i := 335) rfl)⟩
set_option maxRecDepth 100000 in
theorem fl_8_9 : FLk 8 9 8 0 := ⟨by decide, by decide, rfl, Or.inl (List.mem_of_getElem? (i := 274) rfl)⟩
set_option maxRecDepth 100000 in
theorem fl_8_15 : FLk 8 15 8 1 := ⟨by decide, by decide, rfl, Or.inl (List.mem_of_getElem? (i := 275) rfl)⟩
set_option maxRecDepth 100000 in
theorem fl_9_12 : FLk 9 12 9 0 := ⟨by decide, by decide, rfl, Or.inl (List.mem_of_getElem? (i := 520) rfl)⟩
set_option maxRecDepth 100000 in
theorem fl_9_19 : FLk 9 19 9 1 := ⟨by decide, by decide, rfl, Or.inl (List.mem_of_getElem? (i := 521) rfl)⟩
set_option maxRecDepth 100000 in
theorem fl_9_26 : FLk 9 26 9 2 := ⟨by decide, by decide, rfl, Or.inl (List.mem_of_getElem? (i := 522) rfl)⟩
set_option maxRecDepth 100000 in
theorem fl_9_33 : FLk 9 33 9 3 := ⟨by decide, by decide, rfl, Or.inl (List.mem_of_getElem? (i := 523) rfl)⟩
set_option maxRecDepth 100000 in
theorem fl_9_37 : FLk 9 37 4 0 := ⟨by decide, by decide, rfl, Or.inr ⟨_, List.mem_of_getElem? (i := 470) rfl⟩⟩
set_option maxRecDepth 100000 in
theorem fl_9_41 : FLk 9 41 9 4 := ⟨by decide, by decide, rfl, Or.inl (List.mem_of_getElem? (i := 524) rfl)⟩
set_option maxRecDepth 100000 in
theorem fl_9_42 : FLk 9 42 6 5 := ⟨by decide, by decide, rfl, Or.inr ⟨_, List.mem_of_getElem? (i := 453) rfl⟩⟩
set_option maxRecDepth 100000 in
theorem fl_9_48 : FLk 9 48 9 5 := ⟨by decide, by decide, rfl, Or.inl (List.mem_of_getElem? (i := 525) rfl)⟩
set_option maxRecDepth 100000 in
theorem fl_9_52 : FLk 9 52 9 6 := ⟨by decide, by decide, rfl, Or.inl (List.mem_of_getElem? (i := 526) rfl)⟩
set_option maxRecDepth 100000 in
theorem fl_9_55 : FLk 9 55 9 7 := ⟨by decide, by decide, rfl, Or.inl (List.mem_of_getElem? (i := 527) rfl)⟩
set_option maxRecDepth 100000 in
theorem fl_9_59 : FLk 9 59 9 8 := ⟨by decide, by decide, rfl, Or.inl (List.mem_of_getElem? (i := 528) rfl)⟩
set_option maxRecDepth 100000 in
theorem fl_9_62 : FLk 9 62 5 1 := ⟨by decide, by decide, rfl, Or.inr ⟨_, List.mem_of_getElem? (i := 179) rfl⟩⟩
set_option maxRecDepth 100000 in
theorem fl_9_81 : FLk 9 81 1 6 := ⟨by decide, by decide, rfl, Or.inr ⟨_, List.mem_of_getElem? (i := 223) rfl⟩⟩
set_option maxRecDepth 100000 in
theorem fl_9_84 : FLk 9 84 4 12 := ⟨by decide, by decide, rfl, Or.inr ⟨_, List.mem_of_getElem? (i := 489) rfl⟩⟩
set_option maxRecDepth 100000 in
theorem fl_9_87 : FLk 9 87 2 0 := ⟨by decide, by decide, rfl, Or.inr ⟨_, List.mem_of_getElem? (i := 389) rfl⟩⟩
set_option maxRecDepth 100000 in
theorem fl_9_91 : FLk 9 91 7 8 := ⟨by decide, by decide, rfl, Or.inr ⟨_, List.mem_of_getElem? (i := 331) rfl⟩⟩
set_option maxRecDepth 100000 in
theorem fl_9_94 : FLk 9 94 5 5 := ⟨by decide, by decide, rfl, Or.inr ⟨_, List.mem_of_getElem? (i := 184) rfl⟩⟩
set_option maxRecDepth 100000 in
theorem fl_9_97 : FLk 9 97 2 3 := ⟨by decide, by decide, rfl, Or.inr ⟨_, List.mem_of_getElem? (i := 398) rfl⟩⟩
set_option maxRecDepth 100000 in
theorem fl_9_100 : FLk 9 100 2 4 := ⟨by decide, by decide, rfl, Or.inr ⟨_, List.mem_of_getElem? (i := 402) rfl⟩⟩
set_option maxRecDepth 100000 in
theorem fl_9_103 : FLk 9 103 2 8 := ⟨by decide, by decide, rfl, Or.inr ⟨_, List.mem_of_getElem? (i := 417) rfl⟩⟩
set_option maxRecDepth 100000 in
theorem fl_9_106 : FLk 9 106 2 9 := ⟨by decide, by decide, rfl, Or.inr ⟨_, List.mem_of_getElem? (i := 421) rfl⟩⟩
set_option maxRecDepth 100000 in
theorem fl_9_109 : FLk 9 109 2 5 := ⟨by decide, by decide, rfl, Or.inr ⟨_, List.mem_of_getElem? (i := 406) rfl⟩⟩
set_option maxRecDepth 100000 in
theorem fl_9_112 : FLk 9 112 2 6 := ⟨by decide, by decide, rfl, Or.inr ⟨_, List.mem_of_getElem? (i := 410) rfl⟩⟩
set_option maxRecDepth 100000 in
theorem fl_9_115 : FLk 9 115 2 7 := ⟨by decide, by decide, rfl, Or.inr ⟨_, List.mem_of_getElem? (i := 413) rfl⟩⟩
set_option maxRecDepth 100000 in
theorem fl_9_121 : FLk 9 121 7 0 := ⟨by decide, by decide, rfl, Or.inr ⟨_, List.mem_of_getElem? (i := 297) rfl⟩⟩
set_option maxRecDepth 100000 in
theorem fl_9_125 : FLk 9 125 7 1 := ⟨by decide, by decide, rfl, Or.inr ⟨_, List.mem_of_getElem? (i := 302) rfl⟩⟩
set_option maxRecDepth 100000 in
theorem fl_9_128 : FLk 9 128 7 2 := ⟨by decide, by decide, rfl, Or.inr ⟨_, List.mem_of_getElem? (i := 306) rfl⟩⟩
set_option maxRecDepth 100000 in
theorem fl_9_131 : FLk 9 131 7 3 := ⟨by decide, by decide, rfl, Or.inr ⟨_, List.mem_of_getElem? (i := 309) rfl⟩⟩
set_option maxRecDepth 100000 in
theorem fl_9_134 : FLk 9 134 7 4 := ⟨by decide, by decide, rfl, Or.inr ⟨_, List.mem_of_getElem? (i := 314) rfl⟩⟩
set_option maxRecDepth 100000 in
theorem fl_9_137 : FLk 9 137 7 5 := ⟨by decide, by decide, rfl, Or.inr ⟨_, List.mem_of_getElem? (i := 317) rfl⟩⟩
set_option maxRecDepth 100000 in
theorem fl_9_140 : FLk 9 140 7 6 := ⟨by decide, by decide, rfl, Or.inr ⟨_, List.mem_of_getElem? (i := 321) rfl⟩⟩
set_option maxRecDepth 100000 in
theorem fl_9_166 : FLk 9 166 6 1 := ⟨by decide, by decide, rfl, Or.inr ⟨_, List.mem_of_getElem? (i := 447) rfl⟩⟩
set_option maxRecDepth 100000 in
theorem fl_9_200 : FLk 9 200 6 0 := ⟨by decide, by decide, rfl, Or.inr ⟨_, List.mem_of_getElem? (i := 445) rfl⟩⟩
set_option maxRecDepth 100000 in
theorem fl_9_234 : FLk 9 234 4 6 := ⟨by decide, by decide, rfl, Or.inr ⟨_, List.mem_of_getElem? (i := 477) rfl⟩⟩
set_option maxRecDepth 100000 in
theorem fl_9_237 : FLk 9 237 4 7 := ⟨by decide, by decide, rfl, Or.inr ⟨_, List.mem_of_getElem? (i := 479) rfl⟩⟩
set_option maxRecDepth 100000 in
theorem fl_9_254 : FLk 9 254 7 7 := ⟨by decide, by decide, rfl, Or.inr ⟨_, List.mem_of_getElem? (i := 327) rfl⟩⟩
set_option maxRecDepth 100000 in
theorem fl_9_260 : FLk 9 260 4 10 := ⟨by decide, by decide, rfl, Or.inr ⟨_, List.mem_of_getElem? (i := 485) rfl⟩⟩
set_option maxRecDepth 100000 in
theorem fl_9_263 : FLk 9 263 4 11 := ⟨by decide, by decide, rfl, Or.inr ⟨_, List.mem_of_getElem? (i := 487) rfl⟩⟩
set_option maxRecDepth 100000 in
theorem fl_9_304 : FLk 9 304 4 8 := ⟨by decide, by decide, rfl, Or.inr ⟨_, List.mem_of_getElem? (i := 481) rfl⟩⟩
set_option maxRecDepth 100000 in
theorem fl_9_307 : FLk 9 307 4 9 := ⟨by decide, by decide, rfl, Or.inr ⟨_, List.mem_of_getElem? (i := 483) rfl⟩⟩
set_option maxRecDepth 100000 in
theorem fl_9_313 : FLk 9 313 6 4 := ⟨by decide, by decide, rfl, Or.inr ⟨_, List.mem_of_getElem? (i := 451) rfl⟩⟩
set_option maxRecDepth 100000 in
theorem fl_9_319 : FLk 9 319 7 9 := ⟨by decide, by decide, rfl, Or.inr ⟨_, List.mem_of_getElem? (i := 337) rfl⟩⟩
set_option maxRecDepth 100000 in
theorem fl_10_9 : FLk 10 9 10 3 := ⟨by decide, by decide, rfl, Or.inl (List.mem_of_getElem? (i := 1435) rfl)⟩
set_option maxRecDepth 100000 in
theorem fl_10_13 : FLk 10 13 10 8 := ⟨by decide, by decide, rfl, Or.inl (List.mem_of_getElem? (i := 1440) rfl)⟩
set_option maxRecDepth 100000 in
theorem fl_10_17 : FLk 10 17 10 9 := ⟨by decide, by decide, rfl, Or.inl (List.mem_of_getElem? (i := 1441) rfl)⟩
set_option maxRecDepth 100000 in
theorem fl_10_20 : FLk 10 20 10 10 := ⟨by decide, by decide, rfl, Or.inl (List.mem_of_getElem? (i := 1442) rfl)⟩
set_option maxRecDepth 100000 in
theorem fl_10_23 : FLk 10 23 10 11 := ⟨by decide, by decide, rfl, Or.inl (List.mem_of_getElem? (i := 1443) rfl)⟩
set_option maxRecDepth 100000 in
theorem fl_10_28 : FLk 10 28 10 12 := ⟨by decide, by decide, rfl, Or.inl (List.mem_of_getElem? (i := 1444) rfl)⟩
set_option maxRecDepth 100000 in
theorem fl_10_31 : FLk 10 31 10 13 := ⟨by decide, by decide, rfl, Or.inl (List.mem_of_getElem? (i := 1445) rfl)⟩
set_option maxRecDepth 100000 in
theorem fl_10_34 : FLk 10 34 10 14 := ⟨by decide, by decide, rfl, Or.inl (List.mem_of_getElem? (i := 1446) rfl)⟩
set_option maxRecDepth 100000 in
theorem fl_10_37 : FLk 10 37 10 15 := ⟨by decide, by decide, rfl, Or.inl (List.mem_of_getElem? (i := 1447) rfl)⟩
set_option maxRecDepth 100000 in
theorem fl_10_40 : FLk 10 40 10 16 := ⟨by decide, by decide, rfl, Or.inl (List.mem_of_getElem? (i := 1448) rfl)⟩
set_option maxRecDepth 100000 in
theorem fl_10_43 : FLk 10 43 10 17 := ⟨by decide, by decide, rfl, Or.inl (List.mem_of_getElem? (i := 1449) rfl)⟩
set_option maxRecDepth 100000 in
theorem fl_10_46 : FLk 10 46 10 23 := ⟨by decide, by decide, rfl, Or.inl (List.mem_of_getElem? (i := 1455) rfl)⟩
set_option maxRecDepth 100000 in
theorem fl_10_49 : FLk 10 49 10 24 := ⟨by decide, by decide, rfl, Or.inl (List.mem_of_getElem? (i := 1456) rfl)⟩
set_option maxRecDepth 100000 in
theorem fl_10_52 : FLk 10 52 10 26 := ⟨by decide, by decide, rfl, Or.inl (List.mem_of_getElem? (i := 1458) rfl)⟩
set_option maxRecDepth 100000 in
theorem fl_10_55 : FLk 10 55 10 29 := ⟨by decide, by decide, rfl, Or.inl (List.mem_of_getElem? (i := 1461) rfl)⟩
set_option maxRecDepth 100000 in
theorem fl_10_58 : FLk 10 58 10 30 := ⟨by decide, by decide, rfl, Or.inl (List.mem_of_getElem? (i := 1462) rfl)⟩
set_option maxRecDepth 100000 in
theorem fl_10_61 : FLk 10 61 10 31 := ⟨by decide, by decide, rfl, Or.inl (List.mem_of_getElem? (i := 1463) rfl)⟩
set_option maxRecDepth 100000 in
theorem fl_10_64 : FLk 10 64 10 32 := ⟨by decide, by decide, rfl, Or.inl (List.mem_of_getElem? (i := 1464) rfl)⟩
set_option maxRecDepth 100000 in
theorem fl_10_67 : FLk 10 67 10 33 := ⟨by decide, by decide, rfl, Or.inl (List.mem_of_getElem? (i := 1465) rfl)⟩
set_option maxRecDepth 100000 in
theorem fl_10_70 : FLk 10 70 10 34 := ⟨by decide, by decide, rfl, Or.inl (List.mem_of_getElem? (i := 1466) rfl)⟩
set_option maxRecDepth 100000 in
theorem fl_10_73 : FLk 10 73 10 35 := ⟨by decide, by decide, rfl, Or.inl (List.mem_of_getElem? (i := 1467) rfl)⟩
set_option maxRecDepth 100000 in
theorem fl_10_76 : FLk 10 76 10 40 := ⟨by decide, by decide, rfl, Or.inl (List.mem_of_getElem? (i := 1472) rfl)⟩
set_option maxRecDepth 100000 in
theorem fl_10_79 : FLk 10 79 10 41 := ⟨by decide, by decide, rfl, Or.inl (List.mem_of_getElem? (i := 1473) rfl)⟩
set_option maxRecDepth 100000 in
theorem fl_10_82 : FLk 10 82 10 44 := ⟨by decide, by decide, rfl, Or.inl (List.mem_of_getElem? (i := 1476) rfl)⟩
set_option maxRecDepth 100000 in
theorem fl_10_85 : FLk 10 85 10 45 := ⟨by decide, by decide, rfl, Or.inl (List.mem_of_getElem? (i := 1477) rfl)⟩
set_option maxRecDepth 100000 in
theorem fl_10_88 : FLk 10 88 10 46 := ⟨by decide, by decide, rfl, Or.inl (List.mem_of_getElem? (i := 1478) rfl)⟩
set_option maxRecDepth 100000 in
theorem fl_10_91 : FLk 10 91 10 47 := ⟨by decide, by decide, rfl, Or.inl (List.mem_of_getElem? (i := 1479) rfl)⟩
set_option maxRecDepth 100000 in
theorem fl_10_94 : FLk 10 94 10 48 := ⟨by decide, by decide, rfl, Or.inl (List.mem_of_getElem? (i := 1480) rfl)⟩
set_option maxRecDepth 100000 in
theorem fl_10_97 : FLk 10 97 10 49 := ⟨by decide, by decide, rfl, Or.inl (List.mem_of_getElem? (i := 1481) rfl)⟩
set_option maxRecDepth 100000 in
theorem fl_10_106 : FLk 10 106 10 0 := ⟨by decide, by decide, rfl, Or.inl (List.mem_of_getElem? (i := 1432) rfl)⟩
set_option maxRecDepth 100000 in
theorem fl_10_109 : FLk 10 109 10 1 := ⟨by decide, by decide, rfl, Or.inl (List.mem_of_getElem? (i := 1433) rfl)⟩
set_option maxRecDepth 100000 in
theorem fl_10_112 : FLk 10 112 10 2 := ⟨by decide, by decide, rfl, Or.inl (List.mem_of_getElem? (i := 1434) rfl)⟩
set_option maxRecDepth 100000 in
theorem fl_10_115 : FLk 10 115 10 4 := ⟨by decide, by decide, rfl, Or.inl (List.mem_of_getElem? (i := 1436) rfl)⟩
set_option maxRecDepth 100000 in
theorem fl_10_122 : FLk 10 122 10 5 := ⟨by decide, by decide, rfl, Or.inl (List.mem_of_getElem? (i := 1437) rfl)⟩
set_option maxRecDepth 100000 in
theorem fl_10_125 : FLk 10 125 10 6 := ⟨by decide, by decide, rfl, Or.inl (List.mem_of_getElem? (i := 1438) rfl)⟩
set_option maxRecDepth 100000 in
theorem fl_10_162 : FLk 10 162 10 38 := ⟨by decide, by decide, rfl, Or.inl (List.mem_of_getElem? (i := 1470) rfl)⟩
set_option maxRecDepth 100000 in
theorem fl_10_165 : FLk 10 165 10 39 := ⟨by decide, by decide, rfl, Or.inl (List.mem_of_getElem? (i := 1471) rfl)⟩
set_option maxRecDepth 100000 in
theorem fl_10_172 : FLk 10 172 10 7 := ⟨by decide, by decide, rfl, Or.inl (List.mem_of_getElem? (i := 1439) rfl)⟩
set_option maxRecDepth 100000 in
theorem fl_10_203 : FLk 10 203 10 18 := ⟨by decide, by decide, rfl, Or.inl (List.mem_of_getElem? (i := 1450) rfl)⟩
set_option maxRecDepth 100000 in
theorem fl_10_206 : FLk 10 206 10 19 := ⟨by decide, by decide, rfl, Or.inl (List.mem_of_getElem? (i := 1451) rfl)⟩
set_option maxRecDepth 100000 in
theorem fl_10_209 : FLk 10 209 10 20 := ⟨by decide, by decide, rfl, Or.inl (List.mem_of_getElem? (i := 1452) rfl)⟩
set_option maxRecDepth 100000 in
theorem fl_10_212 : FLk 10 212 10 21 := ⟨by decide, by decide, rfl, Or.inl (List.mem_of_getElem? (i := 1453) rfl)⟩
set_option maxRecDepth 100000 in
theorem fl_10_215 : FLk 10 215 10 27 := ⟨by decide, by decide, rfl, Or.inl (List.mem_of_getElem? (i := 1459) rfl)⟩
set_option maxRecDepth 100000 in
theorem fl_10_218 : FLk 10 218 10 28 := ⟨by decide, by decide, rfl, Or.inl (List.mem_of_getElem? (i := 1460) rfl)⟩
set_option maxRecDepth 100000 in
theorem fl_10_224 : FLk 10 224 10 25 := ⟨by decide, by decide, rfl, Or.inl (List.mem_of_getElem? (i := 1457) rfl)⟩
set_option maxRecDepth 100000 in
theorem fl_10_252 : FLk 10 252 10 36 := ⟨by decide, by decide, rfl, Or.inl (List.mem_of_getElem? (i := 1468) rfl)⟩
set_option maxRecDepth 100000 in
theorem fl_10_255 : FLk 10 255 10 37 := ⟨by decide, by decide, rfl, Or.inl (List.mem_of_getElem? (i := 1469) rfl)⟩
set_option maxRecDepth 100000 in
theorem fl_10_290 : FLk 10 290 10 42 := ⟨by decide, by decide, rfl, Or.inl (List.mem_of_getElem? (i := 1474) rfl)⟩
set_option maxRecDepth 100000 in
theorem fl_10_293 : FLk 10 293 10 43 := ⟨by decide, by decide, rfl, Or.inl (List.mem_of_getElem? (i := 1475) rfl)⟩
set_option maxRecDepth 100000 in
theorem fl_10_342 : FLk 10 342 10 22 := ⟨by decide, by decide, rfl, Or.inl (List.mem_of_getElem? (i := 1454) rfl)⟩
abbrev mX9_init : aM := (yX9_init, cX9_init, 1, none, 9, 0)
set_option maxRecDepth 100000 in
theorem ok_X9_init : MOk mX9_init := ⟨List.mem_of_getElem? (i := 167) rfl, List.mem_of_getElem? (i := 140) rfl, by decide +kernel, ⟨by decide +kernel, by decide +kernel⟩, by decide +kernel, rfl, by decide⟩
theorem hs_X9_init : hsOf mX9_init = [] := by decide +kernel
theorem in_X9_init : MIn mX9_init := ⟨rfl, List.mem_of_getElem? (i := 166) (by decide +kernel), rfl⟩
abbrev mX5_init : aM := (yX5_init, cX5_init, 1, none, 5, 0)
set_option maxRecDepth 100000 in
theorem ok_X5_init : MOk mX5_init := ⟨List.mem_of_getElem? (i := 175) rfl, List.mem_of_getElem? (i := 141) rfl, by decide +kernel, ⟨by decide +kernel, by decide +kernel⟩, by decide +kernel, rfl, by decide⟩
theorem hs_X5_init : hsOf mX5_init = [] := by decide +kernel
theorem in_X5_init : MIn mX5_init := ⟨rfl, List.mem_of_getElem? (i := 174) (by decide +kernel), rfl⟩
abbrev mX1_init : aM := (yX1_init, cX1_init, 1, none, 1, 0)
set_option maxRecDepth 100000 in
theorem ok_X1_init : MOk mX1_init := ⟨List.mem_of_getElem? (i := 212) rfl, List.mem_of_getElem? (i := 142) rfl, by decide +kernel, ⟨by decide +kernel, by decide +kernel⟩, by decide +kernel, rfl, by decide⟩
theorem hs_X1_init : hsOf mX1_init = [] := by decide +kernel
theorem in_X1_init : MIn mX1_init := ⟨rfl, List.mem_of_getElem? (i := 211) (by decide +kernel), rfl⟩
abbrev mX3_init : aM := (yX3_init, cX3_init, 1, none, 3, 0)
set_option maxRecDepth 100000 in
theorem ok_X3_init : MOk mX3_init := ⟨List.mem_of_getElem? (i := 244) rfl, List.mem_of_getElem? (i := 143) rfl, by decide +kernel, ⟨by decide +kernel, by decide +kernel⟩, by decide +kernel, rfl, by decide⟩
theorem hs_X3_init : hsOf mX3_init = [] := by decide +kernel
theorem in_X3_init : MIn mX3_init := ⟨rfl, List.mem_of_getElem? (i := 243) (by decide +kernel), rfl⟩
abbrev mX4_init : aM := (yX4_init, cX4_init, 1, none, 4, 0)
set_option maxRecDepth 100000 in
theorem ok_X4_init : MOk mX4_init := ⟨List.mem_of_getElem? (i := 260) rfl, List.mem_of_getElem? (i := 144) rfl, by decide +kernel, ⟨by decide +kernel, by decide +kernel⟩, by decide +kernel, rfl, by decide⟩
theorem hs_X4_init : hsOf mX4_init = [] := by decide +kernel
theorem in_X4_init : MIn mX4_init := ⟨rfl, List.mem_of_getElem? (i := 259) (by decide +kernel), rfl⟩
abbrev mX6_init : aM := (yX6_init, cX6_init, 1, none, 6, 0)
set_option maxRecDepth 100000 in
theorem ok_X6_init : MOk mX6_init := ⟨List.mem_of_getElem? (i := 266) rfl, List.mem_of_getElem? (i := 145) rfl, by decide +kernel, ⟨by decide +kernel, by decide +kernel⟩, by decide +kernel, rfl, by decide⟩
theorem hs_X6_init : hsOf mX6_init = [] := by decide +kernel
theorem in_X6_init : MIn mX6_init := ⟨rfl, List.mem_of_getElem? (i := 265) (by decide +kernel), rfl⟩
abbrev mX8_init : aM := (yX8_init, cX8_init, 1, none, 8, 0)
set_option maxRecDepth 100000 in
theorem ok_X8_init : MOk mX8_init := ⟨List.mem_of_getElem? (i := 272) rfl, List.mem_of_getElem? (i := 146) rfl, by decide +kernel, ⟨by decide +kernel, by decide +kernel⟩, by decide +kernel, rfl, by decide⟩
theorem hs_X8_init : hsOf mX8_init = [] := by decide +kernel
theorem in_X8_init : MIn mX8_init := ⟨rfl, List.mem_of_getElem? (i := 271) (by decide +kernel), rfl⟩
abbrev mX2_init : aM := (yX2_init, cX2_init, 1, none, 2, 0)
set_option maxRecDepth 100000 in
theorem ok_X2_init : MOk mX2_init := ⟨List.mem_of_getElem? (i := 285) rfl, List.mem_of_getElem? (i := 147) rfl, by decide +kernel, ⟨by decide +kernel, by decide +kernel⟩, by decide +kernel, rfl, by decide⟩
theorem hs_X2_init : hsOf mX2_init = [] := by decide +kernel
theorem in_X2_init : MIn mX2_init := ⟨rfl, List.mem_of_getElem? (i := 284) (by decide +kernel), rfl⟩
abbrev mX7_init : aM := (yX7_init, cX7_init, 1, none, 7, 0)
set_option maxRecDepth 100000 in
theorem ok_X7_init : MOk mX7_init := ⟨List.mem_of_getElem? (i := 291) rfl, List.mem_of_getElem? (i := 148) rfl, by decide +kernel, ⟨by decide +kernel, by decide +kernel⟩, by decide +kernel, rfl, by decide⟩
theorem hs_X7_init : hsOf mX7_init = [] := by decide +kernel
theorem in_X7_init : MIn mX7_init := ⟨rfl, List.mem_of_getElem? (i := 290) (by decide +kernel), rfl⟩
abbrev mX0_init : aM := (yX0_init, cX0_init, 1, none, 0, 0)
set_option maxRecDepth 100000 in
theorem ok_X0_init : MOk mX0_init := ⟨List.mem_of_getElem? (i := 363) rfl, List.mem_of_getElem? (i := 149) rfl, by decide +kernel, ⟨by decide +kernel, by decide +kernel⟩, by decide +kernel, rfl, by decide⟩
theorem hs_X0_init : hsOf mX0_init = [] := by decide +kernel
theorem in_X0_init : MIn mX0_init := ⟨rfl, List.mem_of_getElem? (i := 362) (by decide +kernel), rfl⟩
abbrev mX2_clear : aM := (yX2_clear, cX2_clear, 1, none, 2, 0)
set_option maxRecDepth 100000 in
theorem ok_X2_clear : MOk mX2_clear := ⟨List.mem_of_getElem? (i := 384) rfl, List.mem_of_getElem? (i := 147) rfl, by decide +kernel, ⟨by decide +kernel, by decide +kernel⟩, by decide +kernel, rfl, by decide⟩
theorem hs_X2_clear : hsOf mX2_clear = [] := by decide +kernel
theorem vi_X2_clear : MVi mX2_clear := ⟨by decide, List.mem_of_getElem? (i := 383) (by decide +kernel), List.mem_of_getElem? (i := 0) (by decide +kernel)⟩
abbrev mX9_feed : aM := (yX9_feed, cX9_feed, 6, (some .int), 9, 5)
set_option maxRecDepth 100000 in
theorem ok_X9_feed : MOk mX9_feed := ⟨List.mem_of_getElem? (i := 551) rfl, List.mem_of_getElem? (i := 140) rfl, by decide +kernel, ⟨by decide +kernel, by decide +kernel⟩, by decide +kernel, rfl, by decide⟩
theorem hs_X9_feed : hsOf mX9_feed = [] := by decide +kernel
theorem vi_X9_feed : MVi mX9_feed := ⟨by decide, List.mem_of_getElem? (i := 549) (by decide +kernel), List.mem_of_getElem? (i := 550) (by decide +kernel)⟩
abbrev mX5_append : aM := (yX5_append, cX5_append, 3, none, 5, 1)
set_option maxRecDepth 100000 in
theorem ok_X5_append : MOk mX5_append := ⟨List.mem_of_getElem? (i := 555) rfl, List.mem_of_getElem? (i := 141) rfl, by decide +kernel, ⟨by decide +kernel, by decide +kernel⟩, by decide +kernel, rfl, by decide⟩
theorem hs_X5_append : hsOf mX5_append = [] := by decide +kernel
theorem vi_X5_append : MVi mX5_append := ⟨by decide, List.mem_of_getElem? (i := 554) (by decide +kernel), List.mem_of_getElem? (i := 1) (by decide +kernel)⟩
abbrev mX9_fault : aM := (yX9_fault, cX9_fault, 1, (some .int), 9, 0)
set_option maxRecDepth 100000 in
theorem ok_X9_fault : MOk mX9_fault := ⟨List.mem_of_getElem? (i := 559) rfl, List.mem_of_getElem? (i := 140) rfl, by decide +kernel, ⟨by decide +kernel, by decide +kernel⟩, by decide +kernel, rfl, by decide⟩
theorem hs_X9_fault : hsOf mX9_fault = [] := by decide +kernel
theorem vi_X9_fault : MVi mX9_fault := ⟨by decide, List.mem_of_getElem? (i := 557) (by decide +kernel), List.mem_of_getElem? (i := 558) (by decide +kernel)⟩
abbrev mX9_due : aM := (yX9_due, cX9_due, 1, (some .int), 9, 0)
set_option maxRecDepth 100000 in
theorem ok_X9_due : MOk mX9_due := ⟨List.mem_of_getElem? (i := 563) rfl, List.mem_of_getElem? (i := 140) rfl, by decide +kernel, ⟨by decide +kernel, by decide +kernel⟩, by decide +kernel, rfl, by decide⟩
theorem hs_X9_due : hsOf mX9_due = [] := by decide +kernel
theorem vi_X9_due : MVi mX9_due := ⟨by decide, List.mem_of_getElem? (i := 561) (by decide +kernel), List.mem_of_getElem? (i := 562) (by decide +kernel)⟩
abbrev mX6_total : aM := (yX6_total, cX6_total, 7, (some .int), 6, 2)
set_option maxRecDepth 100000 in
theorem ok_X6_total : MOk mX6_total := ⟨List.mem_of_getElem? (i := 568) rfl, List.mem_of_getElem? (i := 145) rfl, by decide +kernel, ⟨by decide +kernel, by decide +kernel⟩, by decide +kernel, rfl, by decide⟩
theorem hs_X6_total : hsOf mX6_total = [] := by decide +kernel
theorem vi_X6_total : MVi mX6_total := ⟨by decide, List.mem_of_getElem? (i := 567) (by decide +kernel), List.mem_of_getElem? (i := 2) (by decide +kernel)⟩
abbrev mX6_need : aM := (yX6_need, cX6_need, 11, (some .int), 6, 2)
set_option maxRecDepth 100000 in
theorem ok_X6_need : MOk mX6_need := ⟨List.mem_of_getElem? (i := 572) rfl, List.mem_of_getElem? (i := 145) rfl, by decide +kernel, ⟨by decide +kernel, by decide +kernel⟩, by decide +kernel, rfl, by decide⟩
theorem hs_X6_need : hsOf mX6_need = [] := by decide +kernel
theorem vi_X6_need : MVi mX6_need := ⟨by decide, List.mem_of_getElem? (i := 571) (by decide +kernel), List.mem_of_getElem? (i := 3) (by decide +kernel)⟩
abbrev mX6_isInLine : aM := (yX6_isInLine, cX6_isInLine, 5, (some .boolean), 6, 2)
set_option maxRecDepth 100000 in
theorem ok_X6_isInLine : MOk mX6_isInLine := ⟨List.mem_of_getElem? (i := 576) rfl, List.mem_of_getElem? (i := 145) rfl, by decide +kernel, ⟨by decide +kernel, by decide +kernel⟩, by decide +kernel, rfl, by decide⟩
theorem hs_X6_isInLine : hsOf mX6_isInLine = [] := by decide +kernel
theorem vi_X6_isInLine : MVi mX6_isInLine := ⟨by decide, List.mem_of_getElem? (i := 575) (by decide +kernel), List.mem_of_getElem? (i := 4) (by decide +kernel)⟩
abbrev mX6_cellsFor : aM := (yX6_cellsFor, cX6_cellsFor, 3, (some .int), 6, 2)
set_option maxRecDepth 100000 in
theorem ok_X6_cellsFor : MOk mX6_cellsFor := ⟨List.mem_of_getElem? (i := 586) rfl, List.mem_of_getElem? (i := 145) rfl, by decide +kernel, ⟨by decide +kernel, by decide +kernel⟩, by decide +kernel, rfl, by decide⟩
theorem hs_X6_cellsFor : hsOf mX6_cellsFor = [] := by decide +kernel
theorem vi_X6_cellsFor : MVi mX6_cellsFor := ⟨by decide, List.mem_of_getElem? (i := 585) (by decide +kernel), List.mem_of_getElem? (i := 5) (by decide +kernel)⟩
abbrev mX6_sign : aM := (yX6_sign, cX6_sign, 1, (some .int), 6, 1)
set_option maxRecDepth 100000 in
theorem ok_X6_sign : MOk mX6_sign := ⟨List.mem_of_getElem? (i := 589) rfl, List.mem_of_getElem? (i := 145) rfl, by decide +kernel, ⟨by decide +kernel, by decide +kernel⟩, by decide +kernel, rfl, by decide⟩
theorem hs_X6_sign : hsOf mX6_sign = [] := by decide +kernel
theorem st_X6_sign : MSt mX6_sign := List.mem_of_getElem? (i := 588) (by decide +kernel)
abbrev mX6_isKeptOff : aM := (yX6_isKeptOff, cX6_isKeptOff, 11, (some .boolean), 6, 5)
set_option maxRecDepth 100000 in
theorem ok_X6_isKeptOff : MOk mX6_isKeptOff := ⟨List.mem_of_getElem? (i := 593) rfl, List.mem_of_getElem? (i := 145) rfl, by decide +kernel, ⟨by decide +kernel, by decide +kernel⟩, by decide +kernel, rfl, by decide⟩
theorem hs_X6_isKeptOff : hsOf mX6_isKeptOff = [] := by decide +kernel
theorem vi_X6_isKeptOff : MVi mX6_isKeptOff := ⟨by decide, List.mem_of_getElem? (i := 592) (by decide +kernel), List.mem_of_getElem? (i := 6) (by decide +kernel)⟩
abbrev mX8_priceAt : aM := (yX8_priceAt, cX8_priceAt, 3, (some .int), 8, 2)
set_option maxRecDepth 100000 in
theorem ok_X8_priceAt : MOk mX8_priceAt := ⟨List.mem_of_getElem? (i := 597) rfl, List.mem_of_getElem? (i := 146) rfl, by decide +kernel, ⟨by decide +kernel, by decide +kernel⟩, by decide +kernel, rfl, by decide⟩
theorem hs_X8_priceAt : hsOf mX8_priceAt = [] := by decide +kernel
theorem vi_X8_priceAt : MVi mX8_priceAt := ⟨by decide, List.mem_of_getElem? (i := 596) (by decide +kernel), List.mem_of_getElem? (i := 7) (by decide +kernel)⟩
abbrev mX9_exchange : aM := (yX9_exchange, cX9_exchange, 1, (some .int), 9, 0)
set_option maxRecDepth 100000 in
theorem ok_X9_exchange : MOk mX9_exchange := ⟨List.mem_of_getElem? (i := 601) rfl, List.mem_of_getElem? (i := 140) rfl, by decide +kernel, ⟨by decide +kernel, by decide +kernel⟩, by decide +kernel, rfl, by decide⟩
theorem hs_X9_exchange : hsOf mX9_exchange = [] := by decide +kernel
theorem vi_X9_exchange : MVi mX9_exchange := ⟨by decide, List.mem_of_getElem? (i := 599) (by decide +kernel), List.mem_of_getElem? (i := 600) (by decide +kernel)⟩
abbrev mX4_bestExchange : aM := (yX4_bestExchange, cX4_bestExchange, 6, (some .int), 4, 0)
set_option maxRecDepth 100000 in
theorem ok_X4_bestExchange : MOk mX4_bestExchange := ⟨List.mem_of_getElem? (i := 605) rfl, List.mem_of_getElem? (i := 144) rfl, by decide +kernel, ⟨by decide +kernel, by decide +kernel⟩, by decide +kernel, rfl, by decide⟩
theorem hs_X4_bestExchange : hsOf mX4_bestExchange = [] := by decide +kernel
theorem vi_X4_bestExchange : MVi mX4_bestExchange := ⟨by decide, List.mem_of_getElem? (i := 604) (by decide +kernel), List.mem_of_getElem? (i := 8) (by decide +kernel)⟩
abbrev mX4_stalls : aM := (yX4_stalls, cX4_stalls, 1, (some (.object "ShadeLedger$Stalls")), 4, 0)
set_option maxRecDepth 100000 in
theorem ok_X4_stalls : MOk mX4_stalls := ⟨List.mem_of_getElem? (i := 609) rfl, List.mem_of_getElem? (i := 144) rfl, by decide +kernel, ⟨by decide +kernel, by decide +kernel⟩, by decide +kernel, rfl, by decide⟩
theorem hs_X4_stalls : hsOf mX4_stalls = [] := by decide +kernel
theorem vi_X4_stalls : MVi mX4_stalls := ⟨by decide, List.mem_of_getElem? (i := 608) (by decide +kernel), List.mem_of_getElem? (i := 9) (by decide +kernel)⟩
abbrev mX7_swapCells : aM := (yX7_swapCells, cX7_swapCells, 5, none, 7, 2)
set_option maxRecDepth 100000 in
theorem ok_X7_swapCells : MOk mX7_swapCells := ⟨List.mem_of_getElem? (i := 615) rfl, List.mem_of_getElem? (i := 148) rfl, by decide +kernel, ⟨by decide +kernel, by decide +kernel⟩, by decide +kernel, rfl, by decide⟩
theorem hs_X7_swapCells : hsOf mX7_swapCells = [] := by decide +kernel
theorem vi_X7_swapCells : MVi mX7_swapCells := ⟨by decide, List.mem_of_getElem? (i := 614) (by decide +kernel), List.mem_of_getElem? (i := 10) (by decide +kernel)⟩
abbrev mX7_put : aM := (yX7_put, cX7_put, 4, none, 7, 3)
set_option maxRecDepth 100000 in
theorem ok_X7_put : MOk mX7_put := ⟨List.mem_of_getElem? (i := 619) rfl, List.mem_of_getElem? (i := 148) rfl, by decide +kernel, ⟨by decide +kernel, by decide +kernel⟩, by decide +kernel, rfl, by decide⟩
theorem hs_X7_put : hsOf mX7_put = [] := by decide +kernel
theorem vi_X7_put : MVi mX7_put := ⟨by decide, List.mem_of_getElem? (i := 618) (by decide +kernel), List.mem_of_getElem? (i := 11) (by decide +kernel)⟩
abbrev mX9_play : aM := (yX9_play, cX9_play, 1, (some .int), 9, 0)
set_option maxRecDepth 100000 in
theorem ok_X9_play : MOk mX9_play := ⟨List.mem_of_getElem? (i := 623) rfl, List.mem_of_getElem? (i := 140) rfl, by decide +kernel, ⟨by decide +kernel, by decide +kernel⟩, by decide +kernel, rfl, by decide⟩
theorem hs_X9_play : hsOf mX9_play = [] := by decide +kernel
theorem vi_X9_play : MVi mX9_play := ⟨by decide, List.mem_of_getElem? (i := 621) (by decide +kernel), List.mem_of_getElem? (i := 622) (by decide +kernel)⟩
abbrev mX4_playOut : aM := (yX4_playOut, cX4_playOut, 2, (some .boolean), 4, 0)
set_option maxRecDepth 100000 in
theorem ok_X4_playOut : MOk mX4_playOut := ⟨List.mem_of_getElem? (i := 627) rfl, List.mem_of_getElem? (i := 144) rfl, by decide +kernel, ⟨by decide +kernel, by decide +kernel⟩, by decide +kernel, rfl, by decide⟩
theorem hs_X4_playOut : hsOf mX4_playOut = [] := by decide +kernel
theorem vi_X4_playOut : MVi mX4_playOut := ⟨by decide, List.mem_of_getElem? (i := 626) (by decide +kernel), List.mem_of_getElem? (i := 12) (by decide +kernel)⟩
abbrev mX4_heights : aM := (yX4_heights, cX4_heights, 5, (some .long), 4, 0)
set_option maxRecDepth 100000 in
theorem ok_X4_heights : MOk mX4_heights := ⟨List.mem_of_getElem? (i := 631) rfl, List.mem_of_getElem? (i := 144) rfl, by decide +kernel, ⟨by decide +kernel, by decide +kernel⟩, by decide +kernel, rfl, by decide⟩
theorem hs_X4_heights : hsOf mX4_heights = [] := by decide +kernel
theorem vi_X4_heights : MVi mX4_heights := ⟨by decide, List.mem_of_getElem? (i := 630) (by decide +kernel), List.mem_of_getElem? (i := 13) (by decide +kernel)⟩
abbrev mX4_playRound : aM := (yX4_playRound, cX4_playRound, 5, (some .boolean), 4, 0)
set_option maxRecDepth 100000 in
theorem ok_X4_playRound : MOk mX4_playRound := ⟨List.mem_of_getElem? (i := 635) rfl, List.mem_of_getElem? (i := 144) rfl, by decide +kernel, ⟨by decide +kernel, by decide +kernel⟩, by decide +kernel, rfl, by decide⟩
theorem hs_X4_playRound : hsOf mX4_playRound = [] := by decide +kernel
theorem vi_X4_playRound : MVi mX4_playRound := ⟨by decide, List.mem_of_getElem? (i := 634) (by decide +kernel), List.mem_of_getElem? (i := 14) (by decide +kernel)⟩
abbrev mX4_wishOf : aM := (yX4_wishOf, cX4_wishOf, 9, (some .int), 4, 1)
set_option maxRecDepth 100000 in
theorem ok_X4_wishOf : MOk mX4_wishOf := ⟨List.mem_of_getElem? (i := 639) rfl, List.mem_of_getElem? (i := 144) rfl, by decide +kernel, ⟨by decide +kernel, by decide +kernel⟩, by decide +kernel, rfl, by decide⟩
theorem hs_X4_wishOf : hsOf mX4_wishOf = [] := by decide +kernel
theorem vi_X4_wishOf : MVi mX4_wishOf := ⟨by decide, List.mem_of_getElem? (i := 638) (by decide +kernel), List.mem_of_getElem? (i := 15) (by decide +kernel)⟩
abbrev mX6_gain : aM := (yX6_gain, cX6_gain, 6, (some .int), 6, 2)
set_option maxRecDepth 100000 in
theorem ok_X6_gain : MOk mX6_gain := ⟨List.mem_of_getElem? (i := 643) rfl, List.mem_of_getElem? (i := 145) rfl, by decide +kernel, ⟨by decide +kernel, by decide +kernel⟩, by decide +kernel, rfl, by decide⟩
theorem hs_X6_gain : hsOf mX6_gain = [] := by decide +kernel
theorem vi_X6_gain : MVi mX6_gain := ⟨by decide, List.mem_of_getElem? (i := 642) (by decide +kernel), List.mem_of_getElem? (i := 16) (by decide +kernel)⟩
abbrev mX4_isSeenBefore : aM := (yX4_isSeenBefore, cX4_isSeenBefore, 3, (some .boolean), 4, 1)
set_option maxRecDepth 100000 in
theorem ok_X4_isSeenBefore : MOk mX4_isSeenBefore := ⟨List.mem_of_getElem? (i := 647) rfl, List.mem_of_getElem? (i := 144) rfl, by decide +kernel, ⟨by decide +kernel, by decide +kernel⟩, by decide +kernel, rfl, by decide⟩
theorem hs_X4_isSeenBefore : hsOf mX4_isSeenBefore = [] := by decide +kernel
theorem vi_X4_isSeenBefore : MVi mX4_isSeenBefore := ⟨by decide, List.mem_of_getElem? (i := 646) (by decide +kernel), List.mem_of_getElem? (i := 17) (by decide +kernel)⟩
abbrev mX9_rounds : aM := (yX9_rounds, cX9_rounds, 1, (some .int), 9, 0)
set_option maxRecDepth 100000 in
theorem ok_X9_rounds : MOk mX9_rounds := ⟨List.mem_of_getElem? (i := 651) rfl, List.mem_of_getElem? (i := 140) rfl, by decide +kernel, ⟨by decide +kernel, by decide +kernel⟩, by decide +kernel, rfl, by decide⟩
theorem hs_X9_rounds : hsOf mX9_rounds = [] := by decide +kernel
theorem vi_X9_rounds : MVi mX9_rounds := ⟨by decide, List.mem_of_getElem? (i := 649) (by decide +kernel), List.mem_of_getElem? (i := 650) (by decide +kernel)⟩
abbrev mX9_lights : aM := (yX9_lights, cX9_lights, 1, (some .int), 9, 0)
set_option maxRecDepth 100000 in
theorem ok_X9_lights : MOk mX9_lights := ⟨List.mem_of_getElem? (i := 655) rfl, List.mem_of_getElem? (i := 140) rfl, by decide +kernel, ⟨by decide +kernel, by decide +kernel⟩, by decide +kernel, rfl, by decide⟩
theorem hs_X9_lights : hsOf mX9_lights = [] := by decide +kernel
theorem vi_X9_lights : MVi mX9_lights := ⟨by decide, List.mem_of_getElem? (i := 653) (by decide +kernel), List.mem_of_getElem? (i := 654) (by decide +kernel)⟩
abbrev mX6_dueByLanterns : aM := (yX6_dueByLanterns, cX6_dueByLanterns, 5, (some .int), 6, 0)
set_option maxRecDepth 100000 in
theorem ok_X6_dueByLanterns : MOk mX6_dueByLanterns := ⟨List.mem_of_getElem? (i := 659) rfl, List.mem_of_getElem? (i := 145) rfl, by decide +kernel, ⟨by decide +kernel, by decide +kernel⟩, by decide +kernel, rfl, by decide⟩
theorem hs_X6_dueByLanterns : hsOf mX6_dueByLanterns = [] := by decide +kernel
theorem vi_X6_dueByLanterns : MVi mX6_dueByLanterns := ⟨by decide, List.mem_of_getElem? (i := 658) (by decide +kernel), List.mem_of_getElem? (i := 18) (by decide +kernel)⟩
abbrev mX8_lanternsAt : aM := (yX8_lanternsAt, cX8_lanternsAt, 2, (some .int), 8, 1)
set_option maxRecDepth 100000 in
theorem ok_X8_lanternsAt : MOk mX8_lanternsAt := ⟨List.mem_of_getElem? (i := 663) rfl, List.mem_of_getElem? (i := 146) rfl, by decide +kernel, ⟨by decide +kernel, by decide +kernel⟩, by decide +kernel, rfl, by decide⟩
theorem hs_X8_lanternsAt : hsOf mX8_lanternsAt = [] := by decide +kernel
theorem vi_X8_lanternsAt : MVi mX8_lanternsAt := ⟨by decide, List.mem_of_getElem? (i := 662) (by decide +kernel), List.mem_of_getElem? (i := 19) (by decide +kernel)⟩
abbrev mX9_suns : aM := (yX9_suns, cX9_suns, 1, (some .int), 9, 0)
set_option maxRecDepth 100000 in
theorem ok_X9_suns : MOk mX9_suns := ⟨List.mem_of_getElem? (i := 667) rfl, List.mem_of_getElem? (i := 140) rfl, by decide +kernel, ⟨by decide +kernel, by decide +kernel⟩, by decide +kernel, rfl, by decide⟩
theorem hs_X9_suns : hsOf mX9_suns = [] := by decide +kernel
theorem vi_X9_suns : MVi mX9_suns := ⟨by decide, List.mem_of_getElem? (i := 665) (by decide +kernel), List.mem_of_getElem? (i := 666) (by decide +kernel)⟩
abbrev mX6_dearestSun : aM := (yX6_dearestSun, cX6_dearestSun, 6, (some .int), 6, 0)
set_option maxRecDepth 100000 in
theorem ok_X6_dearestSun : MOk mX6_dearestSun := ⟨List.mem_of_getElem? (i := 671) rfl, List.mem_of_getElem? (i := 145) rfl, by decide +kernel, ⟨by decide +kernel, by decide +kernel⟩, by decide +kernel, rfl, by decide⟩
theorem hs_X6_dearestSun : hsOf mX6_dearestSun = [] := by decide +kernel
theorem vi_X6_dearestSun : MVi mX6_dearestSun := ⟨by decide, List.mem_of_getElem? (i := 670) (by decide +kernel), List.mem_of_getElem? (i := 20) (by decide +kernel)⟩
abbrev mX0_endOf : aM := (yX0_endOf, cX0_endOf, 2, (some .int), 0, 1)
set_option maxRecDepth 100000 in
theorem ok_X0_endOf : MOk mX0_endOf := ⟨List.mem_of_getElem? (i := 675) rfl, List.mem_of_getElem? (i := 149) rfl, by decide +kernel, ⟨by decide +kernel, by decide +kernel⟩, by decide +kernel, rfl, by decide⟩
theorem hs_X0_endOf : hsOf mX0_endOf = [] := by decide +kernel
theorem vi_X0_endOf : MVi mX0_endOf := ⟨by decide, List.mem_of_getElem? (i := 674) (by decide +kernel), List.mem_of_getElem? (i := 21) (by decide +kernel)⟩
abbrev mX6_costsOf : aM := (yX6_costsOf, cX6_costsOf, 3, (some (.object "ShadeLedger$Weights")), 6, 2)
set_option maxRecDepth 100000 in
theorem ok_X6_costsOf : MOk mX6_costsOf := ⟨List.mem_of_getElem? (i := 679) rfl, List.mem_of_getElem? (i := 145) rfl, by decide +kernel, ⟨by decide +kernel, by decide +kernel⟩, by decide +kernel, rfl, by decide⟩
theorem hs_X6_costsOf : hsOf mX6_costsOf = [] := by decide +kernel
theorem vi_X6_costsOf : MVi mX6_costsOf := ⟨by decide, List.mem_of_getElem? (i := 678) (by decide +kernel), List.mem_of_getElem? (i := 22) (by decide +kernel)⟩
abbrev mX2_weighCosts : aM := (yX2_weighCosts, cX2_weighCosts, 9, none, 2, 3)
set_option maxRecDepth 100000 in
theorem ok_X2_weighCosts : MOk mX2_weighCosts := ⟨List.mem_of_getElem? (i := 683) rfl, List.mem_of_getElem? (i := 147) rfl, by decide +kernel, ⟨by decide +kernel, by decide +kernel⟩, by decide +kernel, rfl, by decide⟩
theorem hs_X2_weighCosts : hsOf mX2_weighCosts = [] := by decide +kernel
theorem vi_X2_weighCosts : MVi mX2_weighCosts := ⟨by decide, List.mem_of_getElem? (i := 682) (by decide +kernel), List.mem_of_getElem? (i := 23) (by decide +kernel)⟩
abbrev mX8_clear : aM := (yX8_clear, cX8_clear, 2, none, 8, 0)
set_option maxRecDepth 100000 in
theorem ok_X8_clear : MOk mX8_clear := ⟨List.mem_of_getElem? (i := 687) rfl, List.mem_of_getElem? (i := 146) rfl, by decide +kernel, ⟨by decide +kernel, by decide +kernel⟩, by decide +kernel, rfl, by decide⟩
theorem hs_X8_clear : hsOf mX8_clear = [] := by decide +kernel
theorem vi_X8_clear : MVi mX8_clear := ⟨by decide, List.mem_of_getElem? (i := 686) (by decide +kernel), List.mem_of_getElem? (i := 24) (by decide +kernel)⟩
abbrev mX2_costBefore : aM := (yX2_costBefore, cX2_costBefore, 7, (some .int), 2, 1)
set_option maxRecDepth 100000 in
theorem ok_X2_costBefore : MOk mX2_costBefore := ⟨List.mem_of_getElem? (i := 696) rfl, List.mem_of_getElem? (i := 147) rfl, by decide +kernel, ⟨by decide +kernel, by decide +kernel⟩, by decide +kernel, rfl, by decide⟩
theorem hs_X2_costBefore : hsOf mX2_costBefore = [] := by decide +kernel
theorem vi_X2_costBefore : MVi mX2_costBefore := ⟨by decide, List.mem_of_getElem? (i := 695) (by decide +kernel), List.mem_of_getElem? (i := 25) (by decide +kernel)⟩
abbrev mX8_add : aM := (yX8_add, cX8_add, 4, none, 8, 3)
set_option maxRecDepth 100000 in
theorem ok_X8_add : MOk mX8_add := ⟨List.mem_of_getElem? (i := 700) rfl, List.mem_of_getElem? (i := 146) rfl, by decide +kernel, ⟨by decide +kernel, by decide +kernel⟩, by decide +kernel, rfl, by decide⟩
theorem hs_X8_add : hsOf mX8_add = [] := by decide +kernel
theorem vi_X8_add : MVi mX8_add := ⟨by decide, List.mem_of_getElem? (i := 699) (by decide +kernel), List.mem_of_getElem? (i := 26) (by decide +kernel)⟩
abbrev mX8_heap : aM := (yX8_heap, cX8_heap, 2, none, 8, 0)
set_option maxRecDepth 100000 in
theorem ok_X8_heap : MOk mX8_heap := ⟨List.mem_of_getElem? (i := 704) rfl, List.mem_of_getElem? (i := 146) rfl, by decide +kernel, ⟨by decide +kernel, by decide +kernel⟩, by decide +kernel, rfl, by decide⟩
theorem hs_X8_heap : hsOf mX8_heap = [] := by decide +kernel
theorem vi_X8_heap : MVi mX8_heap := ⟨by decide, List.mem_of_getElem? (i := 703) (by decide +kernel), List.mem_of_getElem? (i := 27) (by decide +kernel)⟩
abbrev mX9_image : aM := (yX9_image, cX9_image, 1, (some .int), 9, 0)
set_option maxRecDepth 100000 in
theorem ok_X9_image : MOk mX9_image := ⟨List.mem_of_getElem? (i := 710) rfl, List.mem_of_getElem? (i := 140) rfl, by decide +kernel, ⟨by decide +kernel, by decide +kernel⟩, by decide +kernel, rfl, by decide⟩
theorem hs_X9_image : hsOf mX9_image = [] := by decide +kernel
theorem vi_X9_image : MVi mX9_image := ⟨by decide, List.mem_of_getElem? (i := 708) (by decide +kernel), List.mem_of_getElem? (i := 709) (by decide +kernel)⟩
abbrev mX1_take : aM := (yX1_take, cX1_take, 2, (some .int), 1, 1)
set_option maxRecDepth 100000 in
theorem ok_X1_take : MOk mX1_take := ⟨List.mem_of_getElem? (i := 714) rfl, List.mem_of_getElem? (i := 142) rfl, by decide +kernel, ⟨by decide +kernel, by decide +kernel⟩, by decide +kernel, rfl, by decide⟩
theorem hs_X1_take : hsOf mX1_take = [] := by decide +kernel
theorem vi_X1_take : MVi mX1_take := ⟨by decide, List.mem_of_getElem? (i := 713) (by decide +kernel), List.mem_of_getElem? (i := 28) (by decide +kernel)⟩
abbrev mX9_restore : aM := (yX9_restore, cX9_restore, 1, (some .int), 9, 0)
set_option maxRecDepth 100000 in
theorem ok_X9_restore : MOk mX9_restore := ⟨List.mem_of_getElem? (i := 721) rfl, List.mem_of_getElem? (i := 140) rfl, by decide +kernel, ⟨by decide +kernel, by decide +kernel⟩, by decide +kernel, rfl, by decide⟩
theorem hs_X9_restore : hsOf mX9_restore = [] := by decide +kernel
theorem vi_X9_restore : MVi mX9_restore := ⟨by decide, List.mem_of_getElem? (i := 719) (by decide +kernel), List.mem_of_getElem? (i := 720) (by decide +kernel)⟩
abbrev mX1_giveBack : aM := (yX1_giveBack, cX1_giveBack, 2, (some .int), 1, 1)
set_option maxRecDepth 100000 in
theorem ok_X1_giveBack : MOk mX1_giveBack := ⟨List.mem_of_getElem? (i := 725) rfl, List.mem_of_getElem? (i := 142) rfl, by decide +kernel, ⟨by decide +kernel, by decide +kernel⟩, by decide +kernel, rfl, by decide⟩
theorem hs_X1_giveBack : hsOf mX1_giveBack = [] := by decide +kernel
theorem vi_X1_giveBack : MVi mX1_giveBack := ⟨by decide, List.mem_of_getElem? (i := 724) (by decide +kernel), List.mem_of_getElem? (i := 29) (by decide +kernel)⟩
abbrev mX9_status : aM := (yX9_status, cX9_status, 2, (some .int), 9, 1)
set_option maxRecDepth 100000 in
theorem ok_X9_status : MOk mX9_status := ⟨List.mem_of_getElem? (i := 729) rfl, List.mem_of_getElem? (i := 140) rfl, by decide +kernel, ⟨by decide +kernel, by decide +kernel⟩, by decide +kernel, rfl, by decide⟩
theorem hs_X9_status : hsOf mX9_status = [] := by decide +kernel
theorem vi_X9_status : MVi mX9_status := ⟨by decide, List.mem_of_getElem? (i := 727) (by decide +kernel), List.mem_of_getElem? (i := 728) (by decide +kernel)⟩
abbrev mX9_count : aM := (yX9_count, cX9_count, 2, (some .int), 9, 1)
set_option maxRecDepth 100000 in
theorem ok_X9_count : MOk mX9_count := ⟨List.mem_of_getElem? (i := 733) rfl, List.mem_of_getElem? (i := 140) rfl, by decide +kernel, ⟨by decide +kernel, by decide +kernel⟩, by decide +kernel, rfl, by decide⟩
theorem hs_X9_count : hsOf mX9_count = [] := by decide +kernel
theorem vi_X9_count : MVi mX9_count := ⟨by decide, List.mem_of_getElem? (i := 731) (by decide +kernel), List.mem_of_getElem? (i := 732) (by decide +kernel)⟩
abbrev mL_market : aM := (yL_market, cL_market, 4, (some .int), 11, 3)
set_option maxRecDepth 100000 in
theorem ok_L_market : MOk mL_market := ⟨List.mem_of_getElem? (i := 736) rfl, List.mem_of_getElem? (i := 139) rfl, by decide +kernel, ⟨by decide +kernel, by decide +kernel⟩, by decide +kernel, rfl, by decide⟩
theorem hs_L_market : hsOf mL_market ≠ [] := by decide +kernel
theorem st_L_market : MSt mL_market := List.mem_of_getElem? (i := 735) (by decide +kernel)
abbrev mX9_market : aM := (yX9_market, cX9_market, 4, (some .int), 9, 1)
set_option maxRecDepth 100000 in
theorem ok_X9_market : MOk mX9_market := ⟨List.mem_of_getElem? (i := 741) rfl, List.mem_of_getElem? (i := 140) rfl, by decide +kernel, ⟨by decide +kernel, by decide +kernel⟩, by decide +kernel, rfl, by decide⟩
theorem hs_X9_market : hsOf mX9_market = [] := by decide +kernel
theorem vi_X9_market : MVi mX9_market := ⟨by decide, List.mem_of_getElem? (i := 739) (by decide +kernel), List.mem_of_getElem? (i := 740) (by decide +kernel)⟩
abbrev mX9_require : aM := (yX9_require, cX9_require, 2, none, 9, 1)
set_option maxRecDepth 100000 in
theorem ok_X9_require : MOk mX9_require := ⟨List.mem_of_getElem? (i := 745) rfl, List.mem_of_getElem? (i := 140) rfl, by decide +kernel, ⟨by decide +kernel, by decide +kernel⟩, by decide +kernel, rfl, by decide⟩
theorem hs_X9_require : hsOf mX9_require = [] := by decide +kernel
theorem vi_X9_require : MVi mX9_require := ⟨by decide, List.mem_of_getElem? (i := 744) (by decide +kernel), List.mem_of_getElem? (i := 30) (by decide +kernel)⟩
abbrev mX5_read : aM := (yX5_read, cX5_read, 4, (some .int), 5, 2)
set_option maxRecDepth 100000 in
theorem ok_X5_read : MOk mX5_read := ⟨List.mem_of_getElem? (i := 815) rfl, List.mem_of_getElem? (i := 141) rfl, by decide +kernel, ⟨by decide +kernel, by decide +kernel⟩, by decide +kernel, rfl, by decide⟩
theorem hs_X5_read : hsOf mX5_read = [] := by decide +kernel
theorem vi_X5_read : MVi mX5_read := ⟨by decide, List.mem_of_getElem? (i := 814) (by decide +kernel), List.mem_of_getElem? (i := 32) (by decide +kernel)⟩
abbrev mX5_skipBlanks : aM := (yX5_skipBlanks, cX5_skipBlanks, 1, none, 5, 0)
set_option maxRecDepth 100000 in
theorem ok_X5_skipBlanks : MOk mX5_skipBlanks := ⟨List.mem_of_getElem? (i := 821) rfl, List.mem_of_getElem? (i := 141) rfl, by decide +kernel, ⟨by decide +kernel, by decide +kernel⟩, by decide +kernel, rfl, by decide⟩
theorem hs_X5_skipBlanks : hsOf mX5_skipBlanks = [] := by decide +kernel
theorem vi_X5_skipBlanks : MVi mX5_skipBlanks := ⟨by decide, List.mem_of_getElem? (i := 820) (by decide +kernel), List.mem_of_getElem? (i := 33) (by decide +kernel)⟩
abbrev mX5_here : aM := (yX5_here, cX5_here, 1, (some .int), 5, 0)
set_option maxRecDepth 100000 in
theorem ok_X5_here : MOk mX5_here := ⟨List.mem_of_getElem? (i := 825) rfl, List.mem_of_getElem? (i := 141) rfl, by decide +kernel, ⟨by decide +kernel, by decide +kernel⟩, by decide +kernel, rfl, by decide⟩
theorem hs_X5_here : hsOf mX5_here = [] := by decide +kernel
theorem vi_X5_here : MVi mX5_here := ⟨by decide, List.mem_of_getElem? (i := 824) (by decide +kernel), List.mem_of_getElem? (i := 34) (by decide +kernel)⟩
abbrev mX5_readClause : aM := (yX5_readClause, cX5_readClause, 4, none, 5, 1)
set_option maxRecDepth 100000 in
theorem ok_X5_readClause : MOk mX5_readClause := ⟨List.mem_of_getElem? (i := 829) rfl, List.mem_of_getElem? (i := 141) rfl, by decide +kernel, ⟨by decide +kernel, by decide +kernel⟩, by decide +kernel, rfl, by decide⟩
theorem hs_X5_readClause : hsOf mX5_readClause = [] := by decide +kernel
theorem vi_X5_readClause : MVi mX5_readClause := ⟨by decide, List.mem_of_getElem? (i := 828) (by decide +kernel), List.mem_of_getElem? (i := 35) (by decide +kernel)⟩
abbrev mX5_readWord : aM := (yX5_readWord, cX5_readWord, 3, (some .int), 5, 0)
set_option maxRecDepth 100000 in
theorem ok_X5_readWord : MOk mX5_readWord := ⟨List.mem_of_getElem? (i := 833) rfl, List.mem_of_getElem? (i := 141) rfl, by decide +kernel, ⟨by decide +kernel, by decide +kernel⟩, by decide +kernel, rfl, by decide⟩
theorem hs_X5_readWord : hsOf mX5_readWord = [] := by decide +kernel
theorem vi_X5_readWord : MVi mX5_readWord := ⟨by decide, List.mem_of_getElem? (i := 832) (by decide +kernel), List.mem_of_getElem? (i := 36) (by decide +kernel)⟩
abbrev mX5_nameOf : aM := (yX5_nameOf, cX5_nameOf, 1, (some (.object "java/lang/String")), 5, 1)
set_option maxRecDepth 100000 in
theorem ok_X5_nameOf : MOk mX5_nameOf := ⟨List.mem_of_getElem? (i := 836) rfl, List.mem_of_getElem? (i := 141) rfl, by decide +kernel, ⟨by decide +kernel, by decide +kernel⟩, by decide +kernel, rfl, by decide⟩
theorem hs_X5_nameOf : hsOf mX5_nameOf = [] := by decide +kernel
theorem st_X5_nameOf : MSt mX5_nameOf := List.mem_of_getElem? (i := 835) (by decide +kernel)
abbrev mX5_isWord : aM := (yX5_isWord, cX5_isWord, 4, (some .boolean), 5, 2)
set_option maxRecDepth 100000 in
theorem ok_X5_isWord : MOk mX5_isWord := ⟨List.mem_of_getElem? (i := 850) rfl, List.mem_of_getElem? (i := 141) rfl, by decide +kernel, ⟨by decide +kernel, by decide +kernel⟩, by decide +kernel, rfl, by decide⟩
theorem hs_X5_isWord : hsOf mX5_isWord = [] := by decide +kernel
theorem vi_X5_isWord : MVi mX5_isWord := ⟨by decide, List.mem_of_getElem? (i := 849) (by decide +kernel), List.mem_of_getElem? (i := 37) (by decide +kernel)⟩
abbrev mX5_blame : aM := (yX5_blame, cX5_blame, 3, none, 5, 2)
set_option maxRecDepth 100000 in
theorem ok_X5_blame : MOk mX5_blame := ⟨List.mem_of_getElem? (i := 902) rfl, List.mem_of_getElem? (i := 141) rfl, by decide +kernel, ⟨by decide +kernel, by decide +kernel⟩, by decide +kernel, rfl, by decide⟩
theorem hs_X5_blame : hsOf mX5_blame = [] := by decide +kernel
theorem vi_X5_blame : MVi mX5_blame := ⟨by decide, List.mem_of_getElem? (i := 901) (by decide +kernel), List.mem_of_getElem? (i := 38) (by decide +kernel)⟩
abbrev mX5_isFull : aM := (yX5_isFull, cX5_isFull, 3, (some .boolean), 5, 2)
set_option maxRecDepth 100000 in
theorem ok_X5_isFull : MOk mX5_isFull := ⟨List.mem_of_getElem? (i := 906) rfl, List.mem_of_getElem? (i := 141) rfl, by decide +kernel, ⟨by decide +kernel, by decide +kernel⟩, by decide +kernel, rfl, by decide⟩
theorem hs_X5_isFull : hsOf mX5_isFull = [] := by decide +kernel
theorem vi_X5_isFull : MVi mX5_isFull := ⟨by decide, List.mem_of_getElem? (i := 905) (by decide +kernel), List.mem_of_getElem? (i := 39) (by decide +kernel)⟩
abbrev mX5_readNumbers : aM := (yX5_readNumbers, cX5_readNumbers, 3, none, 5, 2)
set_option maxRecDepth 100000 in
theorem ok_X5_readNumbers : MOk mX5_readNumbers := ⟨List.mem_of_getElem? (i := 910) rfl, List.mem_of_getElem? (i := 141) rfl, by decide +kernel, ⟨by decide +kernel, by decide +kernel⟩, by decide +kernel, rfl, by decide⟩
theorem hs_X5_readNumbers : hsOf mX5_readNumbers = [] := by decide +kernel
theorem vi_X5_readNumbers : MVi mX5_readNumbers := ⟨by decide, List.mem_of_getElem? (i := 909) (by decide +kernel), List.mem_of_getElem? (i := 40) (by decide +kernel)⟩
abbrev mX5_readNumber : aM := (yX5_readNumber, cX5_readNumber, 5, (some .int), 5, 2)
set_option maxRecDepth 100000 in
theorem ok_X5_readNumber : MOk mX5_readNumber := ⟨List.mem_of_getElem? (i := 914) rfl, List.mem_of_getElem? (i := 141) rfl, by decide +kernel, ⟨by decide +kernel, by decide +kernel⟩, by decide +kernel, rfl, by decide⟩
theorem hs_X5_readNumber : hsOf mX5_readNumber = [] := by decide +kernel
theorem vi_X5_readNumber : MVi mX5_readNumber := ⟨by decide, List.mem_of_getElem? (i := 913) (by decide +kernel), List.mem_of_getElem? (i := 41) (by decide +kernel)⟩
abbrev mX5_readStall : aM := (yX5_readStall, cX5_readStall, 6, none, 5, 1)
set_option maxRecDepth 100000 in
theorem ok_X5_readStall : MOk mX5_readStall := ⟨List.mem_of_getElem? (i := 919) rfl, List.mem_of_getElem? (i := 141) rfl, by decide +kernel, ⟨by decide +kernel, by decide +kernel⟩, by decide +kernel, rfl, by decide⟩
theorem hs_X5_readStall : hsOf mX5_readStall = [] := by decide +kernel
theorem vi_X5_readStall : MVi mX5_readStall := ⟨by decide, List.mem_of_getElem? (i := 918) (by decide +kernel), List.mem_of_getElem? (i := 42) (by decide +kernel)⟩
abbrev mX7_whoIsAt : aM := (yX7_whoIsAt, cX7_whoIsAt, 4, (some .int), 7, 2)
set_option maxRecDepth 100000 in
theorem ok_X7_whoIsAt : MOk mX7_whoIsAt := ⟨List.mem_of_getElem? (i := 923) rfl, List.mem_of_getElem? (i := 148) rfl, by decide +kernel, ⟨by decide +kernel, by decide +kernel⟩, by decide +kernel, rfl, by decide⟩
theorem hs_X7_whoIsAt : hsOf mX7_whoIsAt = [] := by decide +kernel
theorem vi_X7_whoIsAt : MVi mX7_whoIsAt := ⟨by decide, List.mem_of_getElem? (i := 922) (by decide +kernel), List.mem_of_getElem? (i := 43) (by decide +kernel)⟩
abbrev mX7_add : aM := (yX7_add, cX7_add, 4, none, 7, 3)
set_option maxRecDepth 100000 in
theorem ok_X7_add : MOk mX7_add := ⟨List.mem_of_getElem? (i := 927) rfl, List.mem_of_getElem? (i := 148) rfl, by decide +kernel, ⟨by decide +kernel, by decide +kernel⟩, by decide +kernel, rfl, by decide⟩
theorem hs_X7_add : hsOf mX7_add = [] := by decide +kernel
theorem vi_X7_add : MVi mX7_add := ⟨by decide, List.mem_of_getElem? (i := 926) (by decide +kernel), List.mem_of_getElem? (i := 44) (by decide +kernel)⟩
abbrev mX5_readSun : aM := (yX5_readSun, cX5_readSun, 4, none, 5, 1)
set_option maxRecDepth 100000 in
theorem ok_X5_readSun : MOk mX5_readSun := ⟨List.mem_of_getElem? (i := 931) rfl, List.mem_of_getElem? (i := 141) rfl, by decide +kernel, ⟨by decide +kernel, by decide +kernel⟩, by decide +kernel, rfl, by decide⟩
theorem hs_X5_readSun : hsOf mX5_readSun = [] := by decide +kernel
theorem vi_X5_readSun : MVi mX5_readSun := ⟨by decide, List.mem_of_getElem? (i := 930) (by decide +kernel), List.mem_of_getElem? (i := 45) (by decide +kernel)⟩
abbrev mX0_tell : aM := (yX0_tell, cX0_tell, 5, none, 0, 2)
set_option maxRecDepth 100000 in
theorem ok_X0_tell : MOk mX0_tell := ⟨List.mem_of_getElem? (i := 935) rfl, List.mem_of_getElem? (i := 149) rfl, by decide +kernel, ⟨by decide +kernel, by decide +kernel⟩, by decide +kernel, rfl, by decide⟩
theorem hs_X0_tell : hsOf mX0_tell = [] := by decide +kernel
theorem vi_X0_tell : MVi mX0_tell := ⟨by decide, List.mem_of_getElem? (i := 934) (by decide +kernel), List.mem_of_getElem? (i := 46) (by decide +kernel)⟩
abbrev mX5_readRate : aM := (yX5_readRate, cX5_readRate, 3, none, 5, 1)
set_option maxRecDepth 100000 in
theorem ok_X5_readRate : MOk mX5_readRate := ⟨List.mem_of_getElem? (i := 939) rfl, List.mem_of_getElem? (i := 141) rfl, by decide +kernel, ⟨by decide +kernel, by decide +kernel⟩, by decide +kernel, rfl, by decide⟩
theorem hs_X5_readRate : hsOf mX5_readRate = [] := by decide +kernel
theorem vi_X5_readRate : MVi mX5_readRate := ⟨by decide, List.mem_of_getElem? (i := 938) (by decide +kernel), List.mem_of_getElem? (i := 47) (by decide +kernel)⟩
abbrev mX5_readOfStall : aM := (yX5_readOfStall, cX5_readOfStall, 4, none, 5, 2)
set_option maxRecDepth 100000 in
theorem ok_X5_readOfStall : MOk mX5_readOfStall := ⟨List.mem_of_getElem? (i := 943) rfl, List.mem_of_getElem? (i := 141) rfl, by decide +kernel, ⟨by decide +kernel, by decide +kernel⟩, by decide +kernel, rfl, by decide⟩
theorem hs_X5_readOfStall : hsOf mX5_readOfStall = [] := by decide +kernel
theorem vi_X5_readOfStall : MVi mX5_readOfStall := ⟨by decide, List.mem_of_getElem? (i := 942) (by decide +kernel), List.mem_of_getElem? (i := 48) (by decide +kernel)⟩
abbrev mX5_readEnd : aM := (yX5_readEnd, cX5_readEnd, 1, none, 5, 0)
set_option maxRecDepth 100000 in
theorem ok_X5_readEnd : MOk mX5_readEnd := ⟨List.mem_of_getElem? (i := 947) rfl, List.mem_of_getElem? (i := 141) rfl, by decide +kernel, ⟨by decide +kernel, by decide +kernel⟩, by decide +kernel, rfl, by decide⟩
theorem hs_X5_readEnd : hsOf mX5_readEnd = [] := by decide +kernel
theorem vi_X5_readEnd : MVi mX5_readEnd := ⟨by decide, List.mem_of_getElem? (i := 946) (by decide +kernel), List.mem_of_getElem? (i := 49) (by decide +kernel)⟩
abbrev mX6_look : aM := (yX6_look, cX6_look, 2, none, 6, 1)
set_option maxRecDepth 100000 in
theorem ok_X6_look : MOk mX6_look := ⟨List.mem_of_getElem? (i := 951) rfl, List.mem_of_getElem? (i := 145) rfl, by decide +kernel, ⟨by decide +kernel, by decide +kernel⟩, by decide +kernel, rfl, by decide⟩
theorem hs_X6_look : hsOf mX6_look = [] := by decide +kernel
theorem vi_X6_look : MVi mX6_look := ⟨by decide, List.mem_of_getElem? (i := 950) (by decide +kernel), List.mem_of_getElem? (i := 50) (by decide +kernel)⟩
abbrev mX2_weighMinutes : aM := (yX2_weighMinutes, cX2_weighMinutes, 4, none, 2, 1)
set_option maxRecDepth 100000 in
theorem ok_X2_weighMinutes : MOk mX2_weighMinutes := ⟨List.mem_of_getElem? (i := 955) rfl, List.mem_of_getElem? (i := 147) rfl, by decide +kernel, ⟨by decide +kernel, by decide +kernel⟩, by decide +kernel, rfl, by decide⟩
theorem hs_X2_weighMinutes : hsOf mX2_weighMinutes = [] := by decide +kernel
theorem vi_X2_weighMinutes : MVi mX2_weighMinutes := ⟨by decide, List.mem_of_getElem? (i := 954) (by decide +kernel), List.mem_of_getElem? (i := 51) (by decide +kernel)⟩
abbrev mL_told : aM := (yL_told, cL_told, 4, (some .int), 11, 3)
set_option maxRecDepth 100000 in
theorem ok_L_told : MOk mL_told := ⟨List.mem_of_getElem? (i := 958) rfl, List.mem_of_getElem? (i := 139) rfl, by decide +kernel, ⟨by decide +kernel, by decide +kernel⟩, by decide +kernel, rfl, by decide⟩
theorem hs_L_told : hsOf mL_told ≠ [] := by decide +kernel
theorem st_L_told : MSt mL_told := List.mem_of_getElem? (i := 957) (by decide +kernel)
abbrev mX9_told : aM := (yX9_told, cX9_told, 2, (some .int), 9, 1)
set_option maxRecDepth 100000 in
theorem ok_X9_told : MOk mX9_told := ⟨List.mem_of_getElem? (i := 962) rfl, List.mem_of_getElem? (i := 140) rfl, by decide +kernel, ⟨by decide +kernel, by decide +kernel⟩, by decide +kernel, rfl, by decide⟩
theorem hs_X9_told : hsOf mX9_told = [] := by decide +kernel
theorem vi_X9_told : MVi mX9_told := ⟨by decide, List.mem_of_getElem? (i := 960) (by decide +kernel), List.mem_of_getElem? (i := 961) (by decide +kernel)⟩
abbrev mL_stall : aM := (yL_stall, cL_stall, 5, (some .int), 11, 4)
set_option maxRecDepth 100000 in
theorem ok_L_stall : MOk mL_stall := ⟨List.mem_of_getElem? (i := 965) rfl, List.mem_of_getElem? (i := 139) rfl, by decide +kernel, ⟨by decide +kernel, by decide +kernel⟩, by decide +kernel, rfl, by decide⟩
theorem hs_L_stall : hsOf mL_stall ≠ [] := by decide +kernel
theorem st_L_stall : MSt mL_stall := List.mem_of_getElem? (i := 964) (by decide +kernel)
abbrev mX9_stall : aM := (yX9_stall, cX9_stall, 4, (some .int), 9, 2)
set_option maxRecDepth 100000 in
theorem ok_X9_stall : MOk mX9_stall := ⟨List.mem_of_getElem? (i := 970) rfl, List.mem_of_getElem? (i := 140) rfl, by decide +kernel, ⟨by decide +kernel, by decide +kernel⟩, by decide +kernel, rfl, by decide⟩
theorem hs_X9_stall : hsOf mX9_stall = [] := by decide +kernel
theorem vi_X9_stall : MVi mX9_stall := ⟨by decide, List.mem_of_getElem? (i := 968) (by decide +kernel), List.mem_of_getElem? (i := 969) (by decide +kernel)⟩
abbrev mX9_requireStall : aM := (yX9_requireStall, cX9_requireStall, 2, none, 9, 1)
set_option maxRecDepth 100000 in
theorem ok_X9_requireStall : MOk mX9_requireStall := ⟨List.mem_of_getElem? (i := 974) rfl, List.mem_of_getElem? (i := 140) rfl, by decide +kernel, ⟨by decide +kernel, by decide +kernel⟩, by decide +kernel, rfl, by decide⟩
theorem hs_X9_requireStall : hsOf mX9_requireStall = [] := by decide +kernel
theorem vi_X9_requireStall : MVi mX9_requireStall := ⟨by decide, List.mem_of_getElem? (i := 973) (by decide +kernel), List.mem_of_getElem? (i := 52) (by decide +kernel)⟩
abbrev mL_length : aM := (yL_length, cL_length, 5, (some .int), 11, 4)
set_option maxRecDepth 100000 in
theorem ok_L_length : MOk mL_length := ⟨List.mem_of_getElem? (i := 993) rfl, List.mem_of_getElem? (i := 139) rfl, by decide +kernel, ⟨by decide +kernel, by decide +kernel⟩, by decide +kernel, rfl, by decide⟩
theorem hs_L_length : hsOf mL_length ≠ [] := by decide +kernel
theorem st_L_length : MSt mL_length := List.mem_of_getElem? (i := 992) (by decide +kernel)
abbrev mX9_length : aM := (yX9_length, cX9_length, 3, (some .int), 9, 2)
set_option maxRecDepth 100000 in
theorem ok_X9_length : MOk mX9_length := ⟨List.mem_of_getElem? (i := 997) rfl, List.mem_of_getElem? (i := 140) rfl, by decide +kernel, ⟨by decide +kernel, by decide +kernel⟩, by decide +kernel, rfl, by decide⟩
theorem hs_X9_length : hsOf mX9_length = [] := by decide +kernel
theorem vi_X9_length : MVi mX9_length := ⟨by decide, List.mem_of_getElem? (i := 995) (by decide +kernel), List.mem_of_getElem? (i := 996) (by decide +kernel)⟩
abbrev mX9_isMinute : aM := (yX9_isMinute, cX9_isMinute, 1, (some .boolean), 9, 1)
set_option maxRecDepth 100000 in
theorem ok_X9_isMinute : MOk mX9_isMinute := ⟨List.mem_of_getElem? (i := 1000) rfl, List.mem_of_getElem? (i := 140) rfl, by decide +kernel, ⟨by decide +kernel, by decide +kernel⟩, by decide +kernel, rfl, by decide⟩
theorem hs_X9_isMinute : hsOf mX9_isMinute = [] := by decide +kernel
theorem st_X9_isMinute : MSt mX9_isMinute := List.mem_of_getElem? (i := 999) (by decide +kernel)
abbrev mX6_reach : aM := (yX6_reach, cX6_reach, 4, (some .int), 6, 2)
set_option maxRecDepth 100000 in
theorem ok_X6_reach : MOk mX6_reach := ⟨List.mem_of_getElem? (i := 1004) rfl, List.mem_of_getElem? (i := 145) rfl, by decide +kernel, ⟨by decide +kernel, by decide +kernel⟩, by decide +kernel, rfl, by decide⟩
theorem hs_X6_reach : hsOf mX6_reach = [] := by decide +kernel
theorem vi_X6_reach : MVi mX6_reach := ⟨by decide, List.mem_of_getElem? (i := 1003) (by decide +kernel), List.mem_of_getElem? (i := 53) (by decide +kernel)⟩
abbrev mX2_sunAt : aM := (yX2_sunAt, cX2_sunAt, 2, (some .int), 2, 1)
set_option maxRecDepth 100000 in
theorem ok_X2_sunAt : MOk mX2_sunAt := ⟨List.mem_of_getElem? (i := 1008) rfl, List.mem_of_getElem? (i := 147) rfl, by decide +kernel, ⟨by decide +kernel, by decide +kernel⟩, by decide +kernel, rfl, by decide⟩
theorem hs_X2_sunAt : hsOf mX2_sunAt = [] := by decide +kernel
theorem vi_X2_sunAt : MVi mX2_sunAt := ⟨by decide, List.mem_of_getElem? (i := 1007) (by decide +kernel), List.mem_of_getElem? (i := 54) (by decide +kernel)⟩
abbrev mX0_valueAt : aM := (yX0_valueAt, cX0_valueAt, 5, (some .int), 0, 2)
set_option maxRecDepth 100000 in
theorem ok_X0_valueAt : MOk mX0_valueAt := ⟨List.mem_of_getElem? (i := 1012) rfl, List.mem_of_getElem? (i := 149) rfl, by decide +kernel, ⟨by decide +kernel, by decide +kernel⟩, by decide +kernel, rfl, by decide⟩
theorem hs_X0_valueAt : hsOf mX0_valueAt = [] := by decide +kernel
theorem vi_X0_valueAt : MVi mX0_valueAt := ⟨by decide, List.mem_of_getElem? (i := 1011) (by decide +kernel), List.mem_of_getElem? (i := 55) (by decide +kernel)⟩
abbrev mL_shades : aM := (yL_shades, cL_shades, 6, (some .int), 11, 5)
set_option maxRecDepth 100000 in
theorem ok_L_shades : MOk mL_shades := ⟨List.mem_of_getElem? (i := 1015) rfl, List.mem_of_getElem? (i := 139) rfl, by decide +kernel, ⟨by decide +kernel, by decide +kernel⟩, by decide +kernel, rfl, by decide⟩
theorem hs_L_shades : hsOf mL_shades ≠ [] := by decide +kernel
theorem st_L_shades : MSt mL_shades := List.mem_of_getElem? (i := 1014) (by decide +kernel)
abbrev mX9_shades : aM := (yX9_shades, cX9_shades, 4, (some .boolean), 9, 3)
set_option maxRecDepth 100000 in
theorem ok_X9_shades : MOk mX9_shades := ⟨List.mem_of_getElem? (i := 1019) rfl, List.mem_of_getElem? (i := 140) rfl, by decide +kernel, ⟨by decide +kernel, by decide +kernel⟩, by decide +kernel, rfl, by decide⟩
theorem hs_X9_shades : hsOf mX9_shades = [] := by decide +kernel
theorem vi_X9_shades : MVi mX9_shades := ⟨by decide, List.mem_of_getElem? (i := 1017) (by decide +kernel), List.mem_of_getElem? (i := 1018) (by decide +kernel)⟩
abbrev mX9_requireTwo : aM := (yX9_requireTwo, cX9_requireTwo, 3, none, 9, 2)
set_option maxRecDepth 100000 in
theorem ok_X9_requireTwo : MOk mX9_requireTwo := ⟨List.mem_of_getElem? (i := 1023) rfl, List.mem_of_getElem? (i := 140) rfl, by decide +kernel, ⟨by decide +kernel, by decide +kernel⟩, by decide +kernel, rfl, by decide⟩
theorem hs_X9_requireTwo : hsOf mX9_requireTwo = [] := by decide +kernel
theorem vi_X9_requireTwo : MVi mX9_requireTwo := ⟨by decide, List.mem_of_getElem? (i := 1022) (by decide +kernel), List.mem_of_getElem? (i := 56) (by decide +kernel)⟩
abbrev mX6_falls : aM := (yX6_falls, cX6_falls, 5, (some .boolean), 6, 3)
set_option maxRecDepth 100000 in
theorem ok_X6_falls : MOk mX6_falls := ⟨List.mem_of_getElem? (i := 1028) rfl, List.mem_of_getElem? (i := 145) rfl, by decide +kernel, ⟨by decide +kernel, by decide +kernel⟩, by decide +kernel, rfl, by decide⟩
theorem hs_X6_falls : hsOf mX6_falls = [] := by decide +kernel
theorem vi_X6_falls : MVi mX6_falls := ⟨by decide, List.mem_of_getElem? (i := 1027) (by decide +kernel), List.mem_of_getElem? (i := 57) (by decide +kernel)⟩
abbrev mL_under : aM := (yL_under, cL_under, 5, (some .int), 11, 4)
set_option maxRecDepth 100000 in
theorem ok_L_under : MOk mL_under := ⟨List.mem_of_getElem? (i := 1031) rfl, List.mem_of_getElem? (i := 139) rfl, by decide +kernel, ⟨by decide +kernel, by decide +kernel⟩, by decide +kernel, rfl, by decide⟩
theorem hs_L_under : hsOf mL_under ≠ [] := by decide +kernel
theorem st_L_under : MSt mL_under := List.mem_of_getElem? (i := 1030) (by decide +kernel)
abbrev mX9_under : aM := (yX9_under, cX9_under, 3, (some .int), 9, 2)
set_option maxRecDepth 100000 in
theorem ok_X9_under : MOk mX9_under := ⟨List.mem_of_getElem? (i := 1035) rfl, List.mem_of_getElem? (i := 140) rfl, by decide +kernel, ⟨by decide +kernel, by decide +kernel⟩, by decide +kernel, rfl, by decide⟩
theorem hs_X9_under : hsOf mX9_under = [] := by decide +kernel
theorem vi_X9_under : MVi mX9_under := ⟨by decide, List.mem_of_getElem? (i := 1033) (by decide +kernel), List.mem_of_getElem? (i := 1034) (by decide +kernel)⟩
abbrev mX6_throwers : aM := (yX6_throwers, cX6_throwers, 5, (some .int), 6, 2)
set_option maxRecDepth 100000 in
theorem ok_X6_throwers : MOk mX6_throwers := ⟨List.mem_of_getElem? (i := 1039) rfl, List.mem_of_getElem? (i := 145) rfl, by decide +kernel, ⟨by decide +kernel, by decide +kernel⟩, by decide +kernel, rfl, by decide⟩
theorem hs_X6_throwers : hsOf mX6_throwers = [] := by decide +kernel
theorem vi_X6_throwers : MVi mX6_throwers := ⟨by decide, List.mem_of_getElem? (i := 1038) (by decide +kernel), List.mem_of_getElem? (i := 58) (by decide +kernel)⟩
abbrev mL_minutes : aM := (yL_minutes, cL_minutes, 5, (some .int), 11, 4)
set_option maxRecDepth 100000 in
theorem ok_L_minutes : MOk mL_minutes := ⟨List.mem_of_getElem? (i := 1043) rfl, List.mem_of_getElem? (i := 139) rfl, by decide +kernel, ⟨by decide +kernel, by decide +kernel⟩, by decide +kernel, rfl, by decide⟩
theorem hs_L_minutes : hsOf mL_minutes ≠ [] := by decide +kernel
theorem st_L_minutes : MSt mL_minutes := List.mem_of_getElem? (i := 1042) (by decide +kernel)
abbrev mX9_minutes : aM := (yX9_minutes, cX9_minutes, 3, (some .int), 9, 2)
set_option maxRecDepth 100000 in
theorem ok_X9_minutes : MOk mX9_minutes := ⟨List.mem_of_getElem? (i := 1047) rfl, List.mem_of_getElem? (i := 140) rfl, by decide +kernel, ⟨by decide +kernel, by decide +kernel⟩, by decide +kernel, rfl, by decide⟩
theorem hs_X9_minutes : hsOf mX9_minutes = [] := by decide +kernel
theorem vi_X9_minutes : MVi mX9_minutes := ⟨by decide, List.mem_of_getElem? (i := 1045) (by decide +kernel), List.mem_of_getElem? (i := 1046) (by decide +kernel)⟩
abbrev mX8_at : aM := (yX8_at, cX8_at, 2, (some .int), 8, 1)
set_option maxRecDepth 100000 in
theorem ok_X8_at : MOk mX8_at := ⟨List.mem_of_getElem? (i := 1052) rfl, List.mem_of_getElem? (i := 146) rfl, by decide +kernel, ⟨by decide +kernel, by decide +kernel⟩, by decide +kernel, rfl, by decide⟩
theorem hs_X8_at : hsOf mX8_at = [] := by decide +kernel
theorem vi_X8_at : MVi mX8_at := ⟨by decide, List.mem_of_getElem? (i := 1051) (by decide +kernel), List.mem_of_getElem? (i := 59) (by decide +kernel)⟩
abbrev mL_chill : aM := (yL_chill, cL_chill, 4, (some .int), 11, 3)
set_option maxRecDepth 100000 in
theorem ok_L_chill : MOk mL_chill := ⟨List.mem_of_getElem? (i := 1055) rfl, List.mem_of_getElem? (i := 139) rfl, by decide +kernel, ⟨by decide +kernel, by decide +kernel⟩, by decide +kernel, rfl, by decide⟩
theorem hs_L_chill : hsOf mL_chill ≠ [] := by decide +kernel
theorem st_L_chill : MSt mL_chill := List.mem_of_getElem? (i := 1054) (by decide +kernel)
abbrev mX9_chill : aM := (yX9_chill, cX9_chill, 2, (some .int), 9, 1)
set_option maxRecDepth 100000 in
theorem ok_X9_chill : MOk mX9_chill := ⟨List.mem_of_getElem? (i := 1059) rfl, List.mem_of_getElem? (i := 140) rfl, by decide +kernel, ⟨by decide +kernel, by decide +kernel⟩, by decide +kernel, rfl, by decide⟩
theorem hs_X9_chill : hsOf mX9_chill = [] := by decide +kernel
theorem vi_X9_chill : MVi mX9_chill := ⟨by decide, List.mem_of_getElem? (i := 1057) (by decide +kernel), List.mem_of_getElem? (i := 1058) (by decide +kernel)⟩
abbrev mX6_chillOf : aM := (yX6_chillOf, cX6_chillOf, 4, (some .int), 6, 1)
set_option maxRecDepth 100000 in
theorem ok_X6_chillOf : MOk mX6_chillOf := ⟨List.mem_of_getElem? (i := 1063) rfl, List.mem_of_getElem? (i := 145) rfl, by decide +kernel, ⟨by decide +kernel, by decide +kernel⟩, by decide +kernel, rfl, by decide⟩
theorem hs_X6_chillOf : hsOf mX6_chillOf = [] := by decide +kernel
theorem vi_X6_chillOf : MVi mX6_chillOf := ⟨by decide, List.mem_of_getElem? (i := 1062) (by decide +kernel), List.mem_of_getElem? (i := 60) (by decide +kernel)⟩
abbrev mX6_findLeast : aM := (yX6_findLeast, cX6_findLeast, 5, none, 6, 2)
set_option maxRecDepth 100000 in
theorem ok_X6_findLeast : MOk mX6_findLeast := ⟨List.mem_of_getElem? (i := 1067) rfl, List.mem_of_getElem? (i := 145) rfl, by decide +kernel, ⟨by decide +kernel, by decide +kernel⟩, by decide +kernel, rfl, by decide⟩
theorem hs_X6_findLeast : hsOf mX6_findLeast = [] := by decide +kernel
theorem vi_X6_findLeast : MVi mX6_findLeast := ⟨by decide, List.mem_of_getElem? (i := 1066) (by decide +kernel), List.mem_of_getElem? (i := 61) (by decide +kernel)⟩
abbrev mX6_minutesFrom : aM := (yX6_minutesFrom, cX6_minutesFrom, 3, (some .int), 6, 2)
set_option maxRecDepth 100000 in
theorem ok_X6_minutesFrom : MOk mX6_minutesFrom := ⟨List.mem_of_getElem? (i := 1072) rfl, List.mem_of_getElem? (i := 145) rfl, by decide +kernel, ⟨by decide +kernel, by decide +kernel⟩, by decide +kernel, rfl, by decide⟩
theorem hs_X6_minutesFrom : hsOf mX6_minutesFrom = [] := by decide +kernel
theorem vi_X6_minutesFrom : MVi mX6_minutesFrom := ⟨by decide, List.mem_of_getElem? (i := 1071) (by decide +kernel), List.mem_of_getElem? (i := 62) (by decide +kernel)⟩
abbrev mL_owes : aM := (yL_owes, cL_owes, 6, (some .int), 11, 5)
set_option maxRecDepth 100000 in
theorem ok_L_owes : MOk mL_owes := ⟨List.mem_of_getElem? (i := 1076) rfl, List.mem_of_getElem? (i := 139) rfl, by decide +kernel, ⟨by decide +kernel, by decide +kernel⟩, by decide +kernel, rfl, by decide⟩
theorem hs_L_owes : hsOf mL_owes ≠ [] := by decide +kernel
theorem st_L_owes : MSt mL_owes := List.mem_of_getElem? (i := 1075) (by decide +kernel)
abbrev mX9_owes : aM := (yX9_owes, cX9_owes, 4, (some .int), 9, 3)
set_option maxRecDepth 100000 in
theorem ok_X9_owes : MOk mX9_owes := ⟨List.mem_of_getElem? (i := 1080) rfl, List.mem_of_getElem? (i := 140) rfl, by decide +kernel, ⟨by decide +kernel, by decide +kernel⟩, by decide +kernel, rfl, by decide⟩
theorem hs_X9_owes : hsOf mX9_owes = [] := by decide +kernel
theorem vi_X9_owes : MVi mX9_owes := ⟨by decide, List.mem_of_getElem? (i := 1078) (by decide +kernel), List.mem_of_getElem? (i := 1079) (by decide +kernel)⟩
abbrev mX9_isEnd : aM := (yX9_isEnd, cX9_isEnd, 1, (some .boolean), 9, 1)
set_option maxRecDepth 100000 in
theorem ok_X9_isEnd : MOk mX9_isEnd := ⟨List.mem_of_getElem? (i := 1083) rfl, List.mem_of_getElem? (i := 140) rfl, by decide +kernel, ⟨by decide +kernel, by decide +kernel⟩, by decide +kernel, rfl, by decide⟩
theorem hs_X9_isEnd : hsOf mX9_isEnd = [] := by decide +kernel
theorem st_X9_isEnd : MSt mX9_isEnd := List.mem_of_getElem? (i := 1082) (by decide +kernel)
abbrev mX6_owed : aM := (yX6_owed, cX6_owed, 4, (some .int), 6, 3)
set_option maxRecDepth 100000 in
theorem ok_X6_owed : MOk mX6_owed := ⟨List.mem_of_getElem? (i := 1088) rfl, List.mem_of_getElem? (i := 145) rfl, by decide +kernel, ⟨by decide +kernel, by decide +kernel⟩, by decide +kernel, rfl, by decide⟩
theorem hs_X6_owed : hsOf mX6_owed = [] := by decide +kernel
theorem vi_X6_owed : MVi mX6_owed := ⟨by decide, List.mem_of_getElem? (i := 1087) (by decide +kernel), List.mem_of_getElem? (i := 63) (by decide +kernel)⟩
abbrev mL_net : aM := (yL_net, cL_net, 5, (some .int), 11, 4)
set_option maxRecDepth 100000 in
theorem ok_L_net : MOk mL_net := ⟨List.mem_of_getElem? (i := 1091) rfl, List.mem_of_getElem? (i := 139) rfl, by decide +kernel, ⟨by decide +kernel, by decide +kernel⟩, by decide +kernel, rfl, by decide⟩
theorem hs_L_net : hsOf mL_net ≠ [] := by decide +kernel
theorem st_L_net : MSt mL_net := List.mem_of_getElem? (i := 1090) (by decide +kernel)
abbrev mX9_net : aM := (yX9_net, cX9_net, 3, (some .int), 9, 2)
set_option maxRecDepth 100000 in
theorem ok_X9_net : MOk mX9_net := ⟨List.mem_of_getElem? (i := 1095) rfl, List.mem_of_getElem? (i := 140) rfl, by decide +kernel, ⟨by decide +kernel, by decide +kernel⟩, by decide +kernel, rfl, by decide⟩
theorem hs_X9_net : hsOf mX9_net = [] := by decide +kernel
theorem vi_X9_net : MVi mX9_net := ⟨by decide, List.mem_of_getElem? (i := 1093) (by decide +kernel), List.mem_of_getElem? (i := 1094) (by decide +kernel)⟩
abbrev mL_payments : aM := (yL_payments, cL_payments, 4, (some .int), 11, 3)
set_option maxRecDepth 100000 in
theorem ok_L_payments : MOk mL_payments := ⟨List.mem_of_getElem? (i := 1099) rfl, List.mem_of_getElem? (i := 139) rfl, by decide +kernel, ⟨by decide +kernel, by decide +kernel⟩, by decide +kernel, rfl, by decide⟩
theorem hs_L_payments : hsOf mL_payments ≠ [] := by decide +kernel
theorem st_L_payments : MSt mL_payments := List.mem_of_getElem? (i := 1098) (by decide +kernel)
abbrev mX9_payments : aM := (yX9_payments, cX9_payments, 2, (some .int), 9, 1)
set_option maxRecDepth 100000 in
theorem ok_X9_payments : MOk mX9_payments := ⟨List.mem_of_getElem? (i := 1103) rfl, List.mem_of_getElem? (i := 140) rfl, by decide +kernel, ⟨by decide +kernel, by decide +kernel⟩, by decide +kernel, rfl, by decide⟩
theorem hs_X9_payments : hsOf mX9_payments = [] := by decide +kernel
theorem vi_X9_payments : MVi mX9_payments := ⟨by decide, List.mem_of_getElem? (i := 1101) (by decide +kernel), List.mem_of_getElem? (i := 1102) (by decide +kernel)⟩
abbrev mX3_fewest : aM := (yX3_fewest, cX3_fewest, 5, (some .int), 3, 2)
set_option maxRecDepth 100000 in
theorem ok_X3_fewest : MOk mX3_fewest := ⟨List.mem_of_getElem? (i := 1107) rfl, List.mem_of_getElem? (i := 143) rfl, by decide +kernel, ⟨by decide +kernel, by decide +kernel⟩, by decide +kernel, rfl, by decide⟩
theorem hs_X3_fewest : hsOf mX3_fewest = [] := by decide +kernel
theorem vi_X3_fewest : MVi mX3_fewest := ⟨by decide, List.mem_of_getElem? (i := 1106) (by decide +kernel), List.mem_of_getElem? (i := 64) (by decide +kernel)⟩
abbrev mX3_gatherNets : aM := (yX3_gatherNets, cX3_gatherNets, 6, (some .int), 3, 2)
set_option maxRecDepth 100000 in
theorem ok_X3_gatherNets : MOk mX3_gatherNets := ⟨List.mem_of_getElem? (i := 1112) rfl, List.mem_of_getElem? (i := 143) rfl, by decide +kernel, ⟨by decide +kernel, by decide +kernel⟩, by decide +kernel, rfl, by decide⟩
theorem hs_X3_gatherNets : hsOf mX3_gatherNets = [] := by decide +kernel
theorem vi_X3_gatherNets : MVi mX3_gatherNets := ⟨by decide, List.mem_of_getElem? (i := 1111) (by decide +kernel), List.mem_of_getElem? (i := 65) (by decide +kernel)⟩
abbrev mX3_splitSet : aM := (yX3_splitSet, cX3_splitSet, 6, none, 3, 2)
set_option maxRecDepth 100000 in
theorem ok_X3_splitSet : MOk mX3_splitSet := ⟨List.mem_of_getElem? (i := 1117) rfl, List.mem_of_getElem? (i := 143) rfl, by decide +kernel, ⟨by decide +kernel, by decide +kernel⟩, by decide +kernel, rfl, by decide⟩
theorem hs_X3_splitSet : hsOf mX3_splitSet = [] := by decide +kernel
theorem vi_X3_splitSet : MVi mX3_splitSet := ⟨by decide, List.mem_of_getElem? (i := 1116) (by decide +kernel), List.mem_of_getElem? (i := 66) (by decide +kernel)⟩
abbrev mL_first : aM := (yL_first, cL_first, 4, (some .int), 11, 3)
set_option maxRecDepth 100000 in
theorem ok_L_first : MOk mL_first := ⟨List.mem_of_getElem? (i := 1121) rfl, List.mem_of_getElem? (i := 139) rfl, by decide +kernel, ⟨by decide +kernel, by decide +kernel⟩, by decide +kernel, rfl, by decide⟩
theorem hs_L_first : hsOf mL_first ≠ [] := by decide +kernel
theorem st_L_first : MSt mL_first := List.mem_of_getElem? (i := 1120) (by decide +kernel)
abbrev mX9_first : aM := (yX9_first, cX9_first, 2, (some .int), 9, 1)
set_option maxRecDepth 100000 in
theorem ok_X9_first : MOk mX9_first := ⟨List.mem_of_getElem? (i := 1125) rfl, List.mem_of_getElem? (i := 140) rfl, by decide +kernel, ⟨by decide +kernel, by decide +kernel⟩, by decide +kernel, rfl, by decide⟩
theorem hs_X9_first : hsOf mX9_first = [] := by decide +kernel
theorem vi_X9_first : MVi mX9_first := ⟨by decide, List.mem_of_getElem? (i := 1123) (by decide +kernel), List.mem_of_getElem? (i := 1124) (by decide +kernel)⟩
abbrev mX6_firstShade : aM := (yX6_firstShade, cX6_firstShade, 5, (some .int), 6, 1)
set_option maxRecDepth 100000 in
theorem ok_X6_firstShade : MOk mX6_firstShade := ⟨List.mem_of_getElem? (i := 1129) rfl, List.mem_of_getElem? (i := 145) rfl, by decide +kernel, ⟨by decide +kernel, by decide +kernel⟩, by decide +kernel, rfl, by decide⟩
theorem hs_X6_firstShade : hsOf mX6_firstShade = [] := by decide +kernel
theorem vi_X6_firstShade : MVi mX6_firstShade := ⟨by decide, List.mem_of_getElem? (i := 1128) (by decide +kernel), List.mem_of_getElem? (i := 67) (by decide +kernel)⟩
abbrev mX6_isAnybodyUnder : aM := (yX6_isAnybodyUnder, cX6_isAnybodyUnder, 3, (some .boolean), 6, 1)
set_option maxRecDepth 100000 in
theorem ok_X6_isAnybodyUnder : MOk mX6_isAnybodyUnder := ⟨List.mem_of_getElem? (i := 1133) rfl, List.mem_of_getElem? (i := 145) rfl, by decide +kernel, ⟨by decide +kernel, by decide +kernel⟩, by decide +kernel, rfl, by decide⟩
theorem hs_X6_isAnybodyUnder : hsOf mX6_isAnybodyUnder = [] := by decide +kernel
theorem vi_X6_isAnybodyUnder : MVi mX6_isAnybodyUnder := ⟨by decide, List.mem_of_getElem? (i := 1132) (by decide +kernel), List.mem_of_getElem? (i := 68) (by decide +kernel)⟩
abbrev mL_winter : aM := (yL_winter, cL_winter, 4, (some .int), 11, 3)
set_option maxRecDepth 100000 in
theorem ok_L_winter : MOk mL_winter := ⟨List.mem_of_getElem? (i := 1137) rfl, List.mem_of_getElem? (i := 139) rfl, by decide +kernel, ⟨by decide +kernel, by decide +kernel⟩, by decide +kernel, rfl, by decide⟩
theorem hs_L_winter : hsOf mL_winter ≠ [] := by decide +kernel
theorem st_L_winter : MSt mL_winter := List.mem_of_getElem? (i := 1136) (by decide +kernel)
abbrev mX9_winter : aM := (yX9_winter, cX9_winter, 3, (some .int), 9, 1)
set_option maxRecDepth 100000 in
theorem ok_X9_winter : MOk mX9_winter := ⟨List.mem_of_getElem? (i := 1141) rfl, List.mem_of_getElem? (i := 140) rfl, by decide +kernel, ⟨by decide +kernel, by decide +kernel⟩, by decide +kernel, rfl, by decide⟩
theorem hs_X9_winter : hsOf mX9_winter = [] := by decide +kernel
theorem vi_X9_winter : MVi mX9_winter := ⟨by decide, List.mem_of_getElem? (i := 1139) (by decide +kernel), List.mem_of_getElem? (i := 1140) (by decide +kernel)⟩
abbrev mX9_isBit : aM := (yX9_isBit, cX9_isBit, 1, (some .boolean), 9, 1)
set_option maxRecDepth 100000 in
theorem ok_X9_isBit : MOk mX9_isBit := ⟨List.mem_of_getElem? (i := 1144) rfl, List.mem_of_getElem? (i := 140) rfl, by decide +kernel, ⟨by decide +kernel, by decide +kernel⟩, by decide +kernel, rfl, by decide⟩
theorem hs_X9_isBit : hsOf mX9_isBit = [] := by decide +kernel
theorem st_X9_isBit : MSt mX9_isBit := List.mem_of_getElem? (i := 1143) (by decide +kernel)
abbrev mL_move : aM := (yL_move, cL_move, 6, (some .int), 11, 5)
set_option maxRecDepth 100000 in
theorem ok_L_move : MOk mL_move := ⟨List.mem_of_getElem? (i := 1147) rfl, List.mem_of_getElem? (i := 139) rfl, by decide +kernel, ⟨by decide +kernel, by decide +kernel⟩, by decide +kernel, rfl, by decide⟩
theorem hs_L_move : hsOf mL_move ≠ [] := by decide +kernel
theorem st_L_move : MSt mL_move := List.mem_of_getElem? (i := 1146) (by decide +kernel)
abbrev mX9_move : aM := (yX9_move, cX9_move, 4, (some .int), 9, 3)
set_option maxRecDepth 100000 in
theorem ok_X9_move : MOk mX9_move := ⟨List.mem_of_getElem? (i := 1151) rfl, List.mem_of_getElem? (i := 140) rfl, by decide +kernel, ⟨by decide +kernel, by decide +kernel⟩, by decide +kernel, rfl, by decide⟩
theorem hs_X9_move : hsOf mX9_move = [] := by decide +kernel
theorem vi_X9_move : MVi mX9_move := ⟨by decide, List.mem_of_getElem? (i := 1149) (by decide +kernel), List.mem_of_getElem? (i := 1150) (by decide +kernel)⟩
abbrev mL_tall : aM := (yL_tall, cL_tall, 5, (some .int), 11, 4)
set_option maxRecDepth 100000 in
theorem ok_L_tall : MOk mL_tall := ⟨List.mem_of_getElem? (i := 1156) rfl, List.mem_of_getElem? (i := 139) rfl, by decide +kernel, ⟨by decide +kernel, by decide +kernel⟩, by decide +kernel, rfl, by decide⟩
theorem hs_L_tall : hsOf mL_tall ≠ [] := by decide +kernel
theorem st_L_tall : MSt mL_tall := List.mem_of_getElem? (i := 1155) (by decide +kernel)
abbrev mX9_tall : aM := (yX9_tall, cX9_tall, 4, (some .int), 9, 2)
set_option maxRecDepth 100000 in
theorem ok_X9_tall : MOk mX9_tall := ⟨List.mem_of_getElem? (i := 1160) rfl, List.mem_of_getElem? (i := 140) rfl, by decide +kernel, ⟨by decide +kernel, by decide +kernel⟩, by decide +kernel, rfl, by decide⟩
theorem hs_X9_tall : hsOf mX9_tall = [] := by decide +kernel
theorem vi_X9_tall : MVi mX9_tall := ⟨by decide, List.mem_of_getElem? (i := 1158) (by decide +kernel), List.mem_of_getElem? (i := 1159) (by decide +kernel)⟩
abbrev mX9_isHeight : aM := (yX9_isHeight, cX9_isHeight, 1, (some .boolean), 9, 1)
set_option maxRecDepth 100000 in
theorem ok_X9_isHeight : MOk mX9_isHeight := ⟨List.mem_of_getElem? (i := 1163) rfl, List.mem_of_getElem? (i := 140) rfl, by decide +kernel, ⟨by decide +kernel, by decide +kernel⟩, by decide +kernel, rfl, by decide⟩
theorem hs_X9_isHeight : hsOf mX9_isHeight = [] := by decide +kernel
theorem st_X9_isHeight : MSt mX9_isHeight := List.mem_of_getElem? (i := 1162) (by decide +kernel)
abbrev mL_set : aM := (yL_set, cL_set, 5, (some .int), 11, 4)
set_option maxRecDepth 100000 in
theorem ok_L_set : MOk mL_set := ⟨List.mem_of_getElem? (i := 1166) rfl, List.mem_of_getElem? (i := 139) rfl, by decide +kernel, ⟨by decide +kernel, by decide +kernel⟩, by decide +kernel, rfl, by decide⟩
theorem hs_L_set : hsOf mL_set ≠ [] := by decide +kernel
theorem st_L_set : MSt mL_set := List.mem_of_getElem? (i := 1165) (by decide +kernel)
abbrev mX9_set : aM := (yX9_set, cX9_set, 5, (some .int), 9, 2)
set_option maxRecDepth 100000 in
theorem ok_X9_set : MOk mX9_set := ⟨List.mem_of_getElem? (i := 1170) rfl, List.mem_of_getElem? (i := 140) rfl, by decide +kernel, ⟨by decide +kernel, by decide +kernel⟩, by decide +kernel, rfl, by decide⟩
theorem hs_X9_set : hsOf mX9_set = [] := by decide +kernel
theorem vi_X9_set : MVi mX9_set := ⟨by decide, List.mem_of_getElem? (i := 1168) (by decide +kernel), List.mem_of_getElem? (i := 1169) (by decide +kernel)⟩
abbrev mJ6_bitCount_0f7a4 : aM := (yJ6_bitCount_0f7a4, cJ6_bitCount_0f7a4, 1, (some .int), 12, 1)
set_option maxRecDepth 100000 in
theorem ok_J6_bitCount_0f7a4 : MOk mJ6_bitCount_0f7a4 := ⟨List.mem_of_getElem? (i := 1173) rfl, List.mem_of_getElem? (i := 161) rfl, by decide +kernel, ⟨by decide +kernel, by decide +kernel⟩, by decide +kernel, rfl, by decide⟩
theorem hs_J6_bitCount_0f7a4 : hsOf mJ6_bitCount_0f7a4 = [] := by decide +kernel
theorem st_J6_bitCount_0f7a4 : MSt mJ6_bitCount_0f7a4 := List.mem_of_getElem? (i := 1172) (by decide +kernel)
abbrev mX9_lowestBit : aM := (yX9_lowestBit, cX9_lowestBit, 3, (some .int), 9, 2)
set_option maxRecDepth 100000 in
theorem ok_X9_lowestBit : MOk mX9_lowestBit := ⟨List.mem_of_getElem? (i := 1179) rfl, List.mem_of_getElem? (i := 140) rfl, by decide +kernel, ⟨by decide +kernel, by decide +kernel⟩, by decide +kernel, rfl, by decide⟩
theorem hs_X9_lowestBit : hsOf mX9_lowestBit = [] := by decide +kernel
theorem st_X9_lowestBit : MSt mX9_lowestBit := List.mem_of_getElem? (i := 1178) (by decide +kernel)
abbrev mX4_placeAnew : aM := (yX4_placeAnew, cX4_placeAnew, 7, none, 4, 2)
set_option maxRecDepth 100000 in
theorem ok_X4_placeAnew : MOk mX4_placeAnew := ⟨List.mem_of_getElem? (i := 1183) rfl, List.mem_of_getElem? (i := 144) rfl, by decide +kernel, ⟨by decide +kernel, by decide +kernel⟩, by decide +kernel, rfl, by decide⟩
theorem hs_X4_placeAnew : hsOf mX4_placeAnew = [] := by decide +kernel
theorem vi_X4_placeAnew : MVi mX4_placeAnew := ⟨by decide, List.mem_of_getElem? (i := 1182) (by decide +kernel), List.mem_of_getElem? (i := 69) (by decide +kernel)⟩
abbrev mX4_keepCells : aM := (yX4_keepCells, cX4_keepCells, 1, none, 4, 0)
set_option maxRecDepth 100000 in
theorem ok_X4_keepCells : MOk mX4_keepCells := ⟨List.mem_of_getElem? (i := 1187) rfl, List.mem_of_getElem? (i := 144) rfl, by decide +kernel, ⟨by decide +kernel, by decide +kernel⟩, by decide +kernel, rfl, by decide⟩
theorem hs_X4_keepCells : hsOf mX4_keepCells = [] := by decide +kernel
theorem vi_X4_keepCells : MVi mX4_keepCells := ⟨by decide, List.mem_of_getElem? (i := 1186) (by decide +kernel), List.mem_of_getElem? (i := 70) (by decide +kernel)⟩
abbrev mX4_startSearch : aM := (yX4_startSearch, cX4_startSearch, 1, none, 4, 0)
set_option maxRecDepth 100000 in
theorem ok_X4_startSearch : MOk mX4_startSearch := ⟨List.mem_of_getElem? (i := 1192) rfl, List.mem_of_getElem? (i := 144) rfl, by decide +kernel, ⟨by decide +kernel, by decide +kernel⟩, by decide +kernel, rfl, by decide⟩
theorem hs_X4_startSearch : hsOf mX4_startSearch = [] := by decide +kernel
theorem vi_X4_startSearch : MVi mX4_startSearch := ⟨by decide, List.mem_of_getElem? (i := 1191) (by decide +kernel), List.mem_of_getElem? (i := 71) (by decide +kernel)⟩
abbrev mX4_isFreeFor : aM := (yX4_isFreeFor, cX4_isFreeFor, 3, (some .boolean), 4, 3)
set_option maxRecDepth 100000 in
theorem ok_X4_isFreeFor : MOk mX4_isFreeFor := ⟨List.mem_of_getElem? (i := 1196) rfl, List.mem_of_getElem? (i := 144) rfl, by decide +kernel, ⟨by decide +kernel, by decide +kernel⟩, by decide +kernel, rfl, by decide⟩
theorem hs_X4_isFreeFor : hsOf mX4_isFreeFor = [] := by decide +kernel
theorem st_X4_isFreeFor : MSt mX4_isFreeFor := List.mem_of_getElem? (i := 1195) (by decide +kernel)
abbrev mX4_placeOther : aM := (yX4_placeOther, cX4_placeOther, 6, none, 4, 2)
set_option maxRecDepth 100000 in
theorem ok_X4_placeOther : MOk mX4_placeOther := ⟨List.mem_of_getElem? (i := 1201) rfl, List.mem_of_getElem? (i := 144) rfl, by decide +kernel, ⟨by decide +kernel, by decide +kernel⟩, by decide +kernel, rfl, by decide⟩
theorem hs_X4_placeOther : hsOf mX4_placeOther = [] := by decide +kernel
theorem vi_X4_placeOther : MVi mX4_placeOther := ⟨by decide, List.mem_of_getElem? (i := 1200) (by decide +kernel), List.mem_of_getElem? (i := 72) (by decide +kernel)⟩
abbrev mX4_weighWay : aM := (yX4_weighWay, cX4_weighWay, 3, none, 4, 1)
set_option maxRecDepth 100000 in
theorem ok_X4_weighWay : MOk mX4_weighWay := ⟨List.mem_of_getElem? (i := 1205) rfl, List.mem_of_getElem? (i := 144) rfl, by decide +kernel, ⟨by decide +kernel, by decide +kernel⟩, by decide +kernel, rfl, by decide⟩
theorem hs_X4_weighWay : hsOf mX4_weighWay = [] := by decide +kernel
theorem vi_X4_weighWay : MVi mX4_weighWay := ⟨by decide, List.mem_of_getElem? (i := 1204) (by decide +kernel), List.mem_of_getElem? (i := 73) (by decide +kernel)⟩
abbrev mX4_isFreeBut : aM := (yX4_isFreeBut, cX4_isFreeBut, 6, (some .boolean), 4, 3)
set_option maxRecDepth 100000 in
theorem ok_X4_isFreeBut : MOk mX4_isFreeBut := ⟨List.mem_of_getElem? (i := 1209) rfl, List.mem_of_getElem? (i := 144) rfl, by decide +kernel, ⟨by decide +kernel, by decide +kernel⟩, by decide +kernel, rfl, by decide⟩
theorem hs_X4_isFreeBut : hsOf mX4_isFreeBut = [] := by decide +kernel
theorem vi_X4_isFreeBut : MVi mX4_isFreeBut := ⟨by decide, List.mem_of_getElem? (i := 1208) (by decide +kernel), List.mem_of_getElem? (i := 74) (by decide +kernel)⟩
abbrev mX4_putCellsBack : aM := (yX4_putCellsBack, cX4_putCellsBack, 1, none, 4, 0)
set_option maxRecDepth 100000 in
theorem ok_X4_putCellsBack : MOk mX4_putCellsBack := ⟨List.mem_of_getElem? (i := 1213) rfl, List.mem_of_getElem? (i := 144) rfl, by decide +kernel, ⟨by decide +kernel, by decide +kernel⟩, by decide +kernel, rfl, by decide⟩
theorem hs_X4_putCellsBack : hsOf mX4_putCellsBack = [] := by decide +kernel
theorem vi_X4_putCellsBack : MVi mX4_putCellsBack := ⟨by decide, List.mem_of_getElem? (i := 1212) (by decide +kernel), List.mem_of_getElem? (i := 75) (by decide +kernel)⟩
abbrev mL_pole : aM := (yL_pole, cL_pole, 5, (some .int), 11, 4)
set_option maxRecDepth 100000 in
theorem ok_L_pole : MOk mL_pole := ⟨List.mem_of_getElem? (i := 1216) rfl, List.mem_of_getElem? (i := 139) rfl, by decide +kernel, ⟨by decide +kernel, by decide +kernel⟩, by decide +kernel, rfl, by decide⟩
theorem hs_L_pole : hsOf mL_pole ≠ [] := by decide +kernel
theorem st_L_pole : MSt mL_pole := List.mem_of_getElem? (i := 1215) (by decide +kernel)
abbrev mX9_pole : aM := (yX9_pole, cX9_pole, 3, (some .int), 9, 2)
set_option maxRecDepth 100000 in
theorem ok_X9_pole : MOk mX9_pole := ⟨List.mem_of_getElem? (i := 1220) rfl, List.mem_of_getElem? (i := 140) rfl, by decide +kernel, ⟨by decide +kernel, by decide +kernel⟩, by decide +kernel, rfl, by decide⟩
theorem hs_X9_pole : hsOf mX9_pole = [] := by decide +kernel
theorem vi_X9_pole : MVi mX9_pole := ⟨by decide, List.mem_of_getElem? (i := 1218) (by decide +kernel), List.mem_of_getElem? (i := 1219) (by decide +kernel)⟩
abbrev mX4_placePole : aM := (yX4_placePole, cX4_placePole, 6, none, 4, 1)
set_option maxRecDepth 100000 in
theorem ok_X4_placePole : MOk mX4_placePole := ⟨List.mem_of_getElem? (i := 1224) rfl, List.mem_of_getElem? (i := 144) rfl, by decide +kernel, ⟨by decide +kernel, by decide +kernel⟩, by decide +kernel, rfl, by decide⟩
theorem hs_X4_placePole : hsOf mX4_placePole = [] := by decide +kernel
theorem vi_X4_placePole : MVi mX4_placePole := ⟨by decide, List.mem_of_getElem? (i := 1223) (by decide +kernel), List.mem_of_getElem? (i := 76) (by decide +kernel)⟩
abbrev mL_wish : aM := (yL_wish, cL_wish, 4, (some .int), 11, 3)
set_option maxRecDepth 100000 in
theorem ok_L_wish : MOk mL_wish := ⟨List.mem_of_getElem? (i := 1228) rfl, List.mem_of_getElem? (i := 139) rfl, by decide +kernel, ⟨by decide +kernel, by decide +kernel⟩, by decide +kernel, rfl, by decide⟩
theorem hs_L_wish : hsOf mL_wish ≠ [] := by decide +kernel
theorem st_L_wish : MSt mL_wish := List.mem_of_getElem? (i := 1227) (by decide +kernel)
abbrev mX9_wish : aM := (yX9_wish, cX9_wish, 2, (some .int), 9, 1)
set_option maxRecDepth 100000 in
theorem ok_X9_wish : MOk mX9_wish := ⟨List.mem_of_getElem? (i := 1232) rfl, List.mem_of_getElem? (i := 140) rfl, by decide +kernel, ⟨by decide +kernel, by decide +kernel⟩, by decide +kernel, rfl, by decide⟩
theorem hs_X9_wish : hsOf mX9_wish = [] := by decide +kernel
theorem vi_X9_wish : MVi mX9_wish := ⟨by decide, List.mem_of_getElem? (i := 1230) (by decide +kernel), List.mem_of_getElem? (i := 1231) (by decide +kernel)⟩
abbrev mL_cold : aM := (yL_cold, cL_cold, 5, (some .int), 11, 4)
set_option maxRecDepth 100000 in
theorem ok_L_cold : MOk mL_cold := ⟨List.mem_of_getElem? (i := 1236) rfl, List.mem_of_getElem? (i := 139) rfl, by decide +kernel, ⟨by decide +kernel, by decide +kernel⟩, by decide +kernel, rfl, by decide⟩
theorem hs_L_cold : hsOf mL_cold ≠ [] := by decide +kernel
theorem st_L_cold : MSt mL_cold := List.mem_of_getElem? (i := 1235) (by decide +kernel)
abbrev mX9_cold : aM := (yX9_cold, cX9_cold, 4, (some .int), 9, 2)
set_option maxRecDepth 100000 in
theorem ok_X9_cold : MOk mX9_cold := ⟨List.mem_of_getElem? (i := 1240) rfl, List.mem_of_getElem? (i := 140) rfl, by decide +kernel, ⟨by decide +kernel, by decide +kernel⟩, by decide +kernel, rfl, by decide⟩
theorem hs_X9_cold : hsOf mX9_cold = [] := by decide +kernel
theorem vi_X9_cold : MVi mX9_cold := ⟨by decide, List.mem_of_getElem? (i := 1238) (by decide +kernel), List.mem_of_getElem? (i := 1239) (by decide +kernel)⟩
abbrev mL_what : aM := (yL_what, cL_what, 4, (some .int), 11, 3)
set_option maxRecDepth 100000 in
theorem ok_L_what : MOk mL_what := ⟨List.mem_of_getElem? (i := 1243) rfl, List.mem_of_getElem? (i := 139) rfl, by decide +kernel, ⟨by decide +kernel, by decide +kernel⟩, by decide +kernel, rfl, by decide⟩
theorem hs_L_what : hsOf mL_what ≠ [] := by decide +kernel
theorem st_L_what : MSt mL_what := List.mem_of_getElem? (i := 1242) (by decide +kernel)
abbrev mX9_what : aM := (yX9_what, cX9_what, 2, (some .int), 9, 1)
set_option maxRecDepth 100000 in
theorem ok_X9_what : MOk mX9_what := ⟨List.mem_of_getElem? (i := 1247) rfl, List.mem_of_getElem? (i := 140) rfl, by decide +kernel, ⟨by decide +kernel, by decide +kernel⟩, by decide +kernel, rfl, by decide⟩
theorem hs_X9_what : hsOf mX9_what = [] := by decide +kernel
theorem vi_X9_what : MVi mX9_what := ⟨by decide, List.mem_of_getElem? (i := 1245) (by decide +kernel), List.mem_of_getElem? (i := 1246) (by decide +kernel)⟩
abbrev mX4_explain : aM := (yX4_explain, cX4_explain, 5, none, 4, 0)
set_option maxRecDepth 100000 in
theorem ok_X4_explain : MOk mX4_explain := ⟨List.mem_of_getElem? (i := 1251) rfl, List.mem_of_getElem? (i := 144) rfl, by decide +kernel, ⟨by decide +kernel, by decide +kernel⟩, by decide +kernel, rfl, by decide⟩
theorem hs_X4_explain : hsOf mX4_explain = [] := by decide +kernel
theorem vi_X4_explain : MVi mX4_explain := ⟨by decide, List.mem_of_getElem? (i := 1250) (by decide +kernel), List.mem_of_getElem? (i := 77) (by decide +kernel)⟩
abbrev mX4_explainBy : aM := (yX4_explainBy, cX4_explainBy, 6, none, 4, 2)
set_option maxRecDepth 100000 in
theorem ok_X4_explainBy : MOk mX4_explainBy := ⟨List.mem_of_getElem? (i := 1256) rfl, List.mem_of_getElem? (i := 144) rfl, by decide +kernel, ⟨by decide +kernel, by decide +kernel⟩, by decide +kernel, rfl, by decide⟩
theorem hs_X4_explainBy : hsOf mX4_explainBy = [] := by decide +kernel
theorem vi_X4_explainBy : MVi mX4_explainBy := ⟨by decide, List.mem_of_getElem? (i := 1255) (by decide +kernel), List.mem_of_getElem? (i := 78) (by decide +kernel)⟩
abbrev mX4_isAsTold : aM := (yX4_isAsTold, cX4_isAsTold, 5, (some .boolean), 4, 1)
set_option maxRecDepth 100000 in
theorem ok_X4_isAsTold : MOk mX4_isAsTold := ⟨List.mem_of_getElem? (i := 1260) rfl, List.mem_of_getElem? (i := 144) rfl, by decide +kernel, ⟨by decide +kernel, by decide +kernel⟩, by decide +kernel, rfl, by decide⟩
theorem hs_X4_isAsTold : hsOf mX4_isAsTold = [] := by decide +kernel
theorem vi_X4_isAsTold : MVi mX4_isAsTold := ⟨by decide, List.mem_of_getElem? (i := 1259) (by decide +kernel), List.mem_of_getElem? (i := 79) (by decide +kernel)⟩
abbrev mL_days : aM := (yL_days, cL_days, 4, (some .int), 11, 3)
set_option maxRecDepth 100000 in
theorem ok_L_days : MOk mL_days := ⟨List.mem_of_getElem? (i := 1264) rfl, List.mem_of_getElem? (i := 139) rfl, by decide +kernel, ⟨by decide +kernel, by decide +kernel⟩, by decide +kernel, rfl, by decide⟩
theorem hs_L_days : hsOf mL_days ≠ [] := by decide +kernel
theorem st_L_days : MSt mL_days := List.mem_of_getElem? (i := 1263) (by decide +kernel)
abbrev mX9_days : aM := (yX9_days, cX9_days, 3, (some .int), 9, 1)
set_option maxRecDepth 100000 in
theorem ok_X9_days : MOk mX9_days := ⟨List.mem_of_getElem? (i := 1268) rfl, List.mem_of_getElem? (i := 140) rfl, by decide +kernel, ⟨by decide +kernel, by decide +kernel⟩, by decide +kernel, rfl, by decide⟩
theorem hs_X9_days : hsOf mX9_days = [] := by decide +kernel
theorem vi_X9_days : MVi mX9_days := ⟨by decide, List.mem_of_getElem? (i := 1266) (by decide +kernel), List.mem_of_getElem? (i := 1267) (by decide +kernel)⟩
abbrev mX7_grow : aM := (yX7_grow, cX7_grow, 2, none, 7, 0)
set_option maxRecDepth 100000 in
theorem ok_X7_grow : MOk mX7_grow := ⟨List.mem_of_getElem? (i := 1272) rfl, List.mem_of_getElem? (i := 148) rfl, by decide +kernel, ⟨by decide +kernel, by decide +kernel⟩, by decide +kernel, rfl, by decide⟩
theorem hs_X7_grow : hsOf mX7_grow = [] := by decide +kernel
theorem vi_X7_grow : MVi mX7_grow := ⟨by decide, List.mem_of_getElem? (i := 1271) (by decide +kernel), List.mem_of_getElem? (i := 80) (by decide +kernel)⟩
abbrev mL_when : aM := (yL_when, cL_when, 4, (some .int), 11, 3)
set_option maxRecDepth 100000 in
theorem ok_L_when : MOk mL_when := ⟨List.mem_of_getElem? (i := 1276) rfl, List.mem_of_getElem? (i := 139) rfl, by decide +kernel, ⟨by decide +kernel, by decide +kernel⟩, by decide +kernel, rfl, by decide⟩
theorem hs_L_when : hsOf mL_when ≠ [] := by decide +kernel
theorem st_L_when : MSt mL_when := List.mem_of_getElem? (i := 1275) (by decide +kernel)
abbrev mX9_when : aM := (yX9_when, cX9_when, 2, (some .int), 9, 1)
set_option maxRecDepth 100000 in
theorem ok_X9_when : MOk mX9_when := ⟨List.mem_of_getElem? (i := 1280) rfl, List.mem_of_getElem? (i := 140) rfl, by decide +kernel, ⟨by decide +kernel, by decide +kernel⟩, by decide +kernel, rfl, by decide⟩
theorem hs_X9_when : hsOf mX9_when = [] := by decide +kernel
theorem vi_X9_when : MVi mX9_when := ⟨by decide, List.mem_of_getElem? (i := 1278) (by decide +kernel), List.mem_of_getElem? (i := 1279) (by decide +kernel)⟩
abbrev mX9_isDue : aM := (yX9_isDue, cX9_isDue, 1, (some .boolean), 9, 1)
set_option maxRecDepth 100000 in
theorem ok_X9_isDue : MOk mX9_isDue := ⟨List.mem_of_getElem? (i := 1283) rfl, List.mem_of_getElem? (i := 140) rfl, by decide +kernel, ⟨by decide +kernel, by decide +kernel⟩, by decide +kernel, rfl, by decide⟩
theorem hs_X9_isDue : hsOf mX9_isDue = [] := by decide +kernel
theorem st_X9_isDue : MSt mX9_isDue := List.mem_of_getElem? (i := 1282) (by decide +kernel)
abbrev mX4_daysTillAbove : aM := (yX4_daysTillAbove, cX4_daysTillAbove, 5, (some .int), 4, 1)
set_option maxRecDepth 100000 in
theorem ok_X4_daysTillAbove : MOk mX4_daysTillAbove := ⟨List.mem_of_getElem? (i := 1288) rfl, List.mem_of_getElem? (i := 144) rfl, by decide +kernel, ⟨by decide +kernel, by decide +kernel⟩, by decide +kernel, rfl, by decide⟩
theorem hs_X4_daysTillAbove : hsOf mX4_daysTillAbove = [] := by decide +kernel
theorem vi_X4_daysTillAbove : MVi mX4_daysTillAbove := ⟨by decide, List.mem_of_getElem? (i := 1287) (by decide +kernel), List.mem_of_getElem? (i := 81) (by decide +kernel)⟩
abbrev mL_clouds : aM := (yL_clouds, cL_clouds, 5, (some .int), 11, 4)
set_option maxRecDepth 100000 in
theorem ok_L_clouds : MOk mL_clouds := ⟨List.mem_of_getElem? (i := 1292) rfl, List.mem_of_getElem? (i := 139) rfl, by decide +kernel, ⟨by decide +kernel, by decide +kernel⟩, by decide +kernel, rfl, by decide⟩
theorem hs_L_clouds : hsOf mL_clouds ≠ [] := by decide +kernel
theorem st_L_clouds : MSt mL_clouds := List.mem_of_getElem? (i := 1291) (by decide +kernel)
abbrev mX9_clouds : aM := (yX9_clouds, cX9_clouds, 4, (some .int), 9, 2)
set_option maxRecDepth 100000 in
theorem ok_X9_clouds : MOk mX9_clouds := ⟨List.mem_of_getElem? (i := 1296) rfl, List.mem_of_getElem? (i := 140) rfl, by decide +kernel, ⟨by decide +kernel, by decide +kernel⟩, by decide +kernel, rfl, by decide⟩
theorem hs_X9_clouds : hsOf mX9_clouds = [] := by decide +kernel
theorem vi_X9_clouds : MVi mX9_clouds := ⟨by decide, List.mem_of_getElem? (i := 1294) (by decide +kernel), List.mem_of_getElem? (i := 1295) (by decide +kernel)⟩
abbrev mX2_cloudsDrawn : aM := (yX2_cloudsDrawn, cX2_cloudsDrawn, 5, (some .int), 2, 1)
set_option maxRecDepth 100000 in
theorem ok_X2_cloudsDrawn : MOk mX2_cloudsDrawn := ⟨List.mem_of_getElem? (i := 1300) rfl, List.mem_of_getElem? (i := 147) rfl, by decide +kernel, ⟨by decide +kernel, by decide +kernel⟩, by decide +kernel, rfl, by decide⟩
theorem hs_X2_cloudsDrawn : hsOf mX2_cloudsDrawn = [] := by decide +kernel
theorem vi_X2_cloudsDrawn : MVi mX2_cloudsDrawn := ⟨by decide, List.mem_of_getElem? (i := 1299) (by decide +kernel), List.mem_of_getElem? (i := 82) (by decide +kernel)⟩
abbrev mX6_reckonHours : aM := (yX6_reckonHours, cX6_reckonHours, 2, none, 6, 0)
set_option maxRecDepth 100000 in
theorem ok_X6_reckonHours : MOk mX6_reckonHours := ⟨List.mem_of_getElem? (i := 1305) rfl, List.mem_of_getElem? (i := 145) rfl, by decide +kernel, ⟨by decide +kernel, by decide +kernel⟩, by decide +kernel, rfl, by decide⟩
theorem hs_X6_reckonHours : hsOf mX6_reckonHours = [] := by decide +kernel
theorem vi_X6_reckonHours : MVi mX6_reckonHours := ⟨by decide, List.mem_of_getElem? (i := 1304) (by decide +kernel), List.mem_of_getElem? (i := 83) (by decide +kernel)⟩
abbrev mX6_dueWithout : aM := (yX6_dueWithout, cX6_dueWithout, 4, (some .int), 6, 1)
set_option maxRecDepth 100000 in
theorem ok_X6_dueWithout : MOk mX6_dueWithout := ⟨List.mem_of_getElem? (i := 1309) rfl, List.mem_of_getElem? (i := 145) rfl, by decide +kernel, ⟨by decide +kernel, by decide +kernel⟩, by decide +kernel, rfl, by decide⟩
theorem hs_X6_dueWithout : hsOf mX6_dueWithout = [] := by decide +kernel
theorem vi_X6_dueWithout : MVi mX6_dueWithout := ⟨by decide, List.mem_of_getElem? (i := 1308) (by decide +kernel), List.mem_of_getElem? (i := 84) (by decide +kernel)⟩
abbrev mL_span : aM := (yL_span, cL_span, 6, (some .int), 11, 5)
set_option maxRecDepth 100000 in
theorem ok_L_span : MOk mL_span := ⟨List.mem_of_getElem? (i := 1312) rfl, List.mem_of_getElem? (i := 139) rfl, by decide +kernel, ⟨by decide +kernel, by decide +kernel⟩, by decide +kernel, rfl, by decide⟩
theorem hs_L_span : hsOf mL_span ≠ [] := by decide +kernel
theorem st_L_span : MSt mL_span := List.mem_of_getElem? (i := 1311) (by decide +kernel)
abbrev mX9_span : aM := (yX9_span, cX9_span, 7, (some .int), 9, 3)
set_option maxRecDepth 100000 in
theorem ok_X9_span : MOk mX9_span := ⟨List.mem_of_getElem? (i := 1316) rfl, List.mem_of_getElem? (i := 140) rfl, by decide +kernel, ⟨by decide +kernel, by decide +kernel⟩, by decide +kernel, rfl, by decide⟩
theorem hs_X9_span : hsOf mX9_span = [] := by decide +kernel
theorem vi_X9_span : MVi mX9_span := ⟨by decide, List.mem_of_getElem? (i := 1314) (by decide +kernel), List.mem_of_getElem? (i := 1315) (by decide +kernel)⟩
abbrev mL_led : aM := (yL_led, cL_led, 5, (some .int), 11, 4)
set_option maxRecDepth 100000 in
theorem ok_L_led : MOk mL_led := ⟨List.mem_of_getElem? (i := 1321) rfl, List.mem_of_getElem? (i := 139) rfl, by decide +kernel, ⟨by decide +kernel, by decide +kernel⟩, by decide +kernel, rfl, by decide⟩
theorem hs_L_led : hsOf mL_led ≠ [] := by decide +kernel
theorem st_L_led : MSt mL_led := List.mem_of_getElem? (i := 1320) (by decide +kernel)
abbrev mX9_led : aM := (yX9_led, cX9_led, 3, (some .int), 9, 2)
set_option maxRecDepth 100000 in
theorem ok_X9_led : MOk mX9_led := ⟨List.mem_of_getElem? (i := 1325) rfl, List.mem_of_getElem? (i := 140) rfl, by decide +kernel, ⟨by decide +kernel, by decide +kernel⟩, by decide +kernel, rfl, by decide⟩
theorem hs_X9_led : hsOf mX9_led = [] := by decide +kernel
theorem vi_X9_led : MVi mX9_led := ⟨by decide, List.mem_of_getElem? (i := 1323) (by decide +kernel), List.mem_of_getElem? (i := 1324) (by decide +kernel)⟩
abbrev mX6_ledTo : aM := (yX6_ledTo, cX6_ledTo, 5, (some .int), 6, 2)
set_option maxRecDepth 100000 in
theorem ok_X6_ledTo : MOk mX6_ledTo := ⟨List.mem_of_getElem? (i := 1329) rfl, List.mem_of_getElem? (i := 145) rfl, by decide +kernel, ⟨by decide +kernel, by decide +kernel⟩, by decide +kernel, rfl, by decide⟩
theorem hs_X6_ledTo : hsOf mX6_ledTo = [] := by decide +kernel
theorem vi_X6_ledTo : MVi mX6_ledTo := ⟨by decide, List.mem_of_getElem? (i := 1328) (by decide +kernel), List.mem_of_getElem? (i := 85) (by decide +kernel)⟩
abbrev mL_whose : aM := (yL_whose, cL_whose, 4, (some .int), 11, 3)
set_option maxRecDepth 100000 in
theorem ok_L_whose : MOk mL_whose := ⟨List.mem_of_getElem? (i := 1332) rfl, List.mem_of_getElem? (i := 139) rfl, by decide +kernel, ⟨by decide +kernel, by decide +kernel⟩, by decide +kernel, rfl, by decide⟩
theorem hs_L_whose : hsOf mL_whose ≠ [] := by decide +kernel
theorem st_L_whose : MSt mL_whose := List.mem_of_getElem? (i := 1331) (by decide +kernel)
abbrev mX9_whose : aM := (yX9_whose, cX9_whose, 6, (some .int), 9, 1)
set_option maxRecDepth 100000 in
theorem ok_X9_whose : MOk mX9_whose := ⟨List.mem_of_getElem? (i := 1336) rfl, List.mem_of_getElem? (i := 140) rfl, by decide +kernel, ⟨by decide +kernel, by decide +kernel⟩, by decide +kernel, rfl, by decide⟩
theorem hs_X9_whose : hsOf mX9_whose = [] := by decide +kernel
theorem vi_X9_whose : MVi mX9_whose := ⟨by decide, List.mem_of_getElem? (i := 1334) (by decide +kernel), List.mem_of_getElem? (i := 1335) (by decide +kernel)⟩
abbrev mL_harmless : aM := (yL_harmless, cL_harmless, 4, (some .int), 11, 3)
set_option maxRecDepth 100000 in
theorem ok_L_harmless : MOk mL_harmless := ⟨List.mem_of_getElem? (i := 1339) rfl, List.mem_of_getElem? (i := 139) rfl, by decide +kernel, ⟨by decide +kernel, by decide +kernel⟩, by decide +kernel, rfl, by decide⟩
theorem hs_L_harmless : hsOf mL_harmless ≠ [] := by decide +kernel
theorem st_L_harmless : MSt mL_harmless := List.mem_of_getElem? (i := 1338) (by decide +kernel)
abbrev mX9_harmless : aM := (yX9_harmless, cX9_harmless, 2, (some .int), 9, 1)
set_option maxRecDepth 100000 in
theorem ok_X9_harmless : MOk mX9_harmless := ⟨List.mem_of_getElem? (i := 1343) rfl, List.mem_of_getElem? (i := 140) rfl, by decide +kernel, ⟨by decide +kernel, by decide +kernel⟩, by decide +kernel, rfl, by decide⟩
theorem hs_X9_harmless : hsOf mX9_harmless = [] := by decide +kernel
theorem vi_X9_harmless : MVi mX9_harmless := ⟨by decide, List.mem_of_getElem? (i := 1341) (by decide +kernel), List.mem_of_getElem? (i := 1342) (by decide +kernel)⟩
abbrev mX4_greatestHarmless : aM := (yX4_greatestHarmless, cX4_greatestHarmless, 6, (some .int), 4, 1)
set_option maxRecDepth 100000 in
theorem ok_X4_greatestHarmless : MOk mX4_greatestHarmless := ⟨List.mem_of_getElem? (i := 1347) rfl, List.mem_of_getElem? (i := 144) rfl, by decide +kernel, ⟨by decide +kernel, by decide +kernel⟩, by decide +kernel, rfl, by decide⟩
theorem hs_X4_greatestHarmless : hsOf mX4_greatestHarmless = [] := by decide +kernel
theorem vi_X4_greatestHarmless : MVi mX4_greatestHarmless := ⟨by decide, List.mem_of_getElem? (i := 1346) (by decide +kernel), List.mem_of_getElem? (i := 86) (by decide +kernel)⟩
abbrev mX6_harms : aM := (yX6_harms, cX6_harms, 3, (some .boolean), 6, 1)
set_option maxRecDepth 100000 in
theorem ok_X6_harms : MOk mX6_harms := ⟨List.mem_of_getElem? (i := 1351) rfl, List.mem_of_getElem? (i := 145) rfl, by decide +kernel, ⟨by decide +kernel, by decide +kernel⟩, by decide +kernel, rfl, by decide⟩
theorem hs_X6_harms : hsOf mX6_harms = [] := by decide +kernel
theorem vi_X6_harms : MVi mX6_harms := ⟨by decide, List.mem_of_getElem? (i := 1350) (by decide +kernel), List.mem_of_getElem? (i := 87) (by decide +kernel)⟩
abbrev mL_folded : aM := (yL_folded, cL_folded, 4, (some .int), 11, 3)
set_option maxRecDepth 100000 in
theorem ok_L_folded : MOk mL_folded := ⟨List.mem_of_getElem? (i := 1354) rfl, List.mem_of_getElem? (i := 139) rfl, by decide +kernel, ⟨by decide +kernel, by decide +kernel⟩, by decide +kernel, rfl, by decide⟩
theorem hs_L_folded : hsOf mL_folded ≠ [] := by decide +kernel
theorem st_L_folded : MSt mL_folded := List.mem_of_getElem? (i := 1353) (by decide +kernel)
abbrev mX9_folded : aM := (yX9_folded, cX9_folded, 2, (some .int), 9, 1)
set_option maxRecDepth 100000 in
theorem ok_X9_folded : MOk mX9_folded := ⟨List.mem_of_getElem? (i := 1358) rfl, List.mem_of_getElem? (i := 140) rfl, by decide +kernel, ⟨by decide +kernel, by decide +kernel⟩, by decide +kernel, rfl, by decide⟩
theorem hs_X9_folded : hsOf mX9_folded = [] := by decide +kernel
theorem vi_X9_folded : MVi mX9_folded := ⟨by decide, List.mem_of_getElem? (i := 1356) (by decide +kernel), List.mem_of_getElem? (i := 1357) (by decide +kernel)⟩
abbrev mX6_latestFold : aM := (yX6_latestFold, cX6_latestFold, 6, (some .int), 6, 1)
set_option maxRecDepth 100000 in
theorem ok_X6_latestFold : MOk mX6_latestFold := ⟨List.mem_of_getElem? (i := 1362) rfl, List.mem_of_getElem? (i := 145) rfl, by decide +kernel, ⟨by decide +kernel, by decide +kernel⟩, by decide +kernel, rfl, by decide⟩
theorem hs_X6_latestFold : hsOf mX6_latestFold = [] := by decide +kernel
theorem vi_X6_latestFold : MVi mX6_latestFold := ⟨by decide, List.mem_of_getElem? (i := 1361) (by decide +kernel), List.mem_of_getElem? (i := 88) (by decide +kernel)⟩
abbrev mL_awned : aM := (yL_awned, cL_awned, 5, (some .int), 11, 4)
set_option maxRecDepth 100000 in
theorem ok_L_awned : MOk mL_awned := ⟨List.mem_of_getElem? (i := 1365) rfl, List.mem_of_getElem? (i := 139) rfl, by decide +kernel, ⟨by decide +kernel, by decide +kernel⟩, by decide +kernel, rfl, by decide⟩
theorem hs_L_awned : hsOf mL_awned ≠ [] := by decide +kernel
theorem st_L_awned : MSt mL_awned := List.mem_of_getElem? (i := 1364) (by decide +kernel)
abbrev mX9_awned : aM := (yX9_awned, cX9_awned, 3, (some .int), 9, 2)
set_option maxRecDepth 100000 in
theorem ok_X9_awned : MOk mX9_awned := ⟨List.mem_of_getElem? (i := 1369) rfl, List.mem_of_getElem? (i := 140) rfl, by decide +kernel, ⟨by decide +kernel, by decide +kernel⟩, by decide +kernel, rfl, by decide⟩
theorem hs_X9_awned : hsOf mX9_awned = [] := by decide +kernel
theorem vi_X9_awned : MVi mX9_awned := ⟨by decide, List.mem_of_getElem? (i := 1367) (by decide +kernel), List.mem_of_getElem? (i := 1368) (by decide +kernel)⟩
abbrev mX4_tryAwnings : aM := (yX4_tryAwnings, cX4_tryAwnings, 6, none, 4, 1)
set_option maxRecDepth 100000 in
theorem ok_X4_tryAwnings : MOk mX4_tryAwnings := ⟨List.mem_of_getElem? (i := 1373) rfl, List.mem_of_getElem? (i := 144) rfl, by decide +kernel, ⟨by decide +kernel, by decide +kernel⟩, by decide +kernel, rfl, by decide⟩
theorem hs_X4_tryAwnings : hsOf mX4_tryAwnings = [] := by decide +kernel
theorem vi_X4_tryAwnings : MVi mX4_tryAwnings := ⟨by decide, List.mem_of_getElem? (i := 1372) (by decide +kernel), List.mem_of_getElem? (i := 89) (by decide +kernel)⟩
abbrev mL_hour : aM := (yL_hour, cL_hour, 4, (some .int), 11, 3)
set_option maxRecDepth 100000 in
theorem ok_L_hour : MOk mL_hour := ⟨List.mem_of_getElem? (i := 1376) rfl, List.mem_of_getElem? (i := 139) rfl, by decide +kernel, ⟨by decide +kernel, by decide +kernel⟩, by decide +kernel, rfl, by decide⟩
theorem hs_L_hour : hsOf mL_hour ≠ [] := by decide +kernel
theorem st_L_hour : MSt mL_hour := List.mem_of_getElem? (i := 1375) (by decide +kernel)
abbrev mX9_hour : aM := (yX9_hour, cX9_hour, 4, (some .int), 9, 1)
set_option maxRecDepth 100000 in
theorem ok_X9_hour : MOk mX9_hour := ⟨List.mem_of_getElem? (i := 1380) rfl, List.mem_of_getElem? (i := 140) rfl, by decide +kernel, ⟨by decide +kernel, by decide +kernel⟩, by decide +kernel, rfl, by decide⟩
theorem hs_X9_hour : hsOf mX9_hour = [] := by decide +kernel
theorem vi_X9_hour : MVi mX9_hour := ⟨by decide, List.mem_of_getElem? (i := 1378) (by decide +kernel), List.mem_of_getElem? (i := 1379) (by decide +kernel)⟩
abbrev mL_improved : aM := (yL_improved, cL_improved, 4, (some .int), 11, 3)
set_option maxRecDepth 100000 in
theorem ok_L_improved : MOk mL_improved := ⟨List.mem_of_getElem? (i := 1383) rfl, List.mem_of_getElem? (i := 139) rfl, by decide +kernel, ⟨by decide +kernel, by decide +kernel⟩, by decide +kernel, rfl, by decide⟩
theorem hs_L_improved : hsOf mL_improved ≠ [] := by decide +kernel
theorem st_L_improved : MSt mL_improved := List.mem_of_getElem? (i := 1382) (by decide +kernel)
abbrev mX9_improved : aM := (yX9_improved, cX9_improved, 3, (some .int), 9, 1)
set_option maxRecDepth 100000 in
theorem ok_X9_improved : MOk mX9_improved := ⟨List.mem_of_getElem? (i := 1387) rfl, List.mem_of_getElem? (i := 140) rfl, by decide +kernel, ⟨by decide +kernel, by decide +kernel⟩, by decide +kernel, rfl, by decide⟩
theorem hs_X9_improved : hsOf mX9_improved = [] := by decide +kernel
theorem vi_X9_improved : MVi mX9_improved := ⟨by decide, List.mem_of_getElem? (i := 1385) (by decide +kernel), List.mem_of_getElem? (i := 1386) (by decide +kernel)⟩
abbrev mX4_exchangeOn : aM := (yX4_exchangeOn, cX4_exchangeOn, 4, (some .int), 4, 0)
set_option maxRecDepth 100000 in
theorem ok_X4_exchangeOn : MOk mX4_exchangeOn := ⟨List.mem_of_getElem? (i := 1391) rfl, List.mem_of_getElem? (i := 144) rfl, by decide +kernel, ⟨by decide +kernel, by decide +kernel⟩, by decide +kernel, rfl, by decide⟩
theorem hs_X4_exchangeOn : hsOf mX4_exchangeOn = [] := by decide +kernel
theorem vi_X4_exchangeOn : MVi mX4_exchangeOn := ⟨by decide, List.mem_of_getElem? (i := 1390) (by decide +kernel), List.mem_of_getElem? (i := 90) (by decide +kernel)⟩
abbrev mL_out : aM := (yL_out, cL_out, 4, (some .int), 11, 3)
set_option maxRecDepth 100000 in
theorem ok_L_out : MOk mL_out := ⟨List.mem_of_getElem? (i := 1396) rfl, List.mem_of_getElem? (i := 139) rfl, by decide +kernel, ⟨by decide +kernel, by decide +kernel⟩, by decide +kernel, rfl, by decide⟩
theorem hs_L_out : hsOf mL_out ≠ [] := by decide +kernel
theorem st_L_out : MSt mL_out := List.mem_of_getElem? (i := 1395) (by decide +kernel)
abbrev mX9_out : aM := (yX9_out, cX9_out, 3, (some .int), 9, 1)
set_option maxRecDepth 100000 in
theorem ok_X9_out : MOk mX9_out := ⟨List.mem_of_getElem? (i := 1400) rfl, List.mem_of_getElem? (i := 140) rfl, by decide +kernel, ⟨by decide +kernel, by decide +kernel⟩, by decide +kernel, rfl, by decide⟩
theorem hs_X9_out : hsOf mX9_out = [] := by decide +kernel
theorem vi_X9_out : MVi mX9_out := ⟨by decide, List.mem_of_getElem? (i := 1398) (by decide +kernel), List.mem_of_getElem? (i := 1399) (by decide +kernel)⟩
abbrev mX10_init : aM := (yX10_init, cX10_init, 1, none, 10, 0)
set_option maxRecDepth 100000 in
theorem ok_X10_init : MOk mX10_init := ⟨List.mem_of_getElem? (i := 1405) rfl, List.mem_of_getElem? (i := 150) rfl, by decide +kernel, ⟨by decide +kernel, by decide +kernel⟩, by decide +kernel, rfl, by decide⟩
theorem hs_X10_init : hsOf mX10_init = [] := by decide +kernel
theorem in_X10_init : MIn mX10_init := ⟨rfl, List.mem_of_getElem? (i := 1404) (by decide +kernel), rfl⟩
abbrev mX10_tellsNothing : aM := (yX10_tellsNothing, cX10_tellsNothing, 3, none, 10, 0)
set_option maxRecDepth 100000 in
theorem ok_X10_tellsNothing : MOk mX10_tellsNothing := ⟨List.mem_of_getElem? (i := 1411) rfl, List.mem_of_getElem? (i := 150) rfl, by decide +kernel, ⟨by decide +kernel, by decide +kernel⟩, by decide +kernel, rfl, by decide⟩
theorem hs_X10_tellsNothing : hsOf mX10_tellsNothing = [] := by decide +kernel
theorem vi_X10_tellsNothing : MVi mX10_tellsNothing := ⟨by decide, List.mem_of_getElem? (i := 1410) (by decide +kernel), List.mem_of_getElem? (i := 91) (by decide +kernel)⟩
abbrev mX10_stands : aM := (yX10_stands, cX10_stands, 3, none, 10, 0)
set_option maxRecDepth 100000 in
theorem ok_X10_stands : MOk mX10_stands := ⟨List.mem_of_getElem? (i := 1415) rfl, List.mem_of_getElem? (i := 150) rfl, by decide +kernel, ⟨by decide +kernel, by decide +kernel⟩, by decide +kernel, rfl, by decide⟩
theorem hs_X10_stands : hsOf mX10_stands = [] := by decide +kernel
theorem vi_X10_stands : MVi mX10_stands := ⟨by decide, List.mem_of_getElem? (i := 1414) (by decide +kernel), List.mem_of_getElem? (i := 92) (by decide +kernel)⟩
abbrev mX10_laysPieces : aM := (yX10_laysPieces, cX10_laysPieces, 2, none, 10, 0)
set_option maxRecDepth 100000 in
theorem ok_X10_laysPieces : MOk mX10_laysPieces := ⟨List.mem_of_getElem? (i := 1419) rfl, List.mem_of_getElem? (i := 150) rfl, by decide +kernel, ⟨by decide +kernel, by decide +kernel⟩, by decide +kernel, rfl, by decide⟩
theorem hs_X10_laysPieces : hsOf mX10_laysPieces = [] := by decide +kernel
theorem vi_X10_laysPieces : MVi mX10_laysPieces := ⟨by decide, List.mem_of_getElem? (i := 1418) (by decide +kernel), List.mem_of_getElem? (i := 93) (by decide +kernel)⟩
abbrev mX10_change : aM := (yX10_change, cX10_change, 4, (some .int), 10, 1)
set_option maxRecDepth 100000 in
theorem ok_X10_change : MOk mX10_change := ⟨List.mem_of_getElem? (i := 1423) rfl, List.mem_of_getElem? (i := 150) rfl, by decide +kernel, ⟨by decide +kernel, by decide +kernel⟩, by decide +kernel, rfl, by decide⟩
theorem hs_X10_change : hsOf mX10_change = [] := by decide +kernel
theorem vi_X10_change : MVi mX10_change := ⟨by decide, List.mem_of_getElem? (i := 1422) (by decide +kernel), List.mem_of_getElem? (i := 94) (by decide +kernel)⟩
abbrev mX10_sunAt : aM := (yX10_sunAt, cX10_sunAt, 4, (some .int), 10, 1)
set_option maxRecDepth 100000 in
theorem ok_X10_sunAt : MOk mX10_sunAt := ⟨List.mem_of_getElem? (i := 1427) rfl, List.mem_of_getElem? (i := 150) rfl, by decide +kernel, ⟨by decide +kernel, by decide +kernel⟩, by decide +kernel, rfl, by decide⟩
theorem hs_X10_sunAt : hsOf mX10_sunAt = [] := by decide +kernel
theorem vi_X10_sunAt : MVi mX10_sunAt := ⟨by decide, List.mem_of_getElem? (i := 1426) (by decide +kernel), List.mem_of_getElem? (i := 95) (by decide +kernel)⟩
abbrev mX10_rateAt : aM := (yX10_rateAt, cX10_rateAt, 4, (some .int), 10, 1)
set_option maxRecDepth 100000 in
theorem ok_X10_rateAt : MOk mX10_rateAt := ⟨List.mem_of_getElem? (i := 1431) rfl, List.mem_of_getElem? (i := 150) rfl, by decide +kernel, ⟨by decide +kernel, by decide +kernel⟩, by decide +kernel, rfl, by decide⟩
theorem hs_X10_rateAt : hsOf mX10_rateAt = [] := by decide +kernel
theorem vi_X10_rateAt : MVi mX10_rateAt := ⟨by decide, List.mem_of_getElem? (i := 1430) (by decide +kernel), List.mem_of_getElem? (i := 96) (by decide +kernel)⟩
abbrev mX10_thrown : aM := (yX10_thrown, cX10_thrown, 1, (some .int), 10, 0)
set_option maxRecDepth 100000 in
theorem ok_X10_thrown : MOk mX10_thrown := ⟨List.mem_of_getElem? (i := 1586) rfl, List.mem_of_getElem? (i := 150) rfl, by decide +kernel, ⟨by decide +kernel, by decide +kernel⟩, by decide +kernel, rfl, by decide⟩
theorem hs_X10_thrown : hsOf mX10_thrown = [] := by decide +kernel
theorem vi_X10_thrown : MVi mX10_thrown := ⟨by decide, List.mem_of_getElem? (i := 1584) (by decide +kernel), List.mem_of_getElem? (i := 1585) (by decide +kernel)⟩
abbrev mX10_feed : aM := (yX10_feed, cX10_feed, 8, (some .int), 10, 5)
set_option maxRecDepth 100000 in
theorem ok_X10_feed : MOk mX10_feed := ⟨List.mem_of_getElem? (i := 1590) rfl, List.mem_of_getElem? (i := 150) rfl, by decide +kernel, ⟨by decide +kernel, by decide +kernel⟩, by decide +kernel, rfl, by decide⟩
theorem hs_X10_feed : hsOf mX10_feed = [] := by decide +kernel
theorem vi_X10_feed : MVi mX10_feed := ⟨by decide, List.mem_of_getElem? (i := 1588) (by decide +kernel), List.mem_of_getElem? (i := 1589) (by decide +kernel)⟩
abbrev mX10_market : aM := (yX10_market, cX10_market, 2, (some .int), 10, 1)
set_option maxRecDepth 100000 in
theorem ok_X10_market : MOk mX10_market := ⟨List.mem_of_getElem? (i := 1594) rfl, List.mem_of_getElem? (i := 150) rfl, by decide +kernel, ⟨by decide +kernel, by decide +kernel⟩, by decide +kernel, rfl, by decide⟩
theorem hs_X10_market : hsOf mX10_market = [] := by decide +kernel
theorem vi_X10_market : MVi mX10_market := ⟨by decide, List.mem_of_getElem? (i := 1592) (by decide +kernel), List.mem_of_getElem? (i := 1593) (by decide +kernel)⟩
abbrev mX10_in : aM := (yX10_in, cX10_in, 3, (some .boolean), 10, 3)
set_option maxRecDepth 100000 in
theorem ok_X10_in : MOk mX10_in := ⟨List.mem_of_getElem? (i := 1597) rfl, List.mem_of_getElem? (i := 150) rfl, by decide +kernel, ⟨by decide +kernel, by decide +kernel⟩, by decide +kernel, rfl, by decide⟩
theorem hs_X10_in : hsOf mX10_in = [] := by decide +kernel
theorem st_X10_in : MSt mX10_in := List.mem_of_getElem? (i := 1596) (by decide +kernel)
abbrev mX10_bad : aM := (yX10_bad, cX10_bad, 4, (some .boolean), 10, 3)
set_option maxRecDepth 100000 in
theorem ok_X10_bad : MOk mX10_bad := ⟨List.mem_of_getElem? (i := 1601) rfl, List.mem_of_getElem? (i := 150) rfl, by decide +kernel, ⟨by decide +kernel, by decide +kernel⟩, by decide +kernel, rfl, by decide⟩
theorem hs_X10_bad : hsOf mX10_bad = [] := by decide +kernel
theorem vi_X10_bad : MVi mX10_bad := ⟨by decide, List.mem_of_getElem? (i := 1600) (by decide +kernel), List.mem_of_getElem? (i := 97) (by decide +kernel)⟩
abbrev mX10_blanks : aM := (yX10_blanks, cX10_blanks, 1, none, 10, 0)
set_option maxRecDepth 100000 in
theorem ok_X10_blanks : MOk mX10_blanks := ⟨List.mem_of_getElem? (i := 1605) rfl, List.mem_of_getElem? (i := 150) rfl, by decide +kernel, ⟨by decide +kernel, by decide +kernel⟩, by decide +kernel, rfl, by decide⟩
theorem hs_X10_blanks : hsOf mX10_blanks = [] := by decide +kernel
theorem vi_X10_blanks : MVi mX10_blanks := ⟨by decide, List.mem_of_getElem? (i := 1604) (by decide +kernel), List.mem_of_getElem? (i := 98) (by decide +kernel)⟩
abbrev mX10_byteAt : aM := (yX10_byteAt, cX10_byteAt, 2, (some .int), 10, 1)
set_option maxRecDepth 100000 in
theorem ok_X10_byteAt : MOk mX10_byteAt := ⟨List.mem_of_getElem? (i := 1609) rfl, List.mem_of_getElem? (i := 150) rfl, by decide +kernel, ⟨by decide +kernel, by decide +kernel⟩, by decide +kernel, rfl, by decide⟩
theorem hs_X10_byteAt : hsOf mX10_byteAt = [] := by decide +kernel
theorem vi_X10_byteAt : MVi mX10_byteAt := ⟨by decide, List.mem_of_getElem? (i := 1608) (by decide +kernel), List.mem_of_getElem? (i := 99) (by decide +kernel)⟩
abbrev mX10_clause : aM := (yX10_clause, cX10_clause, 2, none, 10, 0)
set_option maxRecDepth 100000 in
theorem ok_X10_clause : MOk mX10_clause := ⟨List.mem_of_getElem? (i := 1613) rfl, List.mem_of_getElem? (i := 150) rfl, by decide +kernel, ⟨by decide +kernel, by decide +kernel⟩, by decide +kernel, rfl, by decide⟩
theorem hs_X10_clause : hsOf mX10_clause = [] := by decide +kernel
theorem vi_X10_clause : MVi mX10_clause := ⟨by decide, List.mem_of_getElem? (i := 1612) (by decide +kernel), List.mem_of_getElem? (i := 100) (by decide +kernel)⟩
abbrev mX10_kindHere : aM := (yX10_kindHere, cX10_kindHere, 1, (some .int), 10, 0)
set_option maxRecDepth 100000 in
theorem ok_X10_kindHere : MOk mX10_kindHere := ⟨List.mem_of_getElem? (i := 1617) rfl, List.mem_of_getElem? (i := 150) rfl, by decide +kernel, ⟨by decide +kernel, by decide +kernel⟩, by decide +kernel, rfl, by decide⟩
theorem hs_X10_kindHere : hsOf mX10_kindHere = [] := by decide +kernel
theorem vi_X10_kindHere : MVi mX10_kindHere := ⟨by decide, List.mem_of_getElem? (i := 1616) (by decide +kernel), List.mem_of_getElem? (i := 101) (by decide +kernel)⟩
abbrev mX10_isWord : aM := (yX10_isWord, cX10_isWord, 8, (some .boolean), 10, 7)
set_option maxRecDepth 100000 in
theorem ok_X10_isWord : MOk mX10_isWord := ⟨List.mem_of_getElem? (i := 1621) rfl, List.mem_of_getElem? (i := 150) rfl, by decide +kernel, ⟨by decide +kernel, by decide +kernel⟩, by decide +kernel, rfl, by decide⟩
theorem hs_X10_isWord : hsOf mX10_isWord = [] := by decide +kernel
theorem vi_X10_isWord : MVi mX10_isWord := ⟨by decide, List.mem_of_getElem? (i := 1620) (by decide +kernel), List.mem_of_getElem? (i := 102) (by decide +kernel)⟩
abbrev mX10_wordHere : aM := (yX10_wordHere, cX10_wordHere, 4, (some .long), 10, 0)
set_option maxRecDepth 100000 in
theorem ok_X10_wordHere : MOk mX10_wordHere := ⟨List.mem_of_getElem? (i := 1625) rfl, List.mem_of_getElem? (i := 150) rfl, by decide +kernel, ⟨by decide +kernel, by decide +kernel⟩, by decide +kernel, rfl, by decide⟩
theorem hs_X10_wordHere : hsOf mX10_wordHere = [] := by decide +kernel
theorem vi_X10_wordHere : MVi mX10_wordHere := ⟨by decide, List.mem_of_getElem? (i := 1624) (by decide +kernel), List.mem_of_getElem? (i := 103) (by decide +kernel)⟩
abbrev mX10_seven : aM := (yX10_seven, cX10_seven, 9, (some .long), 10, 7)
set_option maxRecDepth 100000 in
theorem ok_X10_seven : MOk mX10_seven := ⟨List.mem_of_getElem? (i := 1631) rfl, List.mem_of_getElem? (i := 150) rfl, by decide +kernel, ⟨by decide +kernel, by decide +kernel⟩, by decide +kernel, rfl, by decide⟩
theorem hs_X10_seven : hsOf mX10_seven = [] := by decide +kernel
theorem st_X10_seven : MSt mX10_seven := List.mem_of_getElem? (i := 1630) (by decide +kernel)
abbrev mX10_wrong : aM := (yX10_wrong, cX10_wrong, 3, none, 10, 2)
set_option maxRecDepth 100000 in
theorem ok_X10_wrong : MOk mX10_wrong := ⟨List.mem_of_getElem? (i := 1635) rfl, List.mem_of_getElem? (i := 150) rfl, by decide +kernel, ⟨by decide +kernel, by decide +kernel⟩, by decide +kernel, rfl, by decide⟩
theorem hs_X10_wrong : hsOf mX10_wrong = [] := by decide +kernel
theorem vi_X10_wrong : MVi mX10_wrong := ⟨by decide, List.mem_of_getElem? (i := 1634) (by decide +kernel), List.mem_of_getElem? (i := 104) (by decide +kernel)⟩
abbrev mX10_isFull : aM := (yX10_isFull, cX10_isFull, 2, (some .boolean), 10, 1)
set_option maxRecDepth 100000 in
theorem ok_X10_isFull : MOk mX10_isFull := ⟨List.mem_of_getElem? (i := 1639) rfl, List.mem_of_getElem? (i := 150) rfl, by decide +kernel, ⟨by decide +kernel, by decide +kernel⟩, by decide +kernel, rfl, by decide⟩
theorem hs_X10_isFull : hsOf mX10_isFull = [] := by decide +kernel
theorem vi_X10_isFull : MVi mX10_isFull := ⟨by decide, List.mem_of_getElem? (i := 1638) (by decide +kernel), List.mem_of_getElem? (i := 105) (by decide +kernel)⟩
abbrev mX10_number : aM := (yX10_number, cX10_number, 5, (some .int), 10, 2)
set_option maxRecDepth 100000 in
theorem ok_X10_number : MOk mX10_number := ⟨List.mem_of_getElem? (i := 1643) rfl, List.mem_of_getElem? (i := 150) rfl, by decide +kernel, ⟨by decide +kernel, by decide +kernel⟩, by decide +kernel, rfl, by decide⟩
theorem hs_X10_number : hsOf mX10_number = [] := by decide +kernel
theorem vi_X10_number : MVi mX10_number := ⟨by decide, List.mem_of_getElem? (i := 1642) (by decide +kernel), List.mem_of_getElem? (i := 106) (by decide +kernel)⟩
abbrev mX10_isDigit : aM := (yX10_isDigit, cX10_isDigit, 1, (some .boolean), 10, 1)
set_option maxRecDepth 100000 in
theorem ok_X10_isDigit : MOk mX10_isDigit := ⟨List.mem_of_getElem? (i := 1646) rfl, List.mem_of_getElem? (i := 150) rfl, by decide +kernel, ⟨by decide +kernel, by decide +kernel⟩, by decide +kernel, rfl, by decide⟩
theorem hs_X10_isDigit : hsOf mX10_isDigit = [] := by decide +kernel
theorem st_X10_isDigit : MSt mX10_isDigit := List.mem_of_getElem? (i := 1645) (by decide +kernel)
abbrev mX10_stallHere : aM := (yX10_stallHere, cX10_stallHere, 4, none, 10, 1)
set_option maxRecDepth 100000 in
theorem ok_X10_stallHere : MOk mX10_stallHere := ⟨List.mem_of_getElem? (i := 1651) rfl, List.mem_of_getElem? (i := 150) rfl, by decide +kernel, ⟨by decide +kernel, by decide +kernel⟩, by decide +kernel, rfl, by decide⟩
theorem hs_X10_stallHere : hsOf mX10_stallHere = [] := by decide +kernel
theorem vi_X10_stallHere : MVi mX10_stallHere := ⟨by decide, List.mem_of_getElem? (i := 1650) (by decide +kernel), List.mem_of_getElem? (i := 107) (by decide +kernel)⟩
abbrev mX10_sunHere : aM := (yX10_sunHere, cX10_sunHere, 6, none, 10, 0)
set_option maxRecDepth 100000 in
theorem ok_X10_sunHere : MOk mX10_sunHere := ⟨List.mem_of_getElem? (i := 1655) rfl, List.mem_of_getElem? (i := 150) rfl, by decide +kernel, ⟨by decide +kernel, by decide +kernel⟩, by decide +kernel, rfl, by decide⟩
theorem hs_X10_sunHere : hsOf mX10_sunHere = [] := by decide +kernel
theorem vi_X10_sunHere : MVi mX10_sunHere := ⟨by decide, List.mem_of_getElem? (i := 1654) (by decide +kernel), List.mem_of_getElem? (i := 108) (by decide +kernel)⟩
abbrev mX10_rateHere : aM := (yX10_rateHere, cX10_rateHere, 4, none, 10, 0)
set_option maxRecDepth 100000 in
theorem ok_X10_rateHere : MOk mX10_rateHere := ⟨List.mem_of_getElem? (i := 1659) rfl, List.mem_of_getElem? (i := 150) rfl, by decide +kernel, ⟨by decide +kernel, by decide +kernel⟩, by decide +kernel, rfl, by decide⟩
theorem hs_X10_rateHere : hsOf mX10_rateHere = [] := by decide +kernel
theorem vi_X10_rateHere : MVi mX10_rateHere := ⟨by decide, List.mem_of_getElem? (i := 1658) (by decide +kernel), List.mem_of_getElem? (i := 109) (by decide +kernel)⟩
abbrev mX10_ofStall : aM := (yX10_ofStall, cX10_ofStall, 5, none, 10, 1)
set_option maxRecDepth 100000 in
theorem ok_X10_ofStall : MOk mX10_ofStall := ⟨List.mem_of_getElem? (i := 1663) rfl, List.mem_of_getElem? (i := 150) rfl, by decide +kernel, ⟨by decide +kernel, by decide +kernel⟩, by decide +kernel, rfl, by decide⟩
theorem hs_X10_ofStall : hsOf mX10_ofStall = [] := by decide +kernel
theorem vi_X10_ofStall : MVi mX10_ofStall := ⟨by decide, List.mem_of_getElem? (i := 1662) (by decide +kernel), List.mem_of_getElem? (i := 110) (by decide +kernel)⟩
abbrev mX10_fault : aM := (yX10_fault, cX10_fault, 1, (some .int), 10, 0)
set_option maxRecDepth 100000 in
theorem ok_X10_fault : MOk mX10_fault := ⟨List.mem_of_getElem? (i := 1667) rfl, List.mem_of_getElem? (i := 150) rfl, by decide +kernel, ⟨by decide +kernel, by decide +kernel⟩, by decide +kernel, rfl, by decide⟩
theorem hs_X10_fault : hsOf mX10_fault = [] := by decide +kernel
theorem vi_X10_fault : MVi mX10_fault := ⟨by decide, List.mem_of_getElem? (i := 1665) (by decide +kernel), List.mem_of_getElem? (i := 1666) (by decide +kernel)⟩
abbrev mX10_told : aM := (yX10_told, cX10_told, 2, (some .int), 10, 1)
set_option maxRecDepth 100000 in
theorem ok_X10_told : MOk mX10_told := ⟨List.mem_of_getElem? (i := 1671) rfl, List.mem_of_getElem? (i := 150) rfl, by decide +kernel, ⟨by decide +kernel, by decide +kernel⟩, by decide +kernel, rfl, by decide⟩
theorem hs_X10_told : hsOf mX10_told = [] := by decide +kernel
theorem vi_X10_told : MVi mX10_told := ⟨by decide, List.mem_of_getElem? (i := 1669) (by decide +kernel), List.mem_of_getElem? (i := 1670) (by decide +kernel)⟩
abbrev mX10_stall : aM := (yX10_stall, cX10_stall, 3, (some .int), 10, 2)
set_option maxRecDepth 100000 in
theorem ok_X10_stall : MOk mX10_stall := ⟨List.mem_of_getElem? (i := 1675) rfl, List.mem_of_getElem? (i := 150) rfl, by decide +kernel, ⟨by decide +kernel, by decide +kernel⟩, by decide +kernel, rfl, by decide⟩
theorem hs_X10_stall : hsOf mX10_stall = [] := by decide +kernel
theorem vi_X10_stall : MVi mX10_stall := ⟨by decide, List.mem_of_getElem? (i := 1673) (by decide +kernel), List.mem_of_getElem? (i := 1674) (by decide +kernel)⟩
abbrev mX10_isStall : aM := (yX10_isStall, cX10_isStall, 2, (some .boolean), 10, 1)
set_option maxRecDepth 100000 in
theorem ok_X10_isStall : MOk mX10_isStall := ⟨List.mem_of_getElem? (i := 1679) rfl, List.mem_of_getElem? (i := 150) rfl, by decide +kernel, ⟨by decide +kernel, by decide +kernel⟩, by decide +kernel, rfl, by decide⟩
theorem hs_X10_isStall : hsOf mX10_isStall = [] := by decide +kernel
theorem vi_X10_isStall : MVi mX10_isStall := ⟨by decide, List.mem_of_getElem? (i := 1678) (by decide +kernel), List.mem_of_getElem? (i := 111) (by decide +kernel)⟩
abbrev mX10_length : aM := (yX10_length, cX10_length, 4, (some .int), 10, 2)
set_option maxRecDepth 100000 in
theorem ok_X10_length : MOk mX10_length := ⟨List.mem_of_getElem? (i := 1683) rfl, List.mem_of_getElem? (i := 150) rfl, by decide +kernel, ⟨by decide +kernel, by decide +kernel⟩, by decide +kernel, rfl, by decide⟩
theorem hs_X10_length : hsOf mX10_length = [] := by decide +kernel
theorem vi_X10_length : MVi mX10_length := ⟨by decide, List.mem_of_getElem? (i := 1681) (by decide +kernel), List.mem_of_getElem? (i := 1682) (by decide +kernel)⟩
abbrev mX10_isMinute : aM := (yX10_isMinute, cX10_isMinute, 1, (some .boolean), 10, 1)
set_option maxRecDepth 100000 in
theorem ok_X10_isMinute : MOk mX10_isMinute := ⟨List.mem_of_getElem? (i := 1686) rfl, List.mem_of_getElem? (i := 150) rfl, by decide +kernel, ⟨by decide +kernel, by decide +kernel⟩, by decide +kernel, rfl, by decide⟩
theorem hs_X10_isMinute : hsOf mX10_isMinute = [] := by decide +kernel
theorem st_X10_isMinute : MSt mX10_isMinute := List.mem_of_getElem? (i := 1685) (by decide +kernel)
abbrev mX10_lengthBy : aM := (yX10_lengthBy, cX10_lengthBy, 3, (some .int), 10, 2)
set_option maxRecDepth 100000 in
theorem ok_X10_lengthBy : MOk mX10_lengthBy := ⟨List.mem_of_getElem? (i := 1690) rfl, List.mem_of_getElem? (i := 150) rfl, by decide +kernel, ⟨by decide +kernel, by decide +kernel⟩, by decide +kernel, rfl, by decide⟩
theorem hs_X10_lengthBy : hsOf mX10_lengthBy = [] := by decide +kernel
theorem vi_X10_lengthBy : MVi mX10_lengthBy := ⟨by decide, List.mem_of_getElem? (i := 1689) (by decide +kernel), List.mem_of_getElem? (i := 112) (by decide +kernel)⟩
abbrev mX10_shades : aM := (yX10_shades, cX10_shades, 4, (some .boolean), 10, 3)
set_option maxRecDepth 100000 in
theorem ok_X10_shades : MOk mX10_shades := ⟨List.mem_of_getElem? (i := 1694) rfl, List.mem_of_getElem? (i := 150) rfl, by decide +kernel, ⟨by decide +kernel, by decide +kernel⟩, by decide +kernel, rfl, by decide⟩
theorem hs_X10_shades : hsOf mX10_shades = [] := by decide +kernel
theorem vi_X10_shades : MVi mX10_shades := ⟨by decide, List.mem_of_getElem? (i := 1692) (by decide +kernel), List.mem_of_getElem? (i := 1693) (by decide +kernel)⟩
abbrev mX10_badTwo : aM := (yX10_badTwo, cX10_badTwo, 3, (some .boolean), 10, 2)
set_option maxRecDepth 100000 in
theorem ok_X10_badTwo : MOk mX10_badTwo := ⟨List.mem_of_getElem? (i := 1698) rfl, List.mem_of_getElem? (i := 150) rfl, by decide +kernel, ⟨by decide +kernel, by decide +kernel⟩, by decide +kernel, rfl, by decide⟩
theorem hs_X10_badTwo : hsOf mX10_badTwo = [] := by decide +kernel
theorem vi_X10_badTwo : MVi mX10_badTwo := ⟨by decide, List.mem_of_getElem? (i := 1697) (by decide +kernel), List.mem_of_getElem? (i := 113) (by decide +kernel)⟩
abbrev mX10_onAt : aM := (yX10_onAt, cX10_onAt, 4, (some .int), 10, 2)
set_option maxRecDepth 100000 in
theorem ok_X10_onAt : MOk mX10_onAt := ⟨List.mem_of_getElem? (i := 1702) rfl, List.mem_of_getElem? (i := 150) rfl, by decide +kernel, ⟨by decide +kernel, by decide +kernel⟩, by decide +kernel, rfl, by decide⟩
theorem hs_X10_onAt : hsOf mX10_onAt = [] := by decide +kernel
theorem vi_X10_onAt : MVi mX10_onAt := ⟨by decide, List.mem_of_getElem? (i := 1701) (by decide +kernel), List.mem_of_getElem? (i := 114) (by decide +kernel)⟩
abbrev mX10_throwsBy : aM := (yX10_throwsBy, cX10_throwsBy, 10, none, 10, 1)
set_option maxRecDepth 100000 in
theorem ok_X10_throwsBy : MOk mX10_throwsBy := ⟨List.mem_of_getElem? (i := 1706) rfl, List.mem_of_getElem? (i := 150) rfl, by decide +kernel, ⟨by decide +kernel, by decide +kernel⟩, by decide +kernel, rfl, by decide⟩
theorem hs_X10_throwsBy : hsOf mX10_throwsBy = [] := by decide +kernel
theorem vi_X10_throwsBy : MVi mX10_throwsBy := ⟨by decide, List.mem_of_getElem? (i := 1705) (by decide +kernel), List.mem_of_getElem? (i := 115) (by decide +kernel)⟩
abbrev mX10_isThere : aM := (yX10_isThere, cX10_isThere, 2, (some .boolean), 10, 1)
set_option maxRecDepth 100000 in
theorem ok_X10_isThere : MOk mX10_isThere := ⟨List.mem_of_getElem? (i := 1710) rfl, List.mem_of_getElem? (i := 150) rfl, by decide +kernel, ⟨by decide +kernel, by decide +kernel⟩, by decide +kernel, rfl, by decide⟩
theorem hs_X10_isThere : hsOf mX10_isThere = [] := by decide +kernel
theorem vi_X10_isThere : MVi mX10_isThere := ⟨by decide, List.mem_of_getElem? (i := 1709) (by decide +kernel), List.mem_of_getElem? (i := 116) (by decide +kernel)⟩
abbrev mX10_stallOn : aM := (yX10_stallOn, cX10_stallOn, 4, (some .int), 10, 2)
set_option maxRecDepth 100000 in
theorem ok_X10_stallOn : MOk mX10_stallOn := ⟨List.mem_of_getElem? (i := 1714) rfl, List.mem_of_getElem? (i := 150) rfl, by decide +kernel, ⟨by decide +kernel, by decide +kernel⟩, by decide +kernel, rfl, by decide⟩
theorem hs_X10_stallOn : hsOf mX10_stallOn = [] := by decide +kernel
theorem vi_X10_stallOn : MVi mX10_stallOn := ⟨by decide, List.mem_of_getElem? (i := 1713) (by decide +kernel), List.mem_of_getElem? (i := 117) (by decide +kernel)⟩
abbrev mX10_isCovered : aM := (yX10_isCovered, cX10_isCovered, 4, (some .boolean), 10, 2)
set_option maxRecDepth 100000 in
theorem ok_X10_isCovered : MOk mX10_isCovered := ⟨List.mem_of_getElem? (i := 1718) rfl, List.mem_of_getElem? (i := 150) rfl, by decide +kernel, ⟨by decide +kernel, by decide +kernel⟩, by decide +kernel, rfl, by decide⟩
theorem hs_X10_isCovered : hsOf mX10_isCovered = [] := by decide +kernel
theorem vi_X10_isCovered : MVi mX10_isCovered := ⟨by decide, List.mem_of_getElem? (i := 1717) (by decide +kernel), List.mem_of_getElem? (i := 118) (by decide +kernel)⟩
abbrev mX10_under : aM := (yX10_under, cX10_under, 3, (some .int), 10, 2)
set_option maxRecDepth 100000 in
theorem ok_X10_under : MOk mX10_under := ⟨List.mem_of_getElem? (i := 1722) rfl, List.mem_of_getElem? (i := 150) rfl, by decide +kernel, ⟨by decide +kernel, by decide +kernel⟩, by decide +kernel, rfl, by decide⟩
theorem hs_X10_under : hsOf mX10_under = [] := by decide +kernel
theorem vi_X10_under : MVi mX10_under := ⟨by decide, List.mem_of_getElem? (i := 1720) (by decide +kernel), List.mem_of_getElem? (i := 1721) (by decide +kernel)⟩
abbrev mX10_minutes : aM := (yX10_minutes, cX10_minutes, 3, (some .int), 10, 2)
set_option maxRecDepth 100000 in
theorem ok_X10_minutes : MOk mX10_minutes := ⟨List.mem_of_getElem? (i := 1726) rfl, List.mem_of_getElem? (i := 150) rfl, by decide +kernel, ⟨by decide +kernel, by decide +kernel⟩, by decide +kernel, rfl, by decide⟩
theorem hs_X10_minutes : hsOf mX10_minutes = [] := by decide +kernel
theorem vi_X10_minutes : MVi mX10_minutes := ⟨by decide, List.mem_of_getElem? (i := 1724) (by decide +kernel), List.mem_of_getElem? (i := 1725) (by decide +kernel)⟩
abbrev mX10_dueNow : aM := (yX10_dueNow, cX10_dueNow, 1, (some .int), 10, 0)
set_option maxRecDepth 100000 in
theorem ok_X10_dueNow : MOk mX10_dueNow := ⟨List.mem_of_getElem? (i := 1730) rfl, List.mem_of_getElem? (i := 150) rfl, by decide +kernel, ⟨by decide +kernel, by decide +kernel⟩, by decide +kernel, rfl, by decide⟩
theorem hs_X10_dueNow : hsOf mX10_dueNow = [] := by decide +kernel
theorem vi_X10_dueNow : MVi mX10_dueNow := ⟨by decide, List.mem_of_getElem? (i := 1729) (by decide +kernel), List.mem_of_getElem? (i := 119) (by decide +kernel)⟩
abbrev mX10_goes : aM := (yX10_goes, cX10_goes, 7, none, 10, 3)
set_option maxRecDepth 100000 in
theorem ok_X10_goes : MOk mX10_goes := ⟨List.mem_of_getElem? (i := 1734) rfl, List.mem_of_getElem? (i := 150) rfl, by decide +kernel, ⟨by decide +kernel, by decide +kernel⟩, by decide +kernel, rfl, by decide⟩
theorem hs_X10_goes : hsOf mX10_goes = [] := by decide +kernel
theorem vi_X10_goes : MVi mX10_goes := ⟨by decide, List.mem_of_getElem? (i := 1733) (by decide +kernel), List.mem_of_getElem? (i := 120) (by decide +kernel)⟩
abbrev mX10_counts : aM := (yX10_counts, cX10_counts, 8, none, 10, 2)
set_option maxRecDepth 100000 in
theorem ok_X10_counts : MOk mX10_counts := ⟨List.mem_of_getElem? (i := 1738) rfl, List.mem_of_getElem? (i := 150) rfl, by decide +kernel, ⟨by decide +kernel, by decide +kernel⟩, by decide +kernel, rfl, by decide⟩
theorem hs_X10_counts : hsOf mX10_counts = [] := by decide +kernel
theorem vi_X10_counts : MVi mX10_counts := ⟨by decide, List.mem_of_getElem? (i := 1737) (by decide +kernel), List.mem_of_getElem? (i := 121) (by decide +kernel)⟩
abbrev mX10_ones : aM := (yX10_ones, cX10_ones, 3, (some .int), 10, 1)
set_option maxRecDepth 100000 in
theorem ok_X10_ones : MOk mX10_ones := ⟨List.mem_of_getElem? (i := 1741) rfl, List.mem_of_getElem? (i := 150) rfl, by decide +kernel, ⟨by decide +kernel, by decide +kernel⟩, by decide +kernel, rfl, by decide⟩
theorem hs_X10_ones : hsOf mX10_ones = [] := by decide +kernel
theorem st_X10_ones : MSt mX10_ones := List.mem_of_getElem? (i := 1740) (by decide +kernel)
abbrev mX10_chill : aM := (yX10_chill, cX10_chill, 2, (some .int), 10, 1)
set_option maxRecDepth 100000 in
theorem ok_X10_chill : MOk mX10_chill := ⟨List.mem_of_getElem? (i := 1745) rfl, List.mem_of_getElem? (i := 150) rfl, by decide +kernel, ⟨by decide +kernel, by decide +kernel⟩, by decide +kernel, rfl, by decide⟩
theorem hs_X10_chill : hsOf mX10_chill = [] := by decide +kernel
theorem vi_X10_chill : MVi mX10_chill := ⟨by decide, List.mem_of_getElem? (i := 1743) (by decide +kernel), List.mem_of_getElem? (i := 1744) (by decide +kernel)⟩
abbrev mX10_owes : aM := (yX10_owes, cX10_owes, 4, (some .int), 10, 3)
set_option maxRecDepth 100000 in
theorem ok_X10_owes : MOk mX10_owes := ⟨List.mem_of_getElem? (i := 1749) rfl, List.mem_of_getElem? (i := 150) rfl, by decide +kernel, ⟨by decide +kernel, by decide +kernel⟩, by decide +kernel, rfl, by decide⟩
theorem hs_X10_owes : hsOf mX10_owes = [] := by decide +kernel
theorem vi_X10_owes : MVi mX10_owes := ⟨by decide, List.mem_of_getElem? (i := 1747) (by decide +kernel), List.mem_of_getElem? (i := 1748) (by decide +kernel)⟩
abbrev mX10_isTill : aM := (yX10_isTill, cX10_isTill, 1, (some .boolean), 10, 1)
set_option maxRecDepth 100000 in
theorem ok_X10_isTill : MOk mX10_isTill := ⟨List.mem_of_getElem? (i := 1752) rfl, List.mem_of_getElem? (i := 150) rfl, by decide +kernel, ⟨by decide +kernel, by decide +kernel⟩, by decide +kernel, rfl, by decide⟩
theorem hs_X10_isTill : hsOf mX10_isTill = [] := by decide +kernel
theorem st_X10_isTill : MSt mX10_isTill := List.mem_of_getElem? (i := 1751) (by decide +kernel)
abbrev mX10_net : aM := (yX10_net, cX10_net, 3, (some .int), 10, 2)
set_option maxRecDepth 100000 in
theorem ok_X10_net : MOk mX10_net := ⟨List.mem_of_getElem? (i := 1756) rfl, List.mem_of_getElem? (i := 150) rfl, by decide +kernel, ⟨by decide +kernel, by decide +kernel⟩, by decide +kernel, rfl, by decide⟩
theorem hs_X10_net : hsOf mX10_net = [] := by decide +kernel
theorem vi_X10_net : MVi mX10_net := ⟨by decide, List.mem_of_getElem? (i := 1754) (by decide +kernel), List.mem_of_getElem? (i := 1755) (by decide +kernel)⟩
abbrev mX10_netOf : aM := (yX10_netOf, cX10_netOf, 4, (some .int), 10, 1)
set_option maxRecDepth 100000 in
theorem ok_X10_netOf : MOk mX10_netOf := ⟨List.mem_of_getElem? (i := 1760) rfl, List.mem_of_getElem? (i := 150) rfl, by decide +kernel, ⟨by decide +kernel, by decide +kernel⟩, by decide +kernel, rfl, by decide⟩
theorem hs_X10_netOf : hsOf mX10_netOf = [] := by decide +kernel
theorem vi_X10_netOf : MVi mX10_netOf := ⟨by decide, List.mem_of_getElem? (i := 1759) (by decide +kernel), List.mem_of_getElem? (i := 122) (by decide +kernel)⟩
abbrev mX10_payments : aM := (yX10_payments, cX10_payments, 5, (some .int), 10, 1)
set_option maxRecDepth 100000 in
theorem ok_X10_payments : MOk mX10_payments := ⟨List.mem_of_getElem? (i := 1764) rfl, List.mem_of_getElem? (i := 150) rfl, by decide +kernel, ⟨by decide +kernel, by decide +kernel⟩, by decide +kernel, rfl, by decide⟩
theorem hs_X10_payments : hsOf mX10_payments = [] := by decide +kernel
theorem vi_X10_payments : MVi mX10_payments := ⟨by decide, List.mem_of_getElem? (i := 1762) (by decide +kernel), List.mem_of_getElem? (i := 1763) (by decide +kernel)⟩
abbrev mX10_due : aM := (yX10_due, cX10_due, 1, (some .int), 10, 0)
set_option maxRecDepth 100000 in
theorem ok_X10_due : MOk mX10_due := ⟨List.mem_of_getElem? (i := 1768) rfl, List.mem_of_getElem? (i := 150) rfl, by decide +kernel, ⟨by decide +kernel, by decide +kernel⟩, by decide +kernel, rfl, by decide⟩
theorem hs_X10_due : hsOf mX10_due = [] := by decide +kernel
theorem vi_X10_due : MVi mX10_due := ⟨by decide, List.mem_of_getElem? (i := 1766) (by decide +kernel), List.mem_of_getElem? (i := 1767) (by decide +kernel)⟩
abbrev mX10_first : aM := (yX10_first, cX10_first, 5, (some .int), 10, 1)
set_option maxRecDepth 100000 in
theorem ok_X10_first : MOk mX10_first := ⟨List.mem_of_getElem? (i := 1772) rfl, List.mem_of_getElem? (i := 150) rfl, by decide +kernel, ⟨by decide +kernel, by decide +kernel⟩, by decide +kernel, rfl, by decide⟩
theorem hs_X10_first : hsOf mX10_first = [] := by decide +kernel
theorem vi_X10_first : MVi mX10_first := ⟨by decide, List.mem_of_getElem? (i := 1770) (by decide +kernel), List.mem_of_getElem? (i := 1771) (by decide +kernel)⟩
abbrev mX10_winter : aM := (yX10_winter, cX10_winter, 3, (some .int), 10, 1)
set_option maxRecDepth 100000 in
theorem ok_X10_winter : MOk mX10_winter := ⟨List.mem_of_getElem? (i := 1776) rfl, List.mem_of_getElem? (i := 150) rfl, by decide +kernel, ⟨by decide +kernel, by decide +kernel⟩, by decide +kernel, rfl, by decide⟩
theorem hs_X10_winter : hsOf mX10_winter = [] := by decide +kernel
theorem vi_X10_winter : MVi mX10_winter := ⟨by decide, List.mem_of_getElem? (i := 1774) (by decide +kernel), List.mem_of_getElem? (i := 1775) (by decide +kernel)⟩
abbrev mX10_move : aM := (yX10_move, cX10_move, 4, (some .int), 10, 3)
set_option maxRecDepth 100000 in
theorem ok_X10_move : MOk mX10_move := ⟨List.mem_of_getElem? (i := 1780) rfl, List.mem_of_getElem? (i := 150) rfl, by decide +kernel, ⟨by decide +kernel, by decide +kernel⟩, by decide +kernel, rfl, by decide⟩
theorem hs_X10_move : hsOf mX10_move = [] := by decide +kernel
theorem vi_X10_move : MVi mX10_move := ⟨by decide, List.mem_of_getElem? (i := 1778) (by decide +kernel), List.mem_of_getElem? (i := 1779) (by decide +kernel)⟩
abbrev mX10_tall : aM := (yX10_tall, cX10_tall, 4, (some .int), 10, 2)
set_option maxRecDepth 100000 in
theorem ok_X10_tall : MOk mX10_tall := ⟨List.mem_of_getElem? (i := 1784) rfl, List.mem_of_getElem? (i := 150) rfl, by decide +kernel, ⟨by decide +kernel, by decide +kernel⟩, by decide +kernel, rfl, by decide⟩
theorem hs_X10_tall : hsOf mX10_tall = [] := by decide +kernel
theorem vi_X10_tall : MVi mX10_tall := ⟨by decide, List.mem_of_getElem? (i := 1782) (by decide +kernel), List.mem_of_getElem? (i := 1783) (by decide +kernel)⟩
abbrev mX10_set : aM := (yX10_set, cX10_set, 4, (some .int), 10, 2)
set_option maxRecDepth 100000 in
theorem ok_X10_set : MOk mX10_set := ⟨List.mem_of_getElem? (i := 1788) rfl, List.mem_of_getElem? (i := 150) rfl, by decide +kernel, ⟨by decide +kernel, by decide +kernel⟩, by decide +kernel, rfl, by decide⟩
theorem hs_X10_set : hsOf mX10_set = [] := by decide +kernel
theorem vi_X10_set : MVi mX10_set := ⟨by decide, List.mem_of_getElem? (i := 1786) (by decide +kernel), List.mem_of_getElem? (i := 1787) (by decide +kernel)⟩
abbrev mX10_saves : aM := (yX10_saves, cX10_saves, 4, none, 10, 2)
set_option maxRecDepth 100000 in
theorem ok_X10_saves : MOk mX10_saves := ⟨List.mem_of_getElem? (i := 1792) rfl, List.mem_of_getElem? (i := 150) rfl, by decide +kernel, ⟨by decide +kernel, by decide +kernel⟩, by decide +kernel, rfl, by decide⟩
theorem hs_X10_saves : hsOf mX10_saves = [] := by decide +kernel
theorem vi_X10_saves : MVi mX10_saves := ⟨by decide, List.mem_of_getElem? (i := 1791) (by decide +kernel), List.mem_of_getElem? (i := 123) (by decide +kernel)⟩
abbrev mX10_puts : aM := (yX10_puts, cX10_puts, 7, none, 10, 3)
set_option maxRecDepth 100000 in
theorem ok_X10_puts : MOk mX10_puts := ⟨List.mem_of_getElem? (i := 1796) rfl, List.mem_of_getElem? (i := 150) rfl, by decide +kernel, ⟨by decide +kernel, by decide +kernel⟩, by decide +kernel, rfl, by decide⟩
theorem hs_X10_puts : hsOf mX10_puts = [] := by decide +kernel
theorem vi_X10_puts : MVi mX10_puts := ⟨by decide, List.mem_of_getElem? (i := 1795) (by decide +kernel), List.mem_of_getElem? (i := 124) (by decide +kernel)⟩
abbrev mX10_setsBack : aM := (yX10_setsBack, cX10_setsBack, 4, none, 10, 2)
set_option maxRecDepth 100000 in
theorem ok_X10_setsBack : MOk mX10_setsBack := ⟨List.mem_of_getElem? (i := 1800) rfl, List.mem_of_getElem? (i := 150) rfl, by decide +kernel, ⟨by decide +kernel, by decide +kernel⟩, by decide +kernel, rfl, by decide⟩
theorem hs_X10_setsBack : hsOf mX10_setsBack = [] := by decide +kernel
theorem vi_X10_setsBack : MVi mX10_setsBack := ⟨by decide, List.mem_of_getElem? (i := 1799) (by decide +kernel), List.mem_of_getElem? (i := 125) (by decide +kernel)⟩
abbrev mX10_exchange : aM := (yX10_exchange, cX10_exchange, 1, (some .int), 10, 0)
set_option maxRecDepth 100000 in
theorem ok_X10_exchange : MOk mX10_exchange := ⟨List.mem_of_getElem? (i := 1804) rfl, List.mem_of_getElem? (i := 150) rfl, by decide +kernel, ⟨by decide +kernel, by decide +kernel⟩, by decide +kernel, rfl, by decide⟩
theorem hs_X10_exchange : hsOf mX10_exchange = [] := by decide +kernel
theorem vi_X10_exchange : MVi mX10_exchange := ⟨by decide, List.mem_of_getElem? (i := 1802) (by decide +kernel), List.mem_of_getElem? (i := 1803) (by decide +kernel)⟩
abbrev mX10_exchangeNow : aM := (yX10_exchangeNow, cX10_exchangeNow, 6, (some .int), 10, 0)
set_option maxRecDepth 100000 in
theorem ok_X10_exchangeNow : MOk mX10_exchangeNow := ⟨List.mem_of_getElem? (i := 1808) rfl, List.mem_of_getElem? (i := 150) rfl, by decide +kernel, ⟨by decide +kernel, by decide +kernel⟩, by decide +kernel, rfl, by decide⟩
theorem hs_X10_exchangeNow : hsOf mX10_exchangeNow = [] := by decide +kernel
theorem vi_X10_exchangeNow : MVi mX10_exchangeNow := ⟨by decide, List.mem_of_getElem? (i := 1807) (by decide +kernel), List.mem_of_getElem? (i := 126) (by decide +kernel)⟩
abbrev mX10_changes : aM := (yX10_changes, cX10_changes, 5, none, 10, 2)
set_option maxRecDepth 100000 in
theorem ok_X10_changes : MOk mX10_changes := ⟨List.mem_of_getElem? (i := 1812) rfl, List.mem_of_getElem? (i := 150) rfl, by decide +kernel, ⟨by decide +kernel, by decide +kernel⟩, by decide +kernel, rfl, by decide⟩
theorem hs_X10_changes : hsOf mX10_changes = [] := by decide +kernel
theorem vi_X10_changes : MVi mX10_changes := ⟨by decide, List.mem_of_getElem? (i := 1811) (by decide +kernel), List.mem_of_getElem? (i := 127) (by decide +kernel)⟩
abbrev mX10_improved : aM := (yX10_improved, cX10_improved, 4, (some .int), 10, 1)
set_option maxRecDepth 100000 in
theorem ok_X10_improved : MOk mX10_improved := ⟨List.mem_of_getElem? (i := 1816) rfl, List.mem_of_getElem? (i := 150) rfl, by decide +kernel, ⟨by decide +kernel, by decide +kernel⟩, by decide +kernel, rfl, by decide⟩
theorem hs_X10_improved : hsOf mX10_improved = [] := by decide +kernel
theorem vi_X10_improved : MVi mX10_improved := ⟨by decide, List.mem_of_getElem? (i := 1814) (by decide +kernel), List.mem_of_getElem? (i := 1815) (by decide +kernel)⟩
abbrev mX10_pole : aM := (yX10_pole, cX10_pole, 8, (some .int), 10, 2)
set_option maxRecDepth 100000 in
theorem ok_X10_pole : MOk mX10_pole := ⟨List.mem_of_getElem? (i := 1820) rfl, List.mem_of_getElem? (i := 150) rfl, by decide +kernel, ⟨by decide +kernel, by decide +kernel⟩, by decide +kernel, rfl, by decide⟩
theorem hs_X10_pole : hsOf mX10_pole = [] := by decide +kernel
theorem vi_X10_pole : MVi mX10_pole := ⟨by decide, List.mem_of_getElem? (i := 1818) (by decide +kernel), List.mem_of_getElem? (i := 1819) (by decide +kernel)⟩
abbrev mX10_adds : aM := (yX10_adds, cX10_adds, 5, none, 10, 3)
set_option maxRecDepth 100000 in
theorem ok_X10_adds : MOk mX10_adds := ⟨List.mem_of_getElem? (i := 1824) rfl, List.mem_of_getElem? (i := 150) rfl, by decide +kernel, ⟨by decide +kernel, by decide +kernel⟩, by decide +kernel, rfl, by decide⟩
theorem hs_X10_adds : hsOf mX10_adds = [] := by decide +kernel
theorem vi_X10_adds : MVi mX10_adds := ⟨by decide, List.mem_of_getElem? (i := 1823) (by decide +kernel), List.mem_of_getElem? (i := 128) (by decide +kernel)⟩
abbrev mX10_wish : aM := (yX10_wish, cX10_wish, 2, (some .int), 10, 1)
set_option maxRecDepth 100000 in
theorem ok_X10_wish : MOk mX10_wish := ⟨List.mem_of_getElem? (i := 1828) rfl, List.mem_of_getElem? (i := 150) rfl, by decide +kernel, ⟨by decide +kernel, by decide +kernel⟩, by decide +kernel, rfl, by decide⟩
theorem hs_X10_wish : hsOf mX10_wish = [] := by decide +kernel
theorem vi_X10_wish : MVi mX10_wish := ⟨by decide, List.mem_of_getElem? (i := 1826) (by decide +kernel), List.mem_of_getElem? (i := 1827) (by decide +kernel)⟩
abbrev mX10_wishOf : aM := (yX10_wishOf, cX10_wishOf, 8, (some .int), 10, 1)
set_option maxRecDepth 100000 in
theorem ok_X10_wishOf : MOk mX10_wishOf := ⟨List.mem_of_getElem? (i := 1832) rfl, List.mem_of_getElem? (i := 150) rfl, by decide +kernel, ⟨by decide +kernel, by decide +kernel⟩, by decide +kernel, rfl, by decide⟩
theorem hs_X10_wishOf : hsOf mX10_wishOf = [] := by decide +kernel
theorem vi_X10_wishOf : MVi mX10_wishOf := ⟨by decide, List.mem_of_getElem? (i := 1831) (by decide +kernel), List.mem_of_getElem? (i := 129) (by decide +kernel)⟩
abbrev mX10_gainOf : aM := (yX10_gainOf, cX10_gainOf, 2, (some .int), 10, 1)
set_option maxRecDepth 100000 in
theorem ok_X10_gainOf : MOk mX10_gainOf := ⟨List.mem_of_getElem? (i := 1836) rfl, List.mem_of_getElem? (i := 150) rfl, by decide +kernel, ⟨by decide +kernel, by decide +kernel⟩, by decide +kernel, rfl, by decide⟩
theorem hs_X10_gainOf : hsOf mX10_gainOf = [] := by decide +kernel
theorem vi_X10_gainOf : MVi mX10_gainOf := ⟨by decide, List.mem_of_getElem? (i := 1835) (by decide +kernel), List.mem_of_getElem? (i := 130) (by decide +kernel)⟩
abbrev mX10_play : aM := (yX10_play, cX10_play, 2, (some .int), 10, 0)
set_option maxRecDepth 100000 in
theorem ok_X10_play : MOk mX10_play := ⟨List.mem_of_getElem? (i := 1840) rfl, List.mem_of_getElem? (i := 150) rfl, by decide +kernel, ⟨by decide +kernel, by decide +kernel⟩, by decide +kernel, rfl, by decide⟩
theorem hs_X10_play : hsOf mX10_play = [] := by decide +kernel
theorem vi_X10_play : MVi mX10_play := ⟨by decide, List.mem_of_getElem? (i := 1838) (by decide +kernel), List.mem_of_getElem? (i := 1839) (by decide +kernel)⟩
abbrev mX10_notes : aM := (yX10_notes, cX10_notes, 3, none, 10, 1)
set_option maxRecDepth 100000 in
theorem ok_X10_notes : MOk mX10_notes := ⟨List.mem_of_getElem? (i := 1844) rfl, List.mem_of_getElem? (i := 150) rfl, by decide +kernel, ⟨by decide +kernel, by decide +kernel⟩, by decide +kernel, rfl, by decide⟩
theorem hs_X10_notes : hsOf mX10_notes = [] := by decide +kernel
theorem vi_X10_notes : MVi mX10_notes := ⟨by decide, List.mem_of_getElem? (i := 1843) (by decide +kernel), List.mem_of_getElem? (i := 131) (by decide +kernel)⟩
abbrev mX10_isAs : aM := (yX10_isAs, cX10_isAs, 3, (some .boolean), 10, 1)
set_option maxRecDepth 100000 in
theorem ok_X10_isAs : MOk mX10_isAs := ⟨List.mem_of_getElem? (i := 1848) rfl, List.mem_of_getElem? (i := 150) rfl, by decide +kernel, ⟨by decide +kernel, by decide +kernel⟩, by decide +kernel, rfl, by decide⟩
theorem hs_X10_isAs : hsOf mX10_isAs = [] := by decide +kernel
theorem vi_X10_isAs : MVi mX10_isAs := ⟨by decide, List.mem_of_getElem? (i := 1847) (by decide +kernel), List.mem_of_getElem? (i := 132) (by decide +kernel)⟩
abbrev mX10_rounds : aM := (yX10_rounds, cX10_rounds, 1, (some .int), 10, 0)
set_option maxRecDepth 100000 in
theorem ok_X10_rounds : MOk mX10_rounds := ⟨List.mem_of_getElem? (i := 1852) rfl, List.mem_of_getElem? (i := 150) rfl, by decide +kernel, ⟨by decide +kernel, by decide +kernel⟩, by decide +kernel, rfl, by decide⟩
theorem hs_X10_rounds : hsOf mX10_rounds = [] := by decide +kernel
theorem vi_X10_rounds : MVi mX10_rounds := ⟨by decide, List.mem_of_getElem? (i := 1850) (by decide +kernel), List.mem_of_getElem? (i := 1851) (by decide +kernel)⟩
abbrev mX10_cold : aM := (yX10_cold, cX10_cold, 4, (some .int), 10, 2)
set_option maxRecDepth 100000 in
theorem ok_X10_cold : MOk mX10_cold := ⟨List.mem_of_getElem? (i := 1856) rfl, List.mem_of_getElem? (i := 150) rfl, by decide +kernel, ⟨by decide +kernel, by decide +kernel⟩, by decide +kernel, rfl, by decide⟩
theorem hs_X10_cold : hsOf mX10_cold = [] := by decide +kernel
theorem vi_X10_cold : MVi mX10_cold := ⟨by decide, List.mem_of_getElem? (i := 1854) (by decide +kernel), List.mem_of_getElem? (i := 1855) (by decide +kernel)⟩
abbrev mX10_what : aM := (yX10_what, cX10_what, 8, (some .int), 10, 1)
set_option maxRecDepth 100000 in
theorem ok_X10_what : MOk mX10_what := ⟨List.mem_of_getElem? (i := 1860) rfl, List.mem_of_getElem? (i := 150) rfl, by decide +kernel, ⟨by decide +kernel, by decide +kernel⟩, by decide +kernel, rfl, by decide⟩
theorem hs_X10_what : hsOf mX10_what = [] := by decide +kernel
theorem vi_X10_what : MVi mX10_what := ⟨by decide, List.mem_of_getElem? (i := 1858) (by decide +kernel), List.mem_of_getElem? (i := 1859) (by decide +kernel)⟩
abbrev mX10_explains : aM := (yX10_explains, cX10_explains, 2, (some .boolean), 10, 0)
set_option maxRecDepth 100000 in
theorem ok_X10_explains : MOk mX10_explains := ⟨List.mem_of_getElem? (i := 1864) rfl, List.mem_of_getElem? (i := 150) rfl, by decide +kernel, ⟨by decide +kernel, by decide +kernel⟩, by decide +kernel, rfl, by decide⟩
theorem hs_X10_explains : hsOf mX10_explains = [] := by decide +kernel
theorem vi_X10_explains : MVi mX10_explains := ⟨by decide, List.mem_of_getElem? (i := 1863) (by decide +kernel), List.mem_of_getElem? (i := 133) (by decide +kernel)⟩
abbrev mX10_days : aM := (yX10_days, cX10_days, 3, (some .int), 10, 1)
set_option maxRecDepth 100000 in
theorem ok_X10_days : MOk mX10_days := ⟨List.mem_of_getElem? (i := 1868) rfl, List.mem_of_getElem? (i := 150) rfl, by decide +kernel, ⟨by decide +kernel, by decide +kernel⟩, by decide +kernel, rfl, by decide⟩
theorem hs_X10_days : hsOf mX10_days = [] := by decide +kernel
theorem vi_X10_days : MVi mX10_days := ⟨by decide, List.mem_of_getElem? (i := 1866) (by decide +kernel), List.mem_of_getElem? (i := 1867) (by decide +kernel)⟩
abbrev mX10_grows : aM := (yX10_grows, cX10_grows, 2, none, 10, 0)
set_option maxRecDepth 100000 in
theorem ok_X10_grows : MOk mX10_grows := ⟨List.mem_of_getElem? (i := 1872) rfl, List.mem_of_getElem? (i := 150) rfl, by decide +kernel, ⟨by decide +kernel, by decide +kernel⟩, by decide +kernel, rfl, by decide⟩
theorem hs_X10_grows : hsOf mX10_grows = [] := by decide +kernel
theorem vi_X10_grows : MVi mX10_grows := ⟨by decide, List.mem_of_getElem? (i := 1871) (by decide +kernel), List.mem_of_getElem? (i := 134) (by decide +kernel)⟩
abbrev mX10_when : aM := (yX10_when, cX10_when, 4, (some .int), 10, 1)
set_option maxRecDepth 100000 in
theorem ok_X10_when : MOk mX10_when := ⟨List.mem_of_getElem? (i := 1876) rfl, List.mem_of_getElem? (i := 150) rfl, by decide +kernel, ⟨by decide +kernel, by decide +kernel⟩, by decide +kernel, rfl, by decide⟩
theorem hs_X10_when : hsOf mX10_when = [] := by decide +kernel
theorem vi_X10_when : MVi mX10_when := ⟨by decide, List.mem_of_getElem? (i := 1874) (by decide +kernel), List.mem_of_getElem? (i := 1875) (by decide +kernel)⟩
abbrev mX10_clouds : aM := (yX10_clouds, cX10_clouds, 3, (some .int), 10, 2)
set_option maxRecDepth 100000 in
theorem ok_X10_clouds : MOk mX10_clouds := ⟨List.mem_of_getElem? (i := 1881) rfl, List.mem_of_getElem? (i := 150) rfl, by decide +kernel, ⟨by decide +kernel, by decide +kernel⟩, by decide +kernel, rfl, by decide⟩
theorem hs_X10_clouds : hsOf mX10_clouds = [] := by decide +kernel
theorem vi_X10_clouds : MVi mX10_clouds := ⟨by decide, List.mem_of_getElem? (i := 1879) (by decide +kernel), List.mem_of_getElem? (i := 1880) (by decide +kernel)⟩
abbrev mX10_cloudsBy : aM := (yX10_cloudsBy, cX10_cloudsBy, 5, (some .int), 10, 1)
set_option maxRecDepth 100000 in
theorem ok_X10_cloudsBy : MOk mX10_cloudsBy := ⟨List.mem_of_getElem? (i := 1885) rfl, List.mem_of_getElem? (i := 150) rfl, by decide +kernel, ⟨by decide +kernel, by decide +kernel⟩, by decide +kernel, rfl, by decide⟩
theorem hs_X10_cloudsBy : hsOf mX10_cloudsBy = [] := by decide +kernel
theorem vi_X10_cloudsBy : MVi mX10_cloudsBy := ⟨by decide, List.mem_of_getElem? (i := 1884) (by decide +kernel), List.mem_of_getElem? (i := 135) (by decide +kernel)⟩
abbrev mX10_dueBy : aM := (yX10_dueBy, cX10_dueBy, 2, (some .int), 10, 1)
set_option maxRecDepth 100000 in
theorem ok_X10_dueBy : MOk mX10_dueBy := ⟨List.mem_of_getElem? (i := 1890) rfl, List.mem_of_getElem? (i := 150) rfl, by decide +kernel, ⟨by decide +kernel, by decide +kernel⟩, by decide +kernel, rfl, by decide⟩
theorem hs_X10_dueBy : hsOf mX10_dueBy = [] := by decide +kernel
theorem vi_X10_dueBy : MVi mX10_dueBy := ⟨by decide, List.mem_of_getElem? (i := 1889) (by decide +kernel), List.mem_of_getElem? (i := 136) (by decide +kernel)⟩
abbrev mX10_span : aM := (yX10_span, cX10_span, 7, (some .int), 10, 3)
set_option maxRecDepth 100000 in
theorem ok_X10_span : MOk mX10_span := ⟨List.mem_of_getElem? (i := 1894) rfl, List.mem_of_getElem? (i := 150) rfl, by decide +kernel, ⟨by decide +kernel, by decide +kernel⟩, by decide +kernel, rfl, by decide⟩
theorem hs_X10_span : hsOf mX10_span = [] := by decide +kernel
theorem vi_X10_span : MVi mX10_span := ⟨by decide, List.mem_of_getElem? (i := 1892) (by decide +kernel), List.mem_of_getElem? (i := 1893) (by decide +kernel)⟩
abbrev mX10_led : aM := (yX10_led, cX10_led, 3, (some .int), 10, 2)
set_option maxRecDepth 100000 in
theorem ok_X10_led : MOk mX10_led := ⟨List.mem_of_getElem? (i := 1898) rfl, List.mem_of_getElem? (i := 150) rfl, by decide +kernel, ⟨by decide +kernel, by decide +kernel⟩, by decide +kernel, rfl, by decide⟩
theorem hs_X10_led : hsOf mX10_led = [] := by decide +kernel
theorem vi_X10_led : MVi mX10_led := ⟨by decide, List.mem_of_getElem? (i := 1896) (by decide +kernel), List.mem_of_getElem? (i := 1897) (by decide +kernel)⟩
abbrev mX10_whose : aM := (yX10_whose, cX10_whose, 5, (some .int), 10, 1)
set_option maxRecDepth 100000 in
theorem ok_X10_whose : MOk mX10_whose := ⟨List.mem_of_getElem? (i := 1902) rfl, List.mem_of_getElem? (i := 150) rfl, by decide +kernel, ⟨by decide +kernel, by decide +kernel⟩, by decide +kernel, rfl, by decide⟩
theorem hs_X10_whose : hsOf mX10_whose = [] := by decide +kernel
theorem vi_X10_whose : MVi mX10_whose := ⟨by decide, List.mem_of_getElem? (i := 1900) (by decide +kernel), List.mem_of_getElem? (i := 1901) (by decide +kernel)⟩
abbrev mX10_harmless : aM := (yX10_harmless, cX10_harmless, 7, (some .int), 10, 1)
set_option maxRecDepth 100000 in
theorem ok_X10_harmless : MOk mX10_harmless := ⟨List.mem_of_getElem? (i := 1906) rfl, List.mem_of_getElem? (i := 150) rfl, by decide +kernel, ⟨by decide +kernel, by decide +kernel⟩, by decide +kernel, rfl, by decide⟩
theorem hs_X10_harmless : hsOf mX10_harmless = [] := by decide +kernel
theorem vi_X10_harmless : MVi mX10_harmless := ⟨by decide, List.mem_of_getElem? (i := 1904) (by decide +kernel), List.mem_of_getElem? (i := 1905) (by decide +kernel)⟩
abbrev mX10_folded : aM := (yX10_folded, cX10_folded, 5, (some .int), 10, 1)
set_option maxRecDepth 100000 in
theorem ok_X10_folded : MOk mX10_folded := ⟨List.mem_of_getElem? (i := 1910) rfl, List.mem_of_getElem? (i := 150) rfl, by decide +kernel, ⟨by decide +kernel, by decide +kernel⟩, by decide +kernel, rfl, by decide⟩
theorem hs_X10_folded : hsOf mX10_folded = [] := by decide +kernel
theorem vi_X10_folded : MVi mX10_folded := ⟨by decide, List.mem_of_getElem? (i := 1908) (by decide +kernel), List.mem_of_getElem? (i := 1909) (by decide +kernel)⟩
abbrev mX10_awned : aM := (yX10_awned, cX10_awned, 8, (some .int), 10, 2)
set_option maxRecDepth 100000 in
theorem ok_X10_awned : MOk mX10_awned := ⟨List.mem_of_getElem? (i := 1914) rfl, List.mem_of_getElem? (i := 150) rfl, by decide +kernel, ⟨by decide +kernel, by decide +kernel⟩, by decide +kernel, rfl, by decide⟩
theorem hs_X10_awned : hsOf mX10_awned = [] := by decide +kernel
theorem vi_X10_awned : MVi mX10_awned := ⟨by decide, List.mem_of_getElem? (i := 1912) (by decide +kernel), List.mem_of_getElem? (i := 1913) (by decide +kernel)⟩
abbrev mX10_lights : aM := (yX10_lights, cX10_lights, 1, (some .int), 10, 0)
set_option maxRecDepth 100000 in
theorem ok_X10_lights : MOk mX10_lights := ⟨List.mem_of_getElem? (i := 1918) rfl, List.mem_of_getElem? (i := 150) rfl, by decide +kernel, ⟨by decide +kernel, by decide +kernel⟩, by decide +kernel, rfl, by decide⟩
theorem hs_X10_lights : hsOf mX10_lights = [] := by decide +kernel
theorem vi_X10_lights : MVi mX10_lights := ⟨by decide, List.mem_of_getElem? (i := 1916) (by decide +kernel), List.mem_of_getElem? (i := 1917) (by decide +kernel)⟩
abbrev mX10_hour : aM := (yX10_hour, cX10_hour, 4, (some .int), 10, 1)
set_option maxRecDepth 100000 in
theorem ok_X10_hour : MOk mX10_hour := ⟨List.mem_of_getElem? (i := 1922) rfl, List.mem_of_getElem? (i := 150) rfl, by decide +kernel, ⟨by decide +kernel, by decide +kernel⟩, by decide +kernel, rfl, by decide⟩
theorem hs_X10_hour : hsOf mX10_hour = [] := by decide +kernel
theorem vi_X10_hour : MVi mX10_hour := ⟨by decide, List.mem_of_getElem? (i := 1920) (by decide +kernel), List.mem_of_getElem? (i := 1921) (by decide +kernel)⟩
abbrev mX10_out : aM := (yX10_out, cX10_out, 3, (some .int), 10, 1)
set_option maxRecDepth 100000 in
theorem ok_X10_out : MOk mX10_out := ⟨List.mem_of_getElem? (i := 1926) rfl, List.mem_of_getElem? (i := 150) rfl, by decide +kernel, ⟨by decide +kernel, by decide +kernel⟩, by decide +kernel, rfl, by decide⟩
theorem hs_X10_out : hsOf mX10_out = [] := by decide +kernel
theorem vi_X10_out : MVi mX10_out := ⟨by decide, List.mem_of_getElem? (i := 1924) (by decide +kernel), List.mem_of_getElem? (i := 1925) (by decide +kernel)⟩
abbrev mX10_suns : aM := (yX10_suns, cX10_suns, 3, (some .int), 10, 0)
set_option maxRecDepth 100000 in
theorem ok_X10_suns : MOk mX10_suns := ⟨List.mem_of_getElem? (i := 1930) rfl, List.mem_of_getElem? (i := 150) rfl, by decide +kernel, ⟨by decide +kernel, by decide +kernel⟩, by decide +kernel, rfl, by decide⟩
theorem hs_X10_suns : hsOf mX10_suns = [] := by decide +kernel
theorem vi_X10_suns : MVi mX10_suns := ⟨by decide, List.mem_of_getElem? (i := 1928) (by decide +kernel), List.mem_of_getElem? (i := 1929) (by decide +kernel)⟩
abbrev mX10_image : aM := (yX10_image, cX10_image, 1, (some .int), 10, 0)
set_option maxRecDepth 100000 in
theorem ok_X10_image : MOk mX10_image := ⟨List.mem_of_getElem? (i := 1934) rfl, List.mem_of_getElem? (i := 150) rfl, by decide +kernel, ⟨by decide +kernel, by decide +kernel⟩, by decide +kernel, rfl, by decide⟩
theorem hs_X10_image : hsOf mX10_image = [] := by decide +kernel
theorem vi_X10_image : MVi mX10_image := ⟨by decide, List.mem_of_getElem? (i := 1932) (by decide +kernel), List.mem_of_getElem? (i := 1933) (by decide +kernel)⟩
abbrev mX10_movesAll : aM := (yX10_movesAll, cX10_movesAll, 5, none, 10, 2)
set_option maxRecDepth 100000 in
theorem ok_X10_movesAll : MOk mX10_movesAll := ⟨List.mem_of_getElem? (i := 1938) rfl, List.mem_of_getElem? (i := 150) rfl, by decide +kernel, ⟨by decide +kernel, by decide +kernel⟩, by decide +kernel, rfl, by decide⟩
theorem hs_X10_movesAll : hsOf mX10_movesAll = [] := by decide +kernel
theorem vi_X10_movesAll : MVi mX10_movesAll := ⟨by decide, List.mem_of_getElem? (i := 1937) (by decide +kernel), List.mem_of_getElem? (i := 137) (by decide +kernel)⟩
abbrev mX10_moves : aM := (yX10_moves, cX10_moves, 4, (some .int), 10, 3)
set_option maxRecDepth 100000 in
theorem ok_X10_moves : MOk mX10_moves := ⟨List.mem_of_getElem? (i := 1942) rfl, List.mem_of_getElem? (i := 150) rfl, by decide +kernel, ⟨by decide +kernel, by decide +kernel⟩, by decide +kernel, rfl, by decide⟩
theorem hs_X10_moves : hsOf mX10_moves = [] := by decide +kernel
theorem vi_X10_moves : MVi mX10_moves := ⟨by decide, List.mem_of_getElem? (i := 1941) (by decide +kernel), List.mem_of_getElem? (i := 138) (by decide +kernel)⟩
abbrev mX10_restore : aM := (yX10_restore, cX10_restore, 1, (some .int), 10, 0)
set_option maxRecDepth 100000 in
theorem ok_X10_restore : MOk mX10_restore := ⟨List.mem_of_getElem? (i := 1946) rfl, List.mem_of_getElem? (i := 150) rfl, by decide +kernel, ⟨by decide +kernel, by decide +kernel⟩, by decide +kernel, rfl, by decide⟩
theorem hs_X10_restore : hsOf mX10_restore = [] := by decide +kernel
theorem vi_X10_restore : MVi mX10_restore := ⟨by decide, List.mem_of_getElem? (i := 1944) (by decide +kernel), List.mem_of_getElem? (i := 1945) (by decide +kernel)⟩
abbrev mX10_status : aM := (yX10_status, cX10_status, 2, (some .int), 10, 1)
set_option maxRecDepth 100000 in
theorem ok_X10_status : MOk mX10_status := ⟨List.mem_of_getElem? (i := 1950) rfl, List.mem_of_getElem? (i := 150) rfl, by decide +kernel, ⟨by decide +kernel, by decide +kernel⟩, by decide +kernel, rfl, by decide⟩
theorem hs_X10_status : hsOf mX10_status = [] := by decide +kernel
theorem vi_X10_status : MVi mX10_status := ⟨by decide, List.mem_of_getElem? (i := 1948) (by decide +kernel), List.mem_of_getElem? (i := 1949) (by decide +kernel)⟩
abbrev mX10_count : aM := (yX10_count, cX10_count, 2, (some .int), 10, 1)
set_option maxRecDepth 100000 in
theorem ok_X10_count : MOk mX10_count := ⟨List.mem_of_getElem? (i := 1954) rfl, List.mem_of_getElem? (i := 150) rfl, by decide +kernel, ⟨by decide +kernel, by decide +kernel⟩, by decide +kernel, rfl, by decide⟩
theorem hs_X10_count : hsOf mX10_count = [] := by decide +kernel
theorem vi_X10_count : MVi mX10_count := ⟨by decide, List.mem_of_getElem? (i := 1952) (by decide +kernel), List.mem_of_getElem? (i := 1953) (by decide +kernel)⟩
set_option maxRecDepth 100000 in
theorem ml_2_11 : MLn 2 11 mX7_init := Or.inr ⟨_, List.mem_of_getElem? (i := 289) rfl⟩
set_option maxRecDepth 100000 in
theorem ml_2_20 : MLn 2 20 mX0_init := Or.inr ⟨_, List.mem_of_getElem? (i := 361) rfl⟩
theorem mp_2_28 : MLp 2 28 mX2_clear := List.mem_of_getElem? (i := 381) (by decide +kernel)
theorem ml_2_28 : MLn 2 28 mX2_clear := Or.inl mp_2_28
set_option maxRecDepth 100000 in
theorem ml_2_57 : MLn 2 57 mX0_valueAt := Or.inr ⟨_, List.mem_of_getElem? (i := 1009) rfl⟩
set_option maxRecDepth 100000 in
theorem ml_2_73 : MLn 2 73 mX8_clear := Or.inr ⟨_, List.mem_of_getElem? (i := 684) rfl⟩
set_option maxRecDepth 100000 in
theorem ml_2_79 : MLn 2 79 mX0_endOf := Or.inr ⟨_, List.mem_of_getElem? (i := 692) rfl⟩
theorem mp_2_83 : MLp 2 83 mX2_costBefore := List.mem_of_getElem? (i := 693) (by decide +kernel)
theorem ml_2_83 : MLn 2 83 mX2_costBefore := Or.inl mp_2_83
set_option maxRecDepth 100000 in
theorem ml_2_86 : MLn 2 86 mX8_add := Or.inr ⟨_, List.mem_of_getElem? (i := 697) rfl⟩
set_option maxRecDepth 100000 in
theorem ml_2_90 : MLn 2 90 mX8_heap := Or.inr ⟨_, List.mem_of_getElem? (i := 701) rfl⟩
set_option maxRecDepth 100000 in
theorem ml_3_21 : MLn 3 21 mX6_costsOf := Or.inr ⟨_, List.mem_of_getElem? (i := 1108) rfl⟩
theorem mp_3_27 : MLp 3 27 mX3_gatherNets := List.mem_of_getElem? (i := 1109) (by decide +kernel)
theorem ml_3_27 : MLn 3 27 mX3_gatherNets := Or.inl mp_3_27
theorem mp_3_31 : MLp 3 31 mX3_splitSet := List.mem_of_getElem? (i := 1114) (by decide +kernel)
theorem ml_3_31 : MLn 3 31 mX3_splitSet := Or.inl mp_3_31
set_option maxRecDepth 100000 in
theorem ml_3_51 : MLn 3 51 mX6_gain := Or.inr ⟨_, List.mem_of_getElem? (i := 1113) rfl⟩
set_option maxRecDepth 100000 in
theorem ml_4_11 : MLn 4 11 mX6_init := Or.inr ⟨_, List.mem_of_getElem? (i := 264) rfl⟩
theorem mp_4_67 : MLp 4 67 mX4_stalls := List.mem_of_getElem? (i := 606) (by decide +kernel)
theorem ml_4_67 : MLn 4 67 mX4_stalls := Or.inl mp_4_67
set_option maxRecDepth 100000 in
theorem ml_4_89 : MLn 4 89 mX6_total := Or.inr ⟨_, List.mem_of_getElem? (i := 611) rfl⟩
theorem mp_4_93 : MLp 4 93 mX4_keepCells := List.mem_of_getElem? (i := 1184) (by decide +kernel)
theorem ml_4_93 : MLn 4 93 mX4_keepCells := Or.inl mp_4_93
theorem mp_4_96 : MLp 4 96 mX4_startSearch := List.mem_of_getElem? (i := 1189) (by decide +kernel)
theorem ml_4_96 : MLn 4 96 mX4_startSearch := Or.inl mp_4_96
set_option maxRecDepth 100000 in
theorem ml_4_105 : MLn 4 105 mX7_whoIsAt := Or.inr ⟨_, List.mem_of_getElem? (i := 1193) rfl⟩
theorem mp_4_109 : MLp 4 109 mX4_isFreeFor := List.mem_of_getElem? (i := 1194) (by decide +kernel)
theorem ml_4_109 : MLn 4 109 mX4_isFreeFor := Or.inl mp_4_109
set_option maxRecDepth 100000 in
theorem ml_4_113 : MLn 4 113 mX7_put := Or.inr ⟨_, List.mem_of_getElem? (i := 1197) rfl⟩
theorem mp_4_117 : MLp 4 117 mX4_placeOther := List.mem_of_getElem? (i := 1198) (by decide +kernel)
theorem ml_4_117 : MLn 4 117 mX4_placeOther := Or.inl mp_4_117
theorem mp_4_121 : MLp 4 121 mX4_putCellsBack := List.mem_of_getElem? (i := 1210) (by decide +kernel)
theorem ml_4_121 : MLn 4 121 mX4_putCellsBack := Or.inl mp_4_121
theorem mp_4_124 : MLp 4 124 mX4_weighWay := List.mem_of_getElem? (i := 1202) (by decide +kernel)
theorem ml_4_124 : MLn 4 124 mX4_weighWay := Or.inl mp_4_124
theorem mp_4_128 : MLp 4 128 mX4_isFreeBut := List.mem_of_getElem? (i := 1206) (by decide +kernel)
theorem ml_4_128 : MLn 4 128 mX4_isFreeBut := Or.inl mp_4_128
set_option maxRecDepth 100000 in
theorem ml_4_134 : MLn 4 134 mX7_swapCells := Or.inr ⟨_, List.mem_of_getElem? (i := 612) rfl⟩
theorem mp_4_137 : MLp 4 137 mX4_bestExchange := List.mem_of_getElem? (i := 1392) (by decide +kernel)
theorem ml_4_137 : MLn 4 137 mX4_bestExchange := Or.inl mp_4_137
set_option maxRecDepth 100000 in
theorem ml_4_142 : MLn 4 142 mX7_add := Or.inr ⟨_, List.mem_of_getElem? (i := 1225) rfl⟩
set_option maxRecDepth 100000 in
theorem ml_4_151 : MLn 4 151 mX6_gain := Or.inr ⟨_, List.mem_of_getElem? (i := 640) rfl⟩
theorem mp_4_154 : MLp 4 154 mX4_heights := List.mem_of_getElem? (i := 628) (by decide +kernel)
theorem ml_4_154 : MLn 4 154 mX4_heights := Or.inl mp_4_154
theorem mp_4_158 : MLp 4 158 mX4_playRound := List.mem_of_getElem? (i := 632) (by decide +kernel)
theorem ml_4_158 : MLn 4 158 mX4_playRound := Or.inl mp_4_158
theorem mp_4_162 : MLp 4 162 mX4_isSeenBefore := List.mem_of_getElem? (i := 644) (by decide +kernel)
theorem ml_4_162 : MLn 4 162 mX4_isSeenBefore := Or.inl mp_4_162
theorem mp_4_166 : MLp 4 166 mX4_wishOf := List.mem_of_getElem? (i := 636) (by decide +kernel)
theorem ml_4_166 : MLn 4 166 mX4_wishOf := Or.inl mp_4_166
set_option maxRecDepth 100000 in
theorem ml_4_170 : MLn 4 170 mX6_chillOf := Or.inr ⟨_, List.mem_of_getElem? (i := 1252) rfl⟩
theorem mp_4_173 : MLp 4 173 mX4_explainBy := List.mem_of_getElem? (i := 1253) (by decide +kernel)
theorem ml_4_173 : MLn 4 173 mX4_explainBy := Or.inl mp_4_173
theorem mp_4_176 : MLp 4 176 mX4_isAsTold := List.mem_of_getElem? (i := 1257) (by decide +kernel)
theorem ml_4_176 : MLn 4 176 mX4_isAsTold := Or.inl mp_4_176
set_option maxRecDepth 100000 in
theorem ml_4_182 : MLn 4 182 mX6_isInLine := Or.inr ⟨_, List.mem_of_getElem? (i := 1261) rfl⟩
set_option maxRecDepth 100000 in
theorem ml_4_186 : MLn 4 186 mX7_grow := Or.inr ⟨_, List.mem_of_getElem? (i := 1289) rfl⟩
set_option maxRecDepth 100000 in
theorem ml_4_189 : MLn 4 189 mX6_harms := Or.inr ⟨_, List.mem_of_getElem? (i := 1348) rfl⟩
set_option maxRecDepth 100000 in
theorem ml_5_46 : MLn 5 46 mX2_clear := Or.inr ⟨_, List.mem_of_getElem? (i := 817) rfl⟩
theorem mp_5_51 : MLp 5 51 mX5_skipBlanks := List.mem_of_getElem? (i := 818) (by decide +kernel)
theorem ml_5_51 : MLn 5 51 mX5_skipBlanks := Or.inl mp_5_51
theorem mp_5_54 : MLp 5 54 mX5_readClause := List.mem_of_getElem? (i := 826) (by decide +kernel)
theorem ml_5_54 : MLn 5 54 mX5_readClause := Or.inl mp_5_54
theorem mp_5_58 : MLp 5 58 mX5_here := List.mem_of_getElem? (i := 822) (by decide +kernel)
theorem ml_5_58 : MLn 5 58 mX5_here := Or.inl mp_5_58
theorem mp_5_62 : MLp 5 62 mX5_readWord := List.mem_of_getElem? (i := 830) (by decide +kernel)
theorem ml_5_62 : MLn 5 62 mX5_readWord := Or.inl mp_5_62
theorem mp_5_65 : MLp 5 65 mX5_blame := List.mem_of_getElem? (i := 899) (by decide +kernel)
theorem ml_5_65 : MLn 5 65 mX5_blame := Or.inl mp_5_65
theorem mp_5_69 : MLp 5 69 mX5_isFull := List.mem_of_getElem? (i := 903) (by decide +kernel)
theorem ml_5_69 : MLn 5 69 mX5_isFull := Or.inl mp_5_69
theorem mp_5_73 : MLp 5 73 mX5_readNumbers := List.mem_of_getElem? (i := 907) (by decide +kernel)
theorem ml_5_73 : MLn 5 73 mX5_readNumbers := Or.inl mp_5_73
theorem mp_5_77 : MLp 5 77 mX5_readEnd := List.mem_of_getElem? (i := 944) (by decide +kernel)
theorem ml_5_77 : MLn 5 77 mX5_readEnd := Or.inl mp_5_77
theorem mp_5_80 : MLp 5 80 mX5_nameOf := List.mem_of_getElem? (i := 834) (by decide +kernel)
theorem ml_5_80 : MLn 5 80 mX5_nameOf := Or.inl mp_5_80
theorem mp_5_84 : MLp 5 84 mX5_isWord := List.mem_of_getElem? (i := 847) (by decide +kernel)
theorem ml_5_84 : MLn 5 84 mX5_isWord := Or.inl mp_5_84
theorem mp_5_126 : MLp 5 126 mX5_readNumber := List.mem_of_getElem? (i := 911) (by decide +kernel)
theorem ml_5_126 : MLn 5 126 mX5_readNumber := Or.inl mp_5_126
theorem mp_5_135 : MLp 5 135 mX5_readStall := List.mem_of_getElem? (i := 916) (by decide +kernel)
theorem ml_5_135 : MLn 5 135 mX5_readStall := Or.inl mp_5_135
theorem mp_5_138 : MLp 5 138 mX5_readSun := List.mem_of_getElem? (i := 928) (by decide +kernel)
theorem ml_5_138 : MLn 5 138 mX5_readSun := Or.inl mp_5_138
theorem mp_5_141 : MLp 5 141 mX5_readRate := List.mem_of_getElem? (i := 936) (by decide +kernel)
theorem ml_5_141 : MLn 5 141 mX5_readRate := Or.inl mp_5_141
theorem mp_5_150 : MLp 5 150 mX5_readOfStall := List.mem_of_getElem? (i := 940) (by decide +kernel)
theorem ml_5_150 : MLn 5 150 mX5_readOfStall := Or.inl mp_5_150
set_option maxRecDepth 100000 in
theorem ml_5_154 : MLn 5 154 mX7_whoIsAt := Or.inr ⟨_, List.mem_of_getElem? (i := 920) rfl⟩
set_option maxRecDepth 100000 in
theorem ml_5_157 : MLn 5 157 mX7_add := Or.inr ⟨_, List.mem_of_getElem? (i := 924) rfl⟩
set_option maxRecDepth 100000 in
theorem ml_5_164 : MLn 5 164 mX0_tell := Or.inr ⟨_, List.mem_of_getElem? (i := 932) rfl⟩
set_option maxRecDepth 100000 in
theorem ml_6_11 : MLn 6 11 mX8_init := Or.inr ⟨_, List.mem_of_getElem? (i := 270) rfl⟩
set_option maxRecDepth 100000 in
theorem ml_6_33 : MLn 6 33 mX2_init := Or.inr ⟨_, List.mem_of_getElem? (i := 283) rfl⟩
set_option maxRecDepth 100000 in
theorem ml_6_38 : MLn 6 38 mX2_weighCosts := Or.inr ⟨_, List.mem_of_getElem? (i := 680) rfl⟩
set_option maxRecDepth 100000 in
theorem ml_6_42 : MLn 6 42 mX2_weighMinutes := Or.inr ⟨_, List.mem_of_getElem? (i := 952) rfl⟩
set_option maxRecDepth 100000 in
theorem ml_6_50 : MLn 6 50 mX2_sunAt := Or.inr ⟨_, List.mem_of_getElem? (i := 1005) rfl⟩
theorem mp_6_63 : MLp 6 63 mX6_cellsFor := List.mem_of_getElem? (i := 583) (by decide +kernel)
theorem ml_6_63 : MLn 6 63 mX6_cellsFor := Or.inl mp_6_63
theorem mp_6_73 : MLp 6 73 mX6_isInLine := List.mem_of_getElem? (i := 573) (by decide +kernel)
theorem ml_6_73 : MLn 6 73 mX6_isInLine := Or.inl mp_6_73
theorem mp_6_85 : MLp 6 85 mX6_sign := List.mem_of_getElem? (i := 587) (by decide +kernel)
theorem ml_6_85 : MLn 6 85 mX6_sign := Or.inl mp_6_85
theorem mp_6_88 : MLp 6 88 mX6_isKeptOff := List.mem_of_getElem? (i := 590) (by decide +kernel)
theorem ml_6_88 : MLn 6 88 mX6_isKeptOff := Or.inl mp_6_88
theorem mp_6_101 : MLp 6 101 mX6_need := List.mem_of_getElem? (i := 569) (by decide +kernel)
theorem ml_6_101 : MLn 6 101 mX6_need := Or.inl mp_6_101
theorem mp_6_104 : MLp 6 104 mX6_falls := List.mem_of_getElem? (i := 1040) (by decide +kernel)
theorem ml_6_104 : MLn 6 104 mX6_falls := Or.inl mp_6_104
set_option maxRecDepth 100000 in
theorem ml_6_111 : MLn 6 111 mX8_priceAt := Or.inr ⟨_, List.mem_of_getElem? (i := 594) rfl⟩
set_option maxRecDepth 100000 in
theorem ml_6_114 : MLn 6 114 mX8_lanternsAt := Or.inr ⟨_, List.mem_of_getElem? (i := 660) rfl⟩
set_option maxRecDepth 100000 in
theorem ml_6_120 : MLn 6 120 mX8_at := Or.inr ⟨_, List.mem_of_getElem? (i := 1073) rfl⟩
theorem mp_6_123 : MLp 6 123 mX6_findLeast := List.mem_of_getElem? (i := 1064) (by decide +kernel)
theorem ml_6_123 : MLn 6 123 mX6_findLeast := Or.inl mp_6_123
theorem mp_6_127 : MLp 6 127 mX6_minutesFrom := List.mem_of_getElem? (i := 1069) (by decide +kernel)
theorem ml_6_127 : MLn 6 127 mX6_minutesFrom := Or.inl mp_6_127
set_option maxRecDepth 100000 in
theorem ml_6_143 : MLn 6 143 mX0_endOf := Or.inr ⟨_, List.mem_of_getElem? (i := 672) rfl⟩
theorem mp_6_149 : MLp 6 149 mX6_isAnybodyUnder := List.mem_of_getElem? (i := 1130) (by decide +kernel)
theorem ml_6_149 : MLn 6 149 mX6_isAnybodyUnder := Or.inl mp_6_149
theorem mp_6_153 : MLp 6 153 mX6_throwers := List.mem_of_getElem? (i := 1134) (by decide +kernel)
theorem ml_6_153 : MLn 6 153 mX6_throwers := Or.inl mp_6_153
theorem mp_6_156 : MLp 6 156 mX6_costsOf := List.mem_of_getElem? (i := 676) (by decide +kernel)
theorem ml_6_156 : MLn 6 156 mX6_costsOf := Or.inl mp_6_156
theorem mp_6_161 : MLp 6 161 mX6_total := List.mem_of_getElem? (i := 706) (by decide +kernel)
theorem ml_6_161 : MLn 6 161 mX6_total := Or.inl mp_6_161
theorem mp_7_43 : MLp 7 43 mX7_put := List.mem_of_getElem? (i := 616) (by decide +kernel)
theorem ml_7_43 : MLn 7 43 mX7_put := Or.inl mp_7_43
set_option maxRecDepth 100000 in
theorem ml_9_11 : MLn 9 11 mX5_init := Or.inr ⟨_, List.mem_of_getElem? (i := 173) rfl⟩
set_option maxRecDepth 100000 in
theorem ml_9_18 : MLn 9 18 mX1_init := Or.inr ⟨_, List.mem_of_getElem? (i := 210) rfl⟩
set_option maxRecDepth 100000 in
theorem ml_9_25 : MLn 9 25 mX3_init := Or.inr ⟨_, List.mem_of_getElem? (i := 242) rfl⟩
set_option maxRecDepth 100000 in
theorem ml_9_32 : MLn 9 32 mX4_init := Or.inr ⟨_, List.mem_of_getElem? (i := 258) rfl⟩
set_option maxRecDepth 100000 in
theorem ml_9_51 : MLn 9 51 mX2_init := Or.inr ⟨_, List.mem_of_getElem? (i := 519) rfl⟩
set_option maxRecDepth 100000 in
theorem ml_9_65 : MLn 9 65 mX5_append := Or.inr ⟨_, List.mem_of_getElem? (i := 552) rfl⟩
theorem mp_9_69 : MLp 9 69 mX9_require := List.mem_of_getElem? (i := 742) (by decide +kernel)
theorem ml_9_69 : MLn 9 69 mX9_require := Or.inl mp_9_69
set_option maxRecDepth 100000 in
theorem ml_9_73 : MLn 9 73 mX5_read := Or.inr ⟨_, List.mem_of_getElem? (i := 812) rfl⟩
set_option maxRecDepth 100000 in
theorem ml_9_77 : MLn 9 77 mX6_look := Or.inr ⟨_, List.mem_of_getElem? (i := 948) rfl⟩
theorem mp_9_118 : MLp 9 118 mX9_requireStall := List.mem_of_getElem? (i := 971) (by decide +kernel)
theorem ml_9_118 : MLn 9 118 mX9_requireStall := Or.inl mp_9_118
theorem mp_9_143 : MLp 9 143 mX9_isMinute := List.mem_of_getElem? (i := 998) (by decide +kernel)
theorem ml_9_143 : MLn 9 143 mX9_isMinute := Or.inl mp_9_143
set_option maxRecDepth 100000 in
theorem ml_9_147 : MLn 9 147 mX6_reach := Or.inr ⟨_, List.mem_of_getElem? (i := 1001) rfl⟩
theorem mp_9_151 : MLp 9 151 mX9_requireTwo := List.mem_of_getElem? (i := 1020) (by decide +kernel)
theorem ml_9_151 : MLn 9 151 mX9_requireTwo := Or.inl mp_9_151
set_option maxRecDepth 100000 in
theorem ml_9_155 : MLn 9 155 mX2_sunAt := Or.inr ⟨_, List.mem_of_getElem? (i := 1024) rfl⟩
set_option maxRecDepth 100000 in
theorem ml_9_159 : MLn 9 159 mX6_falls := Or.inr ⟨_, List.mem_of_getElem? (i := 1025) rfl⟩
set_option maxRecDepth 100000 in
theorem ml_9_163 : MLn 9 163 mX6_throwers := Or.inr ⟨_, List.mem_of_getElem? (i := 1036) rfl⟩
set_option maxRecDepth 100000 in
theorem ml_9_170 : MLn 9 170 mX6_need := Or.inr ⟨_, List.mem_of_getElem? (i := 1048) rfl⟩
set_option maxRecDepth 100000 in
theorem ml_9_173 : MLn 9 173 mX8_at := Or.inr ⟨_, List.mem_of_getElem? (i := 1049) rfl⟩
set_option maxRecDepth 100000 in
theorem ml_9_178 : MLn 9 178 mX6_chillOf := Or.inr ⟨_, List.mem_of_getElem? (i := 1060) rfl⟩
theorem mp_9_181 : MLp 9 181 mX9_isEnd := List.mem_of_getElem? (i := 1081) (by decide +kernel)
theorem ml_9_181 : MLn 9 181 mX9_isEnd := Or.inl mp_9_181
set_option maxRecDepth 100000 in
theorem ml_9_184 : MLn 9 184 mX6_costsOf := Or.inr ⟨_, List.mem_of_getElem? (i := 1084) rfl⟩
set_option maxRecDepth 100000 in
theorem ml_9_188 : MLn 9 188 mX6_owed := Or.inr ⟨_, List.mem_of_getElem? (i := 1085) rfl⟩
set_option maxRecDepth 100000 in
theorem ml_9_192 : MLn 9 192 mX6_gain := Or.inr ⟨_, List.mem_of_getElem? (i := 1096) rfl⟩
set_option maxRecDepth 100000 in
theorem ml_9_196 : MLn 9 196 mX3_fewest := Or.inr ⟨_, List.mem_of_getElem? (i := 1104) rfl⟩
set_option maxRecDepth 100000 in
theorem ml_9_204 : MLn 9 204 mX6_total := Or.inr ⟨_, List.mem_of_getElem? (i := 565) rfl⟩
set_option maxRecDepth 100000 in
theorem ml_9_207 : MLn 9 207 mX6_firstShade := Or.inr ⟨_, List.mem_of_getElem? (i := 1126) rfl⟩
theorem mp_9_210 : MLp 9 210 mX9_isBit := List.mem_of_getElem? (i := 1142) (by decide +kernel)
theorem ml_9_210 : MLn 9 210 mX9_isBit := Or.inl mp_9_210
set_option maxRecDepth 100000 in
theorem ml_9_213 : MLn 9 213 mX7_whoIsAt := Or.inr ⟨_, List.mem_of_getElem? (i := 1152) rfl⟩
set_option maxRecDepth 100000 in
theorem ml_9_216 : MLn 9 216 mX7_put := Or.inr ⟨_, List.mem_of_getElem? (i := 1153) rfl⟩
theorem mp_9_220 : MLp 9 220 mX9_isHeight := List.mem_of_getElem? (i := 1161) (by decide +kernel)
theorem ml_9_220 : MLn 9 220 mX9_isHeight := Or.inl mp_9_220
theorem mp_9_223 : MLp 9 223 mJ6_bitCount_0f7a4 := List.mem_of_getElem? (i := 1171) (by decide +kernel)
theorem ml_9_223 : MLn 9 223 mJ6_bitCount_0f7a4 := Or.inl mp_9_223
theorem mp_9_228 : MLp 9 228 mX9_lowestBit := List.mem_of_getElem? (i := 1177) (by decide +kernel)
theorem ml_9_228 : MLn 9 228 mX9_lowestBit := Or.inl mp_9_228
set_option maxRecDepth 100000 in
theorem ml_9_231 : MLn 9 231 mX4_placeAnew := Or.inr ⟨_, List.mem_of_getElem? (i := 1180) rfl⟩
set_option maxRecDepth 100000 in
theorem ml_9_240 : MLn 9 240 mX4_bestExchange := Or.inr ⟨_, List.mem_of_getElem? (i := 602) rfl⟩
set_option maxRecDepth 100000 in
theorem ml_9_244 : MLn 9 244 mX4_placePole := Or.inr ⟨_, List.mem_of_getElem? (i := 1221) rfl⟩
set_option maxRecDepth 100000 in
theorem ml_9_247 : MLn 9 247 mX4_wishOf := Or.inr ⟨_, List.mem_of_getElem? (i := 1233) rfl⟩
set_option maxRecDepth 100000 in
theorem ml_9_250 : MLn 9 250 mX4_playOut := Or.inr ⟨_, List.mem_of_getElem? (i := 624) rfl⟩
set_option maxRecDepth 100000 in
theorem ml_9_257 : MLn 9 257 mX4_explain := Or.inr ⟨_, List.mem_of_getElem? (i := 1248) rfl⟩
set_option maxRecDepth 100000 in
theorem ml_9_266 : MLn 9 266 mX7_grow := Or.inr ⟨_, List.mem_of_getElem? (i := 1269) rfl⟩
theorem mp_9_269 : MLp 9 269 mX9_isDue := List.mem_of_getElem? (i := 1281) (by decide +kernel)
theorem ml_9_269 : MLn 9 269 mX9_isDue := Or.inl mp_9_269
set_option maxRecDepth 100000 in
theorem ml_9_272 : MLn 9 272 mX4_daysTillAbove := Or.inr ⟨_, List.mem_of_getElem? (i := 1285) rfl⟩
set_option maxRecDepth 100000 in
theorem ml_9_275 : MLn 9 275 mX2_cloudsDrawn := Or.inr ⟨_, List.mem_of_getElem? (i := 1297) rfl⟩
set_option maxRecDepth 100000 in
theorem ml_9_278 : MLn 9 278 mX6_reckonHours := Or.inr ⟨_, List.mem_of_getElem? (i := 1302) rfl⟩
set_option maxRecDepth 100000 in
theorem ml_9_281 : MLn 9 281 mX6_dueWithout := Or.inr ⟨_, List.mem_of_getElem? (i := 1306) rfl⟩
set_option maxRecDepth 100000 in
theorem ml_9_292 : MLn 9 292 mX6_ledTo := Or.inr ⟨_, List.mem_of_getElem? (i := 1326) rfl⟩
set_option maxRecDepth 100000 in
theorem ml_9_295 : MLn 9 295 mX4_greatestHarmless := Or.inr ⟨_, List.mem_of_getElem? (i := 1344) rfl⟩
set_option maxRecDepth 100000 in
theorem ml_9_298 : MLn 9 298 mX6_latestFold := Or.inr ⟨_, List.mem_of_getElem? (i := 1359) rfl⟩
set_option maxRecDepth 100000 in
theorem ml_9_301 : MLn 9 301 mX4_tryAwnings := Or.inr ⟨_, List.mem_of_getElem? (i := 1370) rfl⟩
set_option maxRecDepth 100000 in
theorem ml_9_310 : MLn 9 310 mX6_dueByLanterns := Or.inr ⟨_, List.mem_of_getElem? (i := 656) rfl⟩
set_option maxRecDepth 100000 in
theorem ml_9_316 : MLn 9 316 mX4_exchangeOn := Or.inr ⟨_, List.mem_of_getElem? (i := 1388) rfl⟩
set_option maxRecDepth 100000 in
theorem ml_9_322 : MLn 9 322 mX6_dearestSun := Or.inr ⟨_, List.mem_of_getElem? (i := 668) rfl⟩
set_option maxRecDepth 100000 in
theorem ml_9_325 : MLn 9 325 mX1_take := Or.inr ⟨_, List.mem_of_getElem? (i := 711) rfl⟩
set_option maxRecDepth 100000 in
theorem ml_9_329 : MLn 9 329 mX1_giveBack := Or.inr ⟨_, List.mem_of_getElem? (i := 722) rfl⟩
theorem mp_10_100 : MLp 10 100 mX10_tellsNothing := List.mem_of_getElem? (i := 1408) (by decide +kernel)
theorem ml_10_100 : MLn 10 100 mX10_tellsNothing := Or.inl mp_10_100
theorem mp_10_103 : MLp 10 103 mX10_stands := List.mem_of_getElem? (i := 1412) (by decide +kernel)
theorem ml_10_103 : MLn 10 103 mX10_stands := Or.inl mp_10_103
theorem mp_10_118 : MLp 10 118 mX10_byteAt := List.mem_of_getElem? (i := 1606) (by decide +kernel)
theorem ml_10_118 : MLn 10 118 mX10_byteAt := Or.inl mp_10_118
theorem mp_10_128 : MLp 10 128 mX10_blanks := List.mem_of_getElem? (i := 1602) (by decide +kernel)
theorem ml_10_128 : MLn 10 128 mX10_blanks := Or.inl mp_10_128
theorem mp_10_131 : MLp 10 131 mX10_isDigit := List.mem_of_getElem? (i := 1644) (by decide +kernel)
theorem ml_10_131 : MLn 10 131 mX10_isDigit := Or.inl mp_10_131
theorem mp_10_135 : MLp 10 135 mX10_wrong := List.mem_of_getElem? (i := 1632) (by decide +kernel)
theorem ml_10_135 : MLn 10 135 mX10_wrong := Or.inl mp_10_135
theorem mp_10_140 : MLp 10 140 mX10_in := List.mem_of_getElem? (i := 1595) (by decide +kernel)
theorem ml_10_140 : MLn 10 140 mX10_in := Or.inl mp_10_140
theorem mp_10_150 : MLp 10 150 mX10_wordHere := List.mem_of_getElem? (i := 1622) (by decide +kernel)
theorem ml_10_150 : MLn 10 150 mX10_wordHere := Or.inl mp_10_150
theorem mp_10_154 : MLp 10 154 mX10_seven := List.mem_of_getElem? (i := 1629) (by decide +kernel)
theorem ml_10_154 : MLn 10 154 mX10_seven := Or.inl mp_10_154
theorem mp_10_158 : MLp 10 158 mX10_isWord := List.mem_of_getElem? (i := 1618) (by decide +kernel)
theorem ml_10_158 : MLn 10 158 mX10_isWord := Or.inl mp_10_158
theorem mp_10_168 : MLp 10 168 mX10_kindHere := List.mem_of_getElem? (i := 1614) (by decide +kernel)
theorem ml_10_168 : MLn 10 168 mX10_kindHere := Or.inl mp_10_168
theorem mp_10_175 : MLp 10 175 mX10_isFull := List.mem_of_getElem? (i := 1636) (by decide +kernel)
theorem ml_10_175 : MLn 10 175 mX10_isFull := Or.inl mp_10_175
theorem mp_10_178 : MLp 10 178 mX10_number := List.mem_of_getElem? (i := 1640) (by decide +kernel)
theorem ml_10_178 : MLn 10 178 mX10_number := Or.inl mp_10_178
theorem mp_10_182 : MLp 10 182 mX10_stallHere := List.mem_of_getElem? (i := 1648) (by decide +kernel)
theorem ml_10_182 : MLn 10 182 mX10_stallHere := Or.inl mp_10_182
theorem mp_10_186 : MLp 10 186 mX10_sunHere := List.mem_of_getElem? (i := 1652) (by decide +kernel)
theorem ml_10_186 : MLn 10 186 mX10_sunHere := Or.inl mp_10_186
theorem mp_10_189 : MLp 10 189 mX10_rateHere := List.mem_of_getElem? (i := 1656) (by decide +kernel)
theorem ml_10_189 : MLn 10 189 mX10_rateHere := Or.inl mp_10_189
theorem mp_10_192 : MLp 10 192 mX10_ofStall := List.mem_of_getElem? (i := 1660) (by decide +kernel)
theorem ml_10_192 : MLn 10 192 mX10_ofStall := Or.inl mp_10_192
theorem mp_10_196 : MLp 10 196 mX10_bad := List.mem_of_getElem? (i := 1598) (by decide +kernel)
theorem ml_10_196 : MLn 10 196 mX10_bad := Or.inl mp_10_196
theorem mp_10_200 : MLp 10 200 mX10_clause := List.mem_of_getElem? (i := 1610) (by decide +kernel)
theorem ml_10_200 : MLn 10 200 mX10_clause := Or.inl mp_10_200
theorem mp_10_221 : MLp 10 221 mX10_laysPieces := List.mem_of_getElem? (i := 1416) (by decide +kernel)
theorem ml_10_221 : MLn 10 221 mX10_laysPieces := Or.inl mp_10_221
theorem mp_10_227 : MLp 10 227 mX10_change := List.mem_of_getElem? (i := 1420) (by decide +kernel)
theorem ml_10_227 : MLn 10 227 mX10_change := Or.inl mp_10_227
theorem mp_10_230 : MLp 10 230 mX10_sunAt := List.mem_of_getElem? (i := 1424) (by decide +kernel)
theorem ml_10_230 : MLn 10 230 mX10_sunAt := Or.inl mp_10_230
theorem mp_10_233 : MLp 10 233 mX10_rateAt := List.mem_of_getElem? (i := 1428) (by decide +kernel)
theorem ml_10_233 : MLn 10 233 mX10_rateAt := Or.inl mp_10_233
theorem mp_10_236 : MLp 10 236 mX10_isStall := List.mem_of_getElem? (i := 1676) (by decide +kernel)
theorem ml_10_236 : MLn 10 236 mX10_isStall := Or.inl mp_10_236
theorem mp_10_239 : MLp 10 239 mX10_isThere := List.mem_of_getElem? (i := 1707) (by decide +kernel)
theorem ml_10_239 : MLn 10 239 mX10_isThere := Or.inl mp_10_239
theorem mp_10_242 : MLp 10 242 mX10_lengthBy := List.mem_of_getElem? (i := 1687) (by decide +kernel)
theorem ml_10_242 : MLn 10 242 mX10_lengthBy := Or.inl mp_10_242
theorem mp_10_245 : MLp 10 245 mX10_stallOn := List.mem_of_getElem? (i := 1711) (by decide +kernel)
theorem ml_10_245 : MLn 10 245 mX10_stallOn := Or.inl mp_10_245
theorem mp_10_248 : MLp 10 248 mX10_isCovered := List.mem_of_getElem? (i := 1715) (by decide +kernel)
theorem ml_10_248 : MLn 10 248 mX10_isCovered := Or.inl mp_10_248
theorem mp_10_258 : MLp 10 258 mX10_throwsBy := List.mem_of_getElem? (i := 1703) (by decide +kernel)
theorem ml_10_258 : MLn 10 258 mX10_throwsBy := Or.inl mp_10_258
theorem mp_10_261 : MLp 10 261 mX10_counts := List.mem_of_getElem? (i := 1735) (by decide +kernel)
theorem ml_10_261 : MLn 10 261 mX10_counts := Or.inl mp_10_261
theorem mp_10_265 : MLp 10 265 mX10_ones := List.mem_of_getElem? (i := 1739) (by decide +kernel)
theorem ml_10_265 : MLn 10 265 mX10_ones := Or.inl mp_10_265
theorem mp_10_268 : MLp 10 268 mX10_goes := List.mem_of_getElem? (i := 1731) (by decide +kernel)
theorem ml_10_268 : MLn 10 268 mX10_goes := Or.inl mp_10_268
theorem mp_10_272 : MLp 10 272 mX10_isMinute := List.mem_of_getElem? (i := 1684) (by decide +kernel)
theorem ml_10_272 : MLn 10 272 mX10_isMinute := Or.inl mp_10_272
theorem mp_10_275 : MLp 10 275 mX10_badTwo := List.mem_of_getElem? (i := 1695) (by decide +kernel)
theorem ml_10_275 : MLn 10 275 mX10_badTwo := Or.inl mp_10_275
theorem mp_10_278 : MLp 10 278 mX10_onAt := List.mem_of_getElem? (i := 1699) (by decide +kernel)
theorem ml_10_278 : MLn 10 278 mX10_onAt := Or.inl mp_10_278
theorem mp_10_281 : MLp 10 281 mX10_dueNow := List.mem_of_getElem? (i := 1727) (by decide +kernel)
theorem ml_10_281 : MLn 10 281 mX10_dueNow := Or.inl mp_10_281
theorem mp_10_284 : MLp 10 284 mX10_isTill := List.mem_of_getElem? (i := 1750) (by decide +kernel)
theorem ml_10_284 : MLn 10 284 mX10_isTill := Or.inl mp_10_284
theorem mp_10_287 : MLp 10 287 mX10_netOf := List.mem_of_getElem? (i := 1757) (by decide +kernel)
theorem ml_10_287 : MLn 10 287 mX10_netOf := Or.inl mp_10_287
theorem mp_10_296 : MLp 10 296 mX10_puts := List.mem_of_getElem? (i := 1793) (by decide +kernel)
theorem ml_10_296 : MLn 10 296 mX10_puts := Or.inl mp_10_296
theorem mp_10_299 : MLp 10 299 mX10_saves := List.mem_of_getElem? (i := 1789) (by decide +kernel)
theorem ml_10_299 : MLn 10 299 mX10_saves := Or.inl mp_10_299
theorem mp_10_303 : MLp 10 303 mX10_setsBack := List.mem_of_getElem? (i := 1797) (by decide +kernel)
theorem ml_10_303 : MLn 10 303 mX10_setsBack := Or.inl mp_10_303
theorem mp_10_306 : MLp 10 306 mX10_changes := List.mem_of_getElem? (i := 1809) (by decide +kernel)
theorem ml_10_306 : MLn 10 306 mX10_changes := Or.inl mp_10_306
theorem mp_10_309 : MLp 10 309 mX10_exchangeNow := List.mem_of_getElem? (i := 1805) (by decide +kernel)
theorem ml_10_309 : MLn 10 309 mX10_exchangeNow := Or.inl mp_10_309
theorem mp_10_312 : MLp 10 312 mX10_adds := List.mem_of_getElem? (i := 1821) (by decide +kernel)
theorem ml_10_312 : MLn 10 312 mX10_adds := Or.inl mp_10_312
theorem mp_10_315 : MLp 10 315 mX10_gainOf := List.mem_of_getElem? (i := 1833) (by decide +kernel)
theorem ml_10_315 : MLn 10 315 mX10_gainOf := Or.inl mp_10_315
theorem mp_10_318 : MLp 10 318 mX10_wishOf := List.mem_of_getElem? (i := 1829) (by decide +kernel)
theorem ml_10_318 : MLn 10 318 mX10_wishOf := Or.inl mp_10_318
theorem mp_10_321 : MLp 10 321 mX10_notes := List.mem_of_getElem? (i := 1841) (by decide +kernel)
theorem ml_10_321 : MLn 10 321 mX10_notes := Or.inl mp_10_321
theorem mp_10_324 : MLp 10 324 mX10_isAs := List.mem_of_getElem? (i := 1845) (by decide +kernel)
theorem ml_10_324 : MLn 10 324 mX10_isAs := Or.inl mp_10_324
theorem mp_10_327 : MLp 10 327 mX10_explains := List.mem_of_getElem? (i := 1861) (by decide +kernel)
theorem ml_10_327 : MLn 10 327 mX10_explains := Or.inl mp_10_327
theorem mp_10_331 : MLp 10 331 mX10_grows := List.mem_of_getElem? (i := 1869) (by decide +kernel)
theorem ml_10_331 : MLn 10 331 mX10_grows := Or.inl mp_10_331
theorem mp_10_336 : MLp 10 336 mX10_cloudsBy := List.mem_of_getElem? (i := 1882) (by decide +kernel)
theorem ml_10_336 : MLn 10 336 mX10_cloudsBy := Or.inl mp_10_336
theorem mp_10_339 : MLp 10 339 mX10_dueBy := List.mem_of_getElem? (i := 1887) (by decide +kernel)
theorem ml_10_339 : MLn 10 339 mX10_dueBy := Or.inl mp_10_339
theorem mp_10_345 : MLp 10 345 mX10_moves := List.mem_of_getElem? (i := 1939) (by decide +kernel)
theorem ml_10_345 : MLn 10 345 mX10_moves := Or.inl mp_10_345
theorem mp_10_349 : MLp 10 349 mX10_movesAll := List.mem_of_getElem? (i := 1935) (by decide +kernel)
theorem ml_10_349 : MLn 10 349 mX10_movesAll := Or.inl mp_10_349
theorem mp_11_7 : MLp 11 7 mX9_market := List.mem_of_getElem? (i := 738) (by decide +kernel)
theorem ml_11_7 : MLn 11 7 mX9_market := Or.inl mp_11_7
theorem mp_11_15 : MLp 11 15 mX9_told := List.mem_of_getElem? (i := 959) (by decide +kernel)
theorem ml_11_15 : MLn 11 15 mX9_told := Or.inl mp_11_15
theorem mp_11_18 : MLp 11 18 mX9_stall := List.mem_of_getElem? (i := 967) (by decide +kernel)
theorem ml_11_18 : MLn 11 18 mX9_stall := Or.inl mp_11_18
theorem mp_11_24 : MLp 11 24 mX9_length := List.mem_of_getElem? (i := 994) (by decide +kernel)
theorem ml_11_24 : MLn 11 24 mX9_length := Or.inl mp_11_24
theorem mp_11_27 : MLp 11 27 mX9_shades := List.mem_of_getElem? (i := 1016) (by decide +kernel)
theorem ml_11_27 : MLn 11 27 mX9_shades := Or.inl mp_11_27
theorem mp_11_31 : MLp 11 31 mX9_under := List.mem_of_getElem? (i := 1032) (by decide +kernel)
theorem ml_11_31 : MLn 11 31 mX9_under := Or.inl mp_11_31
theorem mp_11_34 : MLp 11 34 mX9_minutes := List.mem_of_getElem? (i := 1044) (by decide +kernel)
theorem ml_11_34 : MLn 11 34 mX9_minutes := Or.inl mp_11_34
theorem mp_11_37 : MLp 11 37 mX9_chill := List.mem_of_getElem? (i := 1056) (by decide +kernel)
theorem ml_11_37 : MLn 11 37 mX9_chill := Or.inl mp_11_37
theorem mp_11_40 : MLp 11 40 mX9_owes := List.mem_of_getElem? (i := 1077) (by decide +kernel)
theorem ml_11_40 : MLn 11 40 mX9_owes := Or.inl mp_11_40
theorem mp_11_44 : MLp 11 44 mX9_net := List.mem_of_getElem? (i := 1092) (by decide +kernel)
theorem ml_11_44 : MLn 11 44 mX9_net := Or.inl mp_11_44
theorem mp_11_47 : MLp 11 47 mX9_payments := List.mem_of_getElem? (i := 1100) (by decide +kernel)
theorem ml_11_47 : MLn 11 47 mX9_payments := Or.inl mp_11_47
theorem mp_11_50 : MLp 11 50 mX9_first := List.mem_of_getElem? (i := 1122) (by decide +kernel)
theorem ml_11_50 : MLn 11 50 mX9_first := Or.inl mp_11_50
theorem mp_11_53 : MLp 11 53 mX9_winter := List.mem_of_getElem? (i := 1138) (by decide +kernel)
theorem ml_11_53 : MLn 11 53 mX9_winter := Or.inl mp_11_53
theorem mp_11_56 : MLp 11 56 mX9_move := List.mem_of_getElem? (i := 1148) (by decide +kernel)
theorem ml_11_56 : MLn 11 56 mX9_move := Or.inl mp_11_56
theorem mp_11_59 : MLp 11 59 mX9_tall := List.mem_of_getElem? (i := 1157) (by decide +kernel)
theorem ml_11_59 : MLn 11 59 mX9_tall := Or.inl mp_11_59
theorem mp_11_62 : MLp 11 62 mX9_set := List.mem_of_getElem? (i := 1167) (by decide +kernel)
theorem ml_11_62 : MLn 11 62 mX9_set := Or.inl mp_11_62
theorem mp_11_65 : MLp 11 65 mX9_pole := List.mem_of_getElem? (i := 1217) (by decide +kernel)
theorem ml_11_65 : MLn 11 65 mX9_pole := Or.inl mp_11_65
theorem mp_11_68 : MLp 11 68 mX9_wish := List.mem_of_getElem? (i := 1229) (by decide +kernel)
theorem ml_11_68 : MLn 11 68 mX9_wish := Or.inl mp_11_68
theorem mp_11_71 : MLp 11 71 mX9_cold := List.mem_of_getElem? (i := 1237) (by decide +kernel)
theorem ml_11_71 : MLn 11 71 mX9_cold := Or.inl mp_11_71
theorem mp_11_74 : MLp 11 74 mX9_what := List.mem_of_getElem? (i := 1244) (by decide +kernel)
theorem ml_11_74 : MLn 11 74 mX9_what := Or.inl mp_11_74
theorem mp_11_77 : MLp 11 77 mX9_days := List.mem_of_getElem? (i := 1265) (by decide +kernel)
theorem ml_11_77 : MLn 11 77 mX9_days := Or.inl mp_11_77
theorem mp_11_80 : MLp 11 80 mX9_when := List.mem_of_getElem? (i := 1277) (by decide +kernel)
theorem ml_11_80 : MLn 11 80 mX9_when := Or.inl mp_11_80
theorem mp_11_83 : MLp 11 83 mX9_clouds := List.mem_of_getElem? (i := 1293) (by decide +kernel)
theorem ml_11_83 : MLn 11 83 mX9_clouds := Or.inl mp_11_83
theorem mp_11_86 : MLp 11 86 mX9_span := List.mem_of_getElem? (i := 1313) (by decide +kernel)
theorem ml_11_86 : MLn 11 86 mX9_span := Or.inl mp_11_86
theorem mp_11_89 : MLp 11 89 mX9_led := List.mem_of_getElem? (i := 1322) (by decide +kernel)
theorem ml_11_89 : MLn 11 89 mX9_led := Or.inl mp_11_89
theorem mp_11_92 : MLp 11 92 mX9_whose := List.mem_of_getElem? (i := 1333) (by decide +kernel)
theorem ml_11_92 : MLn 11 92 mX9_whose := Or.inl mp_11_92
theorem mp_11_95 : MLp 11 95 mX9_harmless := List.mem_of_getElem? (i := 1340) (by decide +kernel)
theorem ml_11_95 : MLn 11 95 mX9_harmless := Or.inl mp_11_95
theorem mp_11_98 : MLp 11 98 mX9_folded := List.mem_of_getElem? (i := 1355) (by decide +kernel)
theorem ml_11_98 : MLn 11 98 mX9_folded := Or.inl mp_11_98
theorem mp_11_101 : MLp 11 101 mX9_awned := List.mem_of_getElem? (i := 1366) (by decide +kernel)
theorem ml_11_101 : MLn 11 101 mX9_awned := Or.inl mp_11_101
theorem mp_11_104 : MLp 11 104 mX9_hour := List.mem_of_getElem? (i := 1377) (by decide +kernel)
theorem ml_11_104 : MLn 11 104 mX9_hour := Or.inl mp_11_104
theorem mp_11_107 : MLp 11 107 mX9_improved := List.mem_of_getElem? (i := 1384) (by decide +kernel)
theorem ml_11_107 : MLn 11 107 mX9_improved := Or.inl mp_11_107
theorem mp_11_110 : MLp 11 110 mX9_out := List.mem_of_getElem? (i := 1397) (by decide +kernel)
theorem ml_11_110 : MLn 11 110 mX9_out := Or.inl mp_11_110
theorem mp_11_113 : MLp 11 113 mX9_init := List.mem_of_getElem? (i := 165) (by decide +kernel)
theorem ml_11_113 : MLn 11 113 mX9_init := Or.inl mp_11_113
theorem mp_11_116 : MLp 11 116 mX10_init := List.mem_of_getElem? (i := 1403) (by decide +kernel)
theorem ml_11_116 : MLn 11 116 mX10_init := Or.inl mp_11_116
theorem mp_11_117 : MLp 11 117 mX9_feed := List.mem_of_getElem? (i := 548) (by decide +kernel)
theorem ml_11_117 : MLn 11 117 mX9_feed := Or.inl mp_11_117
theorem mp_11_121 : MLp 11 121 mX10_feed := List.mem_of_getElem? (i := 1587) (by decide +kernel)
theorem ml_11_121 : MLn 11 121 mX10_feed := Or.inl mp_11_121
theorem mp_11_122 : MLp 11 122 mL_market := List.mem_of_getElem? (i := 734) (by decide +kernel)
theorem ml_11_122 : MLn 11 122 mL_market := Or.inl mp_11_122
theorem mp_11_127 : MLp 11 127 mX10_market := List.mem_of_getElem? (i := 1591) (by decide +kernel)
theorem ml_11_127 : MLn 11 127 mX10_market := Or.inl mp_11_127
theorem mp_11_128 : MLp 11 128 mX10_thrown := List.mem_of_getElem? (i := 1583) (by decide +kernel)
theorem ml_11_128 : MLn 11 128 mX10_thrown := Or.inl mp_11_128
theorem mp_11_132 : MLp 11 132 mX9_fault := List.mem_of_getElem? (i := 556) (by decide +kernel)
theorem ml_11_132 : MLn 11 132 mX9_fault := Or.inl mp_11_132
theorem mp_11_135 : MLp 11 135 mX10_fault := List.mem_of_getElem? (i := 1664) (by decide +kernel)
theorem ml_11_135 : MLn 11 135 mX10_fault := Or.inl mp_11_135
theorem mp_11_136 : MLp 11 136 mL_told := List.mem_of_getElem? (i := 956) (by decide +kernel)
theorem ml_11_136 : MLn 11 136 mL_told := Or.inl mp_11_136
theorem mp_11_138 : MLp 11 138 mX10_told := List.mem_of_getElem? (i := 1668) (by decide +kernel)
theorem ml_11_138 : MLn 11 138 mX10_told := Or.inl mp_11_138
theorem mp_11_139 : MLp 11 139 mL_stall := List.mem_of_getElem? (i := 963) (by decide +kernel)
theorem ml_11_139 : MLn 11 139 mL_stall := Or.inl mp_11_139
theorem mp_11_142 : MLp 11 142 mX10_stall := List.mem_of_getElem? (i := 1672) (by decide +kernel)
theorem ml_11_142 : MLn 11 142 mX10_stall := Or.inl mp_11_142
theorem mp_11_143 : MLp 11 143 mL_length := List.mem_of_getElem? (i := 991) (by decide +kernel)
theorem ml_11_143 : MLn 11 143 mL_length := Or.inl mp_11_143
theorem mp_11_145 : MLp 11 145 mX10_length := List.mem_of_getElem? (i := 1680) (by decide +kernel)
theorem ml_11_145 : MLn 11 145 mX10_length := Or.inl mp_11_145
theorem mp_11_146 : MLp 11 146 mL_shades := List.mem_of_getElem? (i := 1013) (by decide +kernel)
theorem ml_11_146 : MLn 11 146 mL_shades := Or.inl mp_11_146
theorem mp_11_149 : MLp 11 149 mX10_shades := List.mem_of_getElem? (i := 1691) (by decide +kernel)
theorem ml_11_149 : MLn 11 149 mX10_shades := Or.inl mp_11_149
theorem mp_11_150 : MLp 11 150 mL_under := List.mem_of_getElem? (i := 1029) (by decide +kernel)
theorem ml_11_150 : MLn 11 150 mL_under := Or.inl mp_11_150
theorem mp_11_152 : MLp 11 152 mX10_under := List.mem_of_getElem? (i := 1719) (by decide +kernel)
theorem ml_11_152 : MLn 11 152 mX10_under := Or.inl mp_11_152
theorem mp_11_153 : MLp 11 153 mL_minutes := List.mem_of_getElem? (i := 1041) (by decide +kernel)
theorem ml_11_153 : MLn 11 153 mL_minutes := Or.inl mp_11_153
theorem mp_11_155 : MLp 11 155 mX10_minutes := List.mem_of_getElem? (i := 1723) (by decide +kernel)
theorem ml_11_155 : MLn 11 155 mX10_minutes := Or.inl mp_11_155
theorem mp_11_156 : MLp 11 156 mL_chill := List.mem_of_getElem? (i := 1053) (by decide +kernel)
theorem ml_11_156 : MLn 11 156 mL_chill := Or.inl mp_11_156
theorem mp_11_158 : MLp 11 158 mX10_chill := List.mem_of_getElem? (i := 1742) (by decide +kernel)
theorem ml_11_158 : MLn 11 158 mX10_chill := Or.inl mp_11_158
theorem mp_11_159 : MLp 11 159 mL_owes := List.mem_of_getElem? (i := 1074) (by decide +kernel)
theorem ml_11_159 : MLn 11 159 mL_owes := Or.inl mp_11_159
theorem mp_11_161 : MLp 11 161 mX10_owes := List.mem_of_getElem? (i := 1746) (by decide +kernel)
theorem ml_11_161 : MLn 11 161 mX10_owes := Or.inl mp_11_161
theorem mp_11_162 : MLp 11 162 mL_net := List.mem_of_getElem? (i := 1089) (by decide +kernel)
theorem ml_11_162 : MLn 11 162 mL_net := Or.inl mp_11_162
theorem mp_11_164 : MLp 11 164 mX10_net := List.mem_of_getElem? (i := 1753) (by decide +kernel)
theorem ml_11_164 : MLn 11 164 mX10_net := Or.inl mp_11_164
theorem mp_11_165 : MLp 11 165 mL_payments := List.mem_of_getElem? (i := 1097) (by decide +kernel)
theorem ml_11_165 : MLn 11 165 mL_payments := Or.inl mp_11_165
theorem mp_11_167 : MLp 11 167 mX10_payments := List.mem_of_getElem? (i := 1761) (by decide +kernel)
theorem ml_11_167 : MLn 11 167 mX10_payments := Or.inl mp_11_167
theorem mp_11_168 : MLp 11 168 mX9_due := List.mem_of_getElem? (i := 560) (by decide +kernel)
theorem ml_11_168 : MLn 11 168 mX9_due := Or.inl mp_11_168
theorem mp_11_171 : MLp 11 171 mX10_due := List.mem_of_getElem? (i := 1765) (by decide +kernel)
theorem ml_11_171 : MLn 11 171 mX10_due := Or.inl mp_11_171
theorem mp_11_172 : MLp 11 172 mL_first := List.mem_of_getElem? (i := 1119) (by decide +kernel)
theorem ml_11_172 : MLn 11 172 mL_first := Or.inl mp_11_172
theorem mp_11_174 : MLp 11 174 mX10_first := List.mem_of_getElem? (i := 1769) (by decide +kernel)
theorem ml_11_174 : MLn 11 174 mX10_first := Or.inl mp_11_174
theorem mp_11_175 : MLp 11 175 mL_winter := List.mem_of_getElem? (i := 1135) (by decide +kernel)
theorem ml_11_175 : MLn 11 175 mL_winter := Or.inl mp_11_175
theorem mp_11_177 : MLp 11 177 mX10_winter := List.mem_of_getElem? (i := 1773) (by decide +kernel)
theorem ml_11_177 : MLn 11 177 mX10_winter := Or.inl mp_11_177
theorem mp_11_178 : MLp 11 178 mL_move := List.mem_of_getElem? (i := 1145) (by decide +kernel)
theorem ml_11_178 : MLn 11 178 mL_move := Or.inl mp_11_178
theorem mp_11_180 : MLp 11 180 mX10_move := List.mem_of_getElem? (i := 1777) (by decide +kernel)
theorem ml_11_180 : MLn 11 180 mX10_move := Or.inl mp_11_180
theorem mp_11_181 : MLp 11 181 mL_tall := List.mem_of_getElem? (i := 1154) (by decide +kernel)
theorem ml_11_181 : MLn 11 181 mL_tall := Or.inl mp_11_181
theorem mp_11_183 : MLp 11 183 mX10_tall := List.mem_of_getElem? (i := 1781) (by decide +kernel)
theorem ml_11_183 : MLn 11 183 mX10_tall := Or.inl mp_11_183
theorem mp_11_184 : MLp 11 184 mL_set := List.mem_of_getElem? (i := 1164) (by decide +kernel)
theorem ml_11_184 : MLn 11 184 mL_set := Or.inl mp_11_184
theorem mp_11_186 : MLp 11 186 mX10_set := List.mem_of_getElem? (i := 1785) (by decide +kernel)
theorem ml_11_186 : MLn 11 186 mX10_set := Or.inl mp_11_186
theorem mp_11_187 : MLp 11 187 mX9_exchange := List.mem_of_getElem? (i := 598) (by decide +kernel)
theorem ml_11_187 : MLn 11 187 mX9_exchange := Or.inl mp_11_187
theorem mp_11_190 : MLp 11 190 mX10_exchange := List.mem_of_getElem? (i := 1801) (by decide +kernel)
theorem ml_11_190 : MLn 11 190 mX10_exchange := Or.inl mp_11_190
theorem mp_11_191 : MLp 11 191 mL_pole := List.mem_of_getElem? (i := 1214) (by decide +kernel)
theorem ml_11_191 : MLn 11 191 mL_pole := Or.inl mp_11_191
theorem mp_11_193 : MLp 11 193 mX10_pole := List.mem_of_getElem? (i := 1817) (by decide +kernel)
theorem ml_11_193 : MLn 11 193 mX10_pole := Or.inl mp_11_193
theorem mp_11_194 : MLp 11 194 mL_wish := List.mem_of_getElem? (i := 1226) (by decide +kernel)
theorem ml_11_194 : MLn 11 194 mL_wish := Or.inl mp_11_194
theorem mp_11_196 : MLp 11 196 mX10_wish := List.mem_of_getElem? (i := 1825) (by decide +kernel)
theorem ml_11_196 : MLn 11 196 mX10_wish := Or.inl mp_11_196
theorem mp_11_197 : MLp 11 197 mX9_play := List.mem_of_getElem? (i := 620) (by decide +kernel)
theorem ml_11_197 : MLn 11 197 mX9_play := Or.inl mp_11_197
theorem mp_11_200 : MLp 11 200 mX10_play := List.mem_of_getElem? (i := 1837) (by decide +kernel)
theorem ml_11_200 : MLn 11 200 mX10_play := Or.inl mp_11_200
theorem mp_11_201 : MLp 11 201 mX9_rounds := List.mem_of_getElem? (i := 648) (by decide +kernel)
theorem ml_11_201 : MLn 11 201 mX9_rounds := Or.inl mp_11_201
theorem mp_11_204 : MLp 11 204 mX10_rounds := List.mem_of_getElem? (i := 1849) (by decide +kernel)
theorem ml_11_204 : MLn 11 204 mX10_rounds := Or.inl mp_11_204
theorem mp_11_205 : MLp 11 205 mL_cold := List.mem_of_getElem? (i := 1234) (by decide +kernel)
theorem ml_11_205 : MLn 11 205 mL_cold := Or.inl mp_11_205
theorem mp_11_207 : MLp 11 207 mX10_cold := List.mem_of_getElem? (i := 1853) (by decide +kernel)
theorem ml_11_207 : MLn 11 207 mX10_cold := Or.inl mp_11_207
theorem mp_11_208 : MLp 11 208 mL_what := List.mem_of_getElem? (i := 1241) (by decide +kernel)
theorem ml_11_208 : MLn 11 208 mL_what := Or.inl mp_11_208
theorem mp_11_210 : MLp 11 210 mX10_what := List.mem_of_getElem? (i := 1857) (by decide +kernel)
theorem ml_11_210 : MLn 11 210 mX10_what := Or.inl mp_11_210
theorem mp_11_211 : MLp 11 211 mL_days := List.mem_of_getElem? (i := 1262) (by decide +kernel)
theorem ml_11_211 : MLn 11 211 mL_days := Or.inl mp_11_211
theorem mp_11_213 : MLp 11 213 mX10_days := List.mem_of_getElem? (i := 1865) (by decide +kernel)
theorem ml_11_213 : MLn 11 213 mX10_days := Or.inl mp_11_213
theorem mp_11_214 : MLp 11 214 mL_when := List.mem_of_getElem? (i := 1274) (by decide +kernel)
theorem ml_11_214 : MLn 11 214 mL_when := Or.inl mp_11_214
theorem mp_11_216 : MLp 11 216 mX10_when := List.mem_of_getElem? (i := 1873) (by decide +kernel)
theorem ml_11_216 : MLn 11 216 mX10_when := Or.inl mp_11_216
theorem mp_11_217 : MLp 11 217 mL_clouds := List.mem_of_getElem? (i := 1290) (by decide +kernel)
theorem ml_11_217 : MLn 11 217 mL_clouds := Or.inl mp_11_217
theorem mp_11_219 : MLp 11 219 mX10_clouds := List.mem_of_getElem? (i := 1878) (by decide +kernel)
theorem ml_11_219 : MLn 11 219 mX10_clouds := Or.inl mp_11_219
theorem mp_11_220 : MLp 11 220 mL_span := List.mem_of_getElem? (i := 1310) (by decide +kernel)
theorem ml_11_220 : MLn 11 220 mL_span := Or.inl mp_11_220
theorem mp_11_222 : MLp 11 222 mX10_span := List.mem_of_getElem? (i := 1891) (by decide +kernel)
theorem ml_11_222 : MLn 11 222 mX10_span := Or.inl mp_11_222
theorem mp_11_223 : MLp 11 223 mL_led := List.mem_of_getElem? (i := 1319) (by decide +kernel)
theorem ml_11_223 : MLn 11 223 mL_led := Or.inl mp_11_223
theorem mp_11_225 : MLp 11 225 mX10_led := List.mem_of_getElem? (i := 1895) (by decide +kernel)
theorem ml_11_225 : MLn 11 225 mX10_led := Or.inl mp_11_225
theorem mp_11_226 : MLp 11 226 mL_whose := List.mem_of_getElem? (i := 1330) (by decide +kernel)
theorem ml_11_226 : MLn 11 226 mL_whose := Or.inl mp_11_226
theorem mp_11_228 : MLp 11 228 mX10_whose := List.mem_of_getElem? (i := 1899) (by decide +kernel)
theorem ml_11_228 : MLn 11 228 mX10_whose := Or.inl mp_11_228
theorem mp_11_229 : MLp 11 229 mL_harmless := List.mem_of_getElem? (i := 1337) (by decide +kernel)
theorem ml_11_229 : MLn 11 229 mL_harmless := Or.inl mp_11_229
theorem mp_11_231 : MLp 11 231 mX10_harmless := List.mem_of_getElem? (i := 1903) (by decide +kernel)
theorem ml_11_231 : MLn 11 231 mX10_harmless := Or.inl mp_11_231
theorem mp_11_232 : MLp 11 232 mL_folded := List.mem_of_getElem? (i := 1352) (by decide +kernel)
theorem ml_11_232 : MLn 11 232 mL_folded := Or.inl mp_11_232
theorem mp_11_234 : MLp 11 234 mX10_folded := List.mem_of_getElem? (i := 1907) (by decide +kernel)
theorem ml_11_234 : MLn 11 234 mX10_folded := Or.inl mp_11_234
theorem mp_11_235 : MLp 11 235 mL_awned := List.mem_of_getElem? (i := 1363) (by decide +kernel)
theorem ml_11_235 : MLn 11 235 mL_awned := Or.inl mp_11_235
theorem mp_11_237 : MLp 11 237 mX10_awned := List.mem_of_getElem? (i := 1911) (by decide +kernel)
theorem ml_11_237 : MLn 11 237 mX10_awned := Or.inl mp_11_237
theorem mp_11_238 : MLp 11 238 mX9_lights := List.mem_of_getElem? (i := 652) (by decide +kernel)
theorem ml_11_238 : MLn 11 238 mX9_lights := Or.inl mp_11_238
theorem mp_11_241 : MLp 11 241 mX10_lights := List.mem_of_getElem? (i := 1915) (by decide +kernel)
theorem ml_11_241 : MLn 11 241 mX10_lights := Or.inl mp_11_241
theorem mp_11_242 : MLp 11 242 mL_hour := List.mem_of_getElem? (i := 1374) (by decide +kernel)
theorem ml_11_242 : MLn 11 242 mL_hour := Or.inl mp_11_242
theorem mp_11_244 : MLp 11 244 mX10_hour := List.mem_of_getElem? (i := 1919) (by decide +kernel)
theorem ml_11_244 : MLn 11 244 mX10_hour := Or.inl mp_11_244
theorem mp_11_245 : MLp 11 245 mL_improved := List.mem_of_getElem? (i := 1381) (by decide +kernel)
theorem ml_11_245 : MLn 11 245 mL_improved := Or.inl mp_11_245
theorem mp_11_247 : MLp 11 247 mX10_improved := List.mem_of_getElem? (i := 1813) (by decide +kernel)
theorem ml_11_247 : MLn 11 247 mX10_improved := Or.inl mp_11_247
theorem mp_11_248 : MLp 11 248 mL_out := List.mem_of_getElem? (i := 1394) (by decide +kernel)
theorem ml_11_248 : MLn 11 248 mL_out := Or.inl mp_11_248
theorem mp_11_250 : MLp 11 250 mX10_out := List.mem_of_getElem? (i := 1923) (by decide +kernel)
theorem ml_11_250 : MLn 11 250 mX10_out := Or.inl mp_11_250
theorem mp_11_251 : MLp 11 251 mX9_suns := List.mem_of_getElem? (i := 664) (by decide +kernel)
theorem ml_11_251 : MLn 11 251 mX9_suns := Or.inl mp_11_251
theorem mp_11_254 : MLp 11 254 mX10_suns := List.mem_of_getElem? (i := 1927) (by decide +kernel)
theorem ml_11_254 : MLn 11 254 mX10_suns := Or.inl mp_11_254
theorem mp_11_255 : MLp 11 255 mX9_image := List.mem_of_getElem? (i := 707) (by decide +kernel)
theorem ml_11_255 : MLn 11 255 mX9_image := Or.inl mp_11_255
theorem mp_11_258 : MLp 11 258 mX10_image := List.mem_of_getElem? (i := 1931) (by decide +kernel)
theorem ml_11_258 : MLn 11 258 mX10_image := Or.inl mp_11_258
theorem mp_11_259 : MLp 11 259 mX9_restore := List.mem_of_getElem? (i := 718) (by decide +kernel)
theorem ml_11_259 : MLn 11 259 mX9_restore := Or.inl mp_11_259
theorem mp_11_262 : MLp 11 262 mX10_restore := List.mem_of_getElem? (i := 1943) (by decide +kernel)
theorem ml_11_262 : MLn 11 262 mX10_restore := Or.inl mp_11_262
theorem mp_11_263 : MLp 11 263 mX9_status := List.mem_of_getElem? (i := 726) (by decide +kernel)
theorem ml_11_263 : MLn 11 263 mX9_status := Or.inl mp_11_263
theorem mp_11_266 : MLp 11 266 mX10_status := List.mem_of_getElem? (i := 1947) (by decide +kernel)
theorem ml_11_266 : MLn 11 266 mX10_status := Or.inl mp_11_266
theorem mp_11_267 : MLp 11 267 mX9_count := List.mem_of_getElem? (i := 730) (by decide +kernel)
theorem ml_11_267 : MLn 11 267 mX9_count := Or.inl mp_11_267
theorem mp_11_270 : MLp 11 270 mX10_count := List.mem_of_getElem? (i := 1951) (by decide +kernel)
theorem ml_11_270 : MLn 11 270 mX10_count := Or.inl mp_11_270
theorem kc_2_93 : Cond.constant (cn 2) 93 (1103515245) ∈ lw_tbl := List.mem_of_getElem? (i := 1301) (by decide +kernel)
theorem kc_4_84 : Cond.constant (cn 4) 84 (1000000000) ∈ lw_tbl := List.mem_of_getElem? (i := 610) (by decide +kernel)
theorem kc_4_141 : Cond.constant (cn 4) 141 (100000) ∈ lw_tbl := List.mem_of_getElem? (i := 1393) (by decide +kernel)
theorem kc_5_182 : Cond.constant (cn 5) 182 (100000) ∈ lw_tbl := List.mem_of_getElem? (i := 915) (by decide +kernel)
theorem kc_6_160 : Cond.constant (cn 6) 160 (1000000000) ∈ lw_tbl := List.mem_of_getElem? (i := 705) (by decide +kernel)
theorem kc_9_203 : Cond.constant (cn 9) 203 (1000000000) ∈ lw_tbl := List.mem_of_getElem? (i := 564) (by decide +kernel)
theorem kc_9_344 : Cond.constant (cn 9) 344 (99999) ∈ lw_tbl := List.mem_of_getElem? (i := 1284) (by decide +kernel)
theorem kc_10_139 : Cond.constant (cn 10) 139 (100000) ∈ lw_tbl := List.mem_of_getElem? (i := 1647) (by decide +kernel)
theorem kc_10_334 : Cond.constant (cn 10) 334 (99999) ∈ lw_tbl := List.mem_of_getElem? (i := 1877) (by decide +kernel)
theorem kc_10_335 : Cond.constant (cn 10) 335 (1103515245) ∈ lw_tbl := List.mem_of_getElem? (i := 1886) (by decide +kernel)
theorem kc_12_265 : Cond.constant (cn 12) 265 (1431655765) ∈ lw_tbl := List.mem_of_getElem? (i := 1174) (by decide +kernel)
theorem kc_12_266 : Cond.constant (cn 12) 266 (858993459) ∈ lw_tbl := List.mem_of_getElem? (i := 1175) (by decide +kernel)
theorem kc_12_267 : Cond.constant (cn 12) 267 (252645135) ∈ lw_tbl := List.mem_of_getElem? (i := 1176) (by decide +kernel)
theorem kl_10_144 : Cond.constantLong (cn 10) 144 (27) ∈ lw_tbl := List.mem_of_getElem? (i := 1626) (by decide +kernel)
theorem kl_10_146 : Cond.constantLong (cn 10) 146 (97) ∈ lw_tbl := List.mem_of_getElem? (i := 1627) (by decide +kernel)
theorem kl_10_148 : Cond.constantLong (cn 10) 148 (-1) ∈ lw_tbl := List.mem_of_getElem? (i := 1628) (by decide +kernel)
