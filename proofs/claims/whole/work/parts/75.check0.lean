theorem ck_Arrays_fill : zckl zm_Arrays_fill 0 pg_Arrays_fill = true := by decide +kernel
theorem cm_Arrays_fill : zmk zm_Arrays_fill 86 54 85 0 = true := by decide +kernel
theorem cq_Arrays_fill : zmq zm_Arrays_fill := ⟨ck_Arrays_fill, _, _, _, _, cm_Arrays_fill⟩
theorem ck_Band_init : zckl zm_Band_init 0 pg_Band_init = true := by decide +kernel
theorem cm_Band_init : zmk zm_Band_init 82 53 81 0 = true := by decide +kernel
theorem cq_Band_init : zmq zm_Band_init := ⟨ck_Band_init, _, _, _, _, cm_Band_init⟩
theorem ck_Hand_init : zckl zm_Hand_init 0 pg_Hand_init = true := by decide +kernel
theorem cm_Hand_init : zmk zm_Hand_init 149 55 148 0 = true := by decide +kernel
theorem cq_Hand_init : zmq zm_Hand_init := ⟨ck_Hand_init, _, _, _, _, cm_Hand_init⟩
theorem ck_Foresight_init : zckl zm_Foresight_init 0 pg_Foresight_init = true := by decide +kernel
theorem cm_Foresight_init : zmk zm_Foresight_init 192 56 191 0 = true := by decide +kernel
theorem cq_Foresight_init : zmq zm_Foresight_init := ⟨ck_Foresight_init, _, _, _, _, cm_Foresight_init⟩
theorem ck_Text_init : zckl zm_Text_init 0 pg_Text_init = true := by decide +kernel
theorem cm_Text_init : zmk zm_Text_init 204 57 203 0 = true := by decide +kernel
theorem cq_Text_init : zmq zm_Text_init := ⟨ck_Text_init, _, _, _, _, cm_Text_init⟩
theorem ck_Performance_init : zckl zm_Performance_init 0 pg_Performance_init = true := by decide +kernel
theorem cm_Performance_init : zmk zm_Performance_init 231 58 230 0 = true := by decide +kernel
theorem cq_Performance_init : zmq zm_Performance_init := ⟨ck_Performance_init, _, _, _, _, cm_Performance_init⟩
theorem ck_Tape_init : zckl zm_Tape_init 0 pg_Tape_init = true := by decide +kernel
theorem cm_Tape_init : zmk zm_Tape_init 256 59 255 0 = true := by decide +kernel
theorem cq_Tape_init : zmq zm_Tape_init := ⟨ck_Tape_init, _, _, _, _, cm_Tape_init⟩
theorem ck_H_init : zckl zm_H_init 0 pg_H_init = true := by decide +kernel
theorem cm_H_init : zmk zm_H_init 74 52 73 0 = true := by decide +kernel
theorem cq_H_init : zmq zm_H_init := ⟨ck_H_init, _, _, _, _, cm_H_init⟩
theorem ck_M_fresh : zckl zm_M_fresh 0 pg_M_fresh = true := by decide +kernel
theorem cm_M_fresh : zmk zm_M_fresh 862 60 861 0 = true := by decide +kernel
theorem cq_M_fresh : zmq zm_M_fresh := ⟨ck_M_fresh, _, _, _, _, cm_M_fresh⟩
theorem ck_M_init : zckl zm_M_init 0 pg_M_init = true := by decide +kernel
theorem cm_M_init : zmk zm_M_init 858 60 857 0 = true := by decide +kernel
theorem cq_M_init : zmq zm_M_init := ⟨ck_M_init, _, _, _, _, cm_M_init⟩
theorem ck_H_within : zckl zm_H_within 0 pg_H_within = true := by decide +kernel
theorem cm_H_within : zmk zm_H_within 309 52 308 0 = true := by decide +kernel
theorem cq_H_within : zmq zm_H_within := ⟨ck_H_within, _, _, _, _, cm_H_within⟩
theorem ck_Band_putAway : zckl zm_Band_putAway 0 pg_Band_putAway = true := by decide +kernel
theorem cm_Band_putAway : zmk zm_Band_putAway 317 53 315 316 = true := by decide +kernel
theorem cq_Band_putAway : zmq zm_Band_putAway := ⟨ck_Band_putAway, _, _, _, _, cm_Band_putAway⟩
theorem ck_Band_enter : zckl zm_Band_enter 0 pg_Band_enter = true := by decide +kernel
theorem cm_Band_enter : zmk zm_Band_enter 313 53 311 312 = true := by decide +kernel
theorem cq_Band_enter : zmq zm_Band_enter := ⟨ck_Band_enter, _, _, _, _, cm_Band_enter⟩
theorem ck_H_singer : zckl zm_H_singer 0 pg_H_singer = true := by decide +kernel
theorem cm_H_singer : zmk zm_H_singer 306 52 304 305 = true := by decide +kernel
theorem cq_H_singer : zmq zm_H_singer := ⟨ck_H_singer, _, _, _, _, cm_H_singer⟩
theorem ck_M_isIn : zckl zm_M_isIn 0 pg_M_isIn = true := by decide +kernel
theorem cm_M_isIn : zmk zm_M_isIn 969 60 968 0 = true := by decide +kernel
theorem cq_M_isIn : zmq zm_M_isIn := ⟨ck_M_isIn, _, _, _, _, cm_M_isIn⟩
theorem ck_M_one : zckl zm_M_one 0 pg_M_one = true := by decide +kernel
theorem cm_M_one : zmk zm_M_one 977 60 976 19 = true := by decide +kernel
theorem cq_M_one : zmq zm_M_one := ⟨ck_M_one, _, _, _, _, cm_M_one⟩
theorem zmq_0 : ∀ q ∈ zme_0, zmq q := List.forall_mem_cons.mpr ⟨cq_Arrays_fill, List.forall_mem_cons.mpr ⟨cq_Band_init, List.forall_mem_cons.mpr ⟨cq_Hand_init, List.forall_mem_cons.mpr ⟨cq_Foresight_init, List.forall_mem_cons.mpr ⟨cq_Text_init, List.forall_mem_cons.mpr ⟨cq_Performance_init, List.forall_mem_cons.mpr ⟨cq_Tape_init, List.forall_mem_cons.mpr ⟨cq_H_init, List.forall_mem_cons.mpr ⟨cq_M_fresh, List.forall_mem_cons.mpr ⟨cq_M_init, List.forall_mem_cons.mpr ⟨cq_H_within, List.forall_mem_cons.mpr ⟨cq_Band_putAway, List.forall_mem_cons.mpr ⟨cq_Band_enter, List.forall_mem_cons.mpr ⟨cq_H_singer, List.forall_mem_cons.mpr ⟨cq_M_isIn, List.forall_mem_cons.mpr ⟨cq_M_one, fun _ h => absurd h List.not_mem_nil⟩⟩⟩⟩⟩⟩⟩⟩⟩⟩⟩⟩⟩⟩⟩⟩
theorem ck_M_change : zckl zm_M_change 0 pg_M_change = true := by decide +kernel
theorem cm_M_change : zmk zm_M_change 973 60 972 18 = true := by decide +kernel
theorem cq_M_change : zmq zm_M_change := ⟨ck_M_change, _, _, _, _, cm_M_change⟩
theorem ck_M_singer : zckl zm_M_singer 0 pg_M_singer = true := by decide +kernel
theorem cm_M_singer : zmk zm_M_singer 966 60 964 965 = true := by decide +kernel
theorem cq_M_singer : zmq zm_M_singer := ⟨ck_M_singer, _, _, _, _, cm_M_singer⟩
theorem ck_Band_has : zckl zm_Band_has 0 pg_Band_has = true := by decide +kernel
theorem cm_Band_has : zmk zm_Band_has 325 53 323 324 = true := by decide +kernel
theorem cq_Band_has : zmq zm_Band_has := ⟨ck_Band_has, _, _, _, _, cm_Band_has⟩
theorem ck_H_bit : zckl zm_H_bit 0 pg_H_bit = true := by decide +kernel
theorem cm_H_bit : zmk zm_H_bit 332 52 331 0 = true := by decide +kernel
theorem cq_H_bit : zmq zm_H_bit := ⟨ck_H_bit, _, _, _, _, cm_H_bit⟩
theorem ck_Band_isHere : zckl zm_Band_isHere 0 pg_Band_isHere = true := by decide +kernel
theorem cm_Band_isHere : zmk zm_Band_isHere 329 53 327 328 = true := by decide +kernel
theorem cq_Band_isHere : zmq zm_Band_isHere := ⟨ck_Band_isHere, _, _, _, _, cm_Band_isHere⟩
theorem ck_Integer_bitCount : zckl zm_Integer_bitCount 0 pg_Integer_bitCount = true := by decide +kernel
theorem cm_Integer_bitCount : zmk zm_Integer_bitCount 343 61 342 0 = true := by decide +kernel
theorem cq_Integer_bitCount : zmq zm_Integer_bitCount := ⟨ck_Integer_bitCount, _, _, _, _, cm_Integer_bitCount⟩
theorem ck_Integer_compare : zckl zm_Integer_compare 0 pg_Integer_compare = true := by decide +kernel
theorem cm_Integer_compare : zmk zm_Integer_compare 353 61 352 0 = true := by decide +kernel
theorem cq_Integer_compare : zmq zm_Integer_compare := ⟨ck_Integer_compare, _, _, _, _, cm_Integer_compare⟩
theorem ck_Village_weigh : zckl zm_Village_weigh 0 pg_Village_weigh = true := by decide +kernel
theorem cm_Village_weigh : zmk zm_Village_weigh 350 69 348 349 = true := by decide +kernel
theorem cq_Village_weigh : zmq zm_Village_weigh := ⟨ck_Village_weigh, _, _, _, _, cm_Village_weigh⟩
theorem ck_Band_sum : zckl zm_Band_sum 0 pg_Band_sum = true := by decide +kernel
theorem cm_Band_sum : zmk zm_Band_sum 340 53 339 0 = true := by decide +kernel
theorem cq_Band_sum : zmq zm_Band_sum := ⟨ck_Band_sum, _, _, _, _, cm_Band_sum⟩
theorem ck_Band_sharers : zckl zm_Band_sharers 0 pg_Band_sharers = true := by decide +kernel
theorem cm_Band_sharers : zmk zm_Band_sharers 358 53 357 1 = true := by decide +kernel
theorem cq_Band_sharers : zmq zm_Band_sharers := ⟨ck_Band_sharers, _, _, _, _, cm_Band_sharers⟩
theorem ck_Band_strain : zckl zm_Band_strain 0 pg_Band_strain = true := by decide +kernel
theorem cm_Band_strain : zmk zm_Band_strain 336 53 334 335 = true := by decide +kernel
theorem cq_Band_strain : zmq zm_Band_strain := ⟨ck_Band_strain, _, _, _, _, cm_Band_strain⟩
theorem ck_Band_become : zckl zm_Band_become 0 pg_Band_become = true := by decide +kernel
theorem cm_Band_become : zmk zm_Band_become 367 53 365 366 = true := by decide +kernel
theorem cq_Band_become : zmq zm_Band_become := ⟨ck_Band_become, _, _, _, _, cm_Band_become⟩
theorem ck_Hand_lastSeenDay : zckl zm_Hand_lastSeenDay 0 pg_Hand_lastSeenDay = true := by decide +kernel
theorem cm_Hand_lastSeenDay : zmk zm_Hand_lastSeenDay 378 55 376 377 = true := by decide +kernel
theorem cq_Hand_lastSeenDay : zmq zm_Hand_lastSeenDay := ⟨ck_Hand_lastSeenDay, _, _, _, _, cm_Hand_lastSeenDay⟩
theorem ck_Hand_agrees : zckl zm_Hand_agrees 0 pg_Hand_agrees = true := by decide +kernel
theorem cm_Hand_agrees : zmk zm_Hand_agrees 385 55 383 384 = true := by decide +kernel
theorem cq_Hand_agrees : zmq zm_Hand_agrees := ⟨ck_Hand_agrees, _, _, _, _, cm_Hand_agrees⟩
theorem ck_Band_anew : zckl zm_Band_anew 0 pg_Band_anew = true := by decide +kernel
theorem cm_Band_anew : zmk zm_Band_anew 403 53 401 402 = true := by decide +kernel
theorem cq_Band_anew : zmq zm_Band_anew := ⟨ck_Band_anew, _, _, _, _, cm_Band_anew⟩
theorem ck_Band_fade : zckl zm_Band_fade 0 pg_Band_fade = true := by decide +kernel
theorem cm_Band_fade : zmk zm_Band_fade 395 53 394 3 = true := by decide +kernel
theorem cq_Band_fade : zmq zm_Band_fade := ⟨ck_Band_fade, _, _, _, _, cm_Band_fade⟩
theorem zmq_1 : ∀ q ∈ zme_1, zmq q := List.forall_mem_cons.mpr ⟨cq_M_change, List.forall_mem_cons.mpr ⟨cq_M_singer, List.forall_mem_cons.mpr ⟨cq_Band_has, List.forall_mem_cons.mpr ⟨cq_H_bit, List.forall_mem_cons.mpr ⟨cq_Band_isHere, List.forall_mem_cons.mpr ⟨cq_Integer_bitCount, List.forall_mem_cons.mpr ⟨cq_Integer_compare, List.forall_mem_cons.mpr ⟨cq_Village_weigh, List.forall_mem_cons.mpr ⟨cq_Band_sum, List.forall_mem_cons.mpr ⟨cq_Band_sharers, List.forall_mem_cons.mpr ⟨cq_Band_strain, List.forall_mem_cons.mpr ⟨cq_Band_become, List.forall_mem_cons.mpr ⟨cq_Hand_lastSeenDay, List.forall_mem_cons.mpr ⟨cq_Hand_agrees, List.forall_mem_cons.mpr ⟨cq_Band_anew, List.forall_mem_cons.mpr ⟨cq_Band_fade, fun _ h => absurd h List.not_mem_nil⟩⟩⟩⟩⟩⟩⟩⟩⟩⟩⟩⟩⟩⟩⟩⟩
theorem ck_Band_goDay : zckl zm_Band_goDay 0 pg_Band_goDay = true := by decide +kernel
theorem cm_Band_goDay : zmk zm_Band_goDay 390 53 388 389 = true := by decide +kernel
theorem cq_Band_goDay : zmq zm_Band_goDay := ⟨ck_Band_goDay, _, _, _, _, cm_Band_goDay⟩
theorem ck_Foresight_seenIsSo : zckl zm_Foresight_seenIsSo 0 pg_Foresight_seenIsSo = true := by decide +kernel
theorem cm_Foresight_seenIsSo : zmk zm_Foresight_seenIsSo 374 56 373 2 = true := by decide +kernel
theorem cq_Foresight_seenIsSo : zmq zm_Foresight_seenIsSo := ⟨ck_Foresight_seenIsSo, _, _, _, _, cm_Foresight_seenIsSo⟩
theorem ck_Foresight_fitting : zckl zm_Foresight_fitting 0 pg_Foresight_fitting = true := by decide +kernel
theorem cm_Foresight_fitting : zmk zm_Foresight_fitting 363 56 361 362 = true := by decide +kernel
theorem cq_Foresight_fitting : zmq zm_Foresight_fitting := ⟨ck_Foresight_fitting, _, _, _, _, cm_Foresight_fitting⟩
theorem ck_H_of : zckl zm_H_of 0 pg_H_of = true := by decide +kernel
theorem cm_H_of : zmk zm_H_of 321 52 319 320 = true := by decide +kernel
theorem cq_H_of : zmq zm_H_of := ⟨ck_H_of, _, _, _, _, cm_H_of⟩
theorem ck_M_isOne : zckl zm_M_isOne 0 pg_M_isOne = true := by decide +kernel
theorem cm_M_isOne : zmk zm_M_isOne 985 60 984 20 = true := by decide +kernel
theorem cq_M_isOne : zmq zm_M_isOne := ⟨ck_M_isOne, _, _, _, _, cm_M_isOne⟩
theorem ck_M_many : zckl zm_M_many 0 pg_M_many = true := by decide +kernel
theorem cm_M_many : zmk zm_M_many 996 60 995 0 = true := by decide +kernel
theorem cq_M_many : zmq zm_M_many := ⟨ck_M_many, _, _, _, _, cm_M_many⟩
theorem ck_M_isAt : zckl zm_M_isAt 0 pg_M_isAt = true := by decide +kernel
theorem cm_M_isAt : zmk zm_M_isAt 1008 60 1007 25 = true := by decide +kernel
theorem cq_M_isAt : zmq zm_M_isAt := ⟨ck_M_isAt, _, _, _, _, cm_M_isAt⟩
theorem ck_M_takes : zckl zm_M_takes 0 pg_M_takes = true := by decide +kernel
theorem cm_M_takes : zmk zm_M_takes 1012 60 1011 26 = true := by decide +kernel
theorem cq_M_takes : zmq zm_M_takes := ⟨ck_M_takes, _, _, _, _, cm_M_takes⟩
theorem ck_M_isDigit : zckl zm_M_isDigit 0 pg_M_isDigit = true := by decide +kernel
theorem cm_M_isDigit : zmk zm_M_isDigit 1020 60 1019 28 = true := by decide +kernel
theorem cq_M_isDigit : zmq zm_M_isDigit := ⟨ck_M_isDigit, _, _, _, _, cm_M_isDigit⟩
theorem ck_M_number : zckl zm_M_number 0 pg_M_number = true := by decide +kernel
theorem cm_M_number : zmk zm_M_number 1016 60 1015 27 = true := by decide +kernel
theorem cq_M_number : zmq zm_M_number := ⟨ck_M_number, _, _, _, _, cm_M_number⟩
theorem ck_M_test : zckl zm_M_test 0 pg_M_test = true := by decide +kernel
theorem cm_M_test : zmk zm_M_test 1036 60 1035 32 = true := by decide +kernel
theorem cq_M_test : zmq zm_M_test := ⟨ck_M_test, _, _, _, _, cm_M_test⟩
theorem ck_M_factor : zckl zm_M_factor 0 pg_M_factor = true := by decide +kernel
theorem cm_M_factor : zmk zm_M_factor 1032 60 1031 31 = true := by decide +kernel
theorem cq_M_factor : zmq zm_M_factor := ⟨ck_M_factor, _, _, _, _, cm_M_factor⟩
theorem ck_M_both : zckl zm_M_both 0 pg_M_both = true := by decide +kernel
theorem cm_M_both : zmk zm_M_both 1028 60 1027 30 = true := by decide +kernel
theorem cq_M_both : zmq zm_M_both := ⟨ck_M_both, _, _, _, _, cm_M_both⟩
theorem ck_M_any : zckl zm_M_any 0 pg_M_any = true := by decide +kernel
theorem cm_M_any : zmk zm_M_any 1024 60 1023 29 = true := by decide +kernel
theorem cq_M_any : zmq zm_M_any := ⟨ck_M_any, _, _, _, _, cm_M_any⟩
theorem ck_M_clause : zckl zm_M_clause 0 pg_M_clause = true := by decide +kernel
theorem cm_M_clause : zmk zm_M_clause 1004 60 1003 24 = true := by decide +kernel
theorem cq_M_clause : zmq zm_M_clause := ⟨ck_M_clause, _, _, _, _, cm_M_clause⟩
theorem ck_M_readAll : zckl zm_M_readAll 0 pg_M_readAll = true := by decide +kernel
theorem cm_M_readAll : zmk zm_M_readAll 1000 60 999 23 = true := by decide +kernel
theorem cq_M_readAll : zmq zm_M_readAll := ⟨ck_M_readAll, _, _, _, _, cm_M_readAll⟩
theorem zmq_2 : ∀ q ∈ zme_2, zmq q := List.forall_mem_cons.mpr ⟨cq_Band_goDay, List.forall_mem_cons.mpr ⟨cq_Foresight_seenIsSo, List.forall_mem_cons.mpr ⟨cq_Foresight_fitting, List.forall_mem_cons.mpr ⟨cq_H_of, List.forall_mem_cons.mpr ⟨cq_M_isOne, List.forall_mem_cons.mpr ⟨cq_M_many, List.forall_mem_cons.mpr ⟨cq_M_isAt, List.forall_mem_cons.mpr ⟨cq_M_takes, List.forall_mem_cons.mpr ⟨cq_M_isDigit, List.forall_mem_cons.mpr ⟨cq_M_number, List.forall_mem_cons.mpr ⟨cq_M_test, List.forall_mem_cons.mpr ⟨cq_M_factor, List.forall_mem_cons.mpr ⟨cq_M_both, List.forall_mem_cons.mpr ⟨cq_M_any, List.forall_mem_cons.mpr ⟨cq_M_clause, List.forall_mem_cons.mpr ⟨cq_M_readAll, fun _ h => absurd h List.not_mem_nil⟩⟩⟩⟩⟩⟩⟩⟩⟩⟩⟩⟩⟩⟩⟩⟩
theorem ck_M_readFor : zckl zm_M_readFor 0 pg_M_readFor = true := by decide +kernel
theorem cm_M_readFor : zmk zm_M_readFor 993 60 992 22 = true := by decide +kernel
theorem cq_M_readFor : zmq zm_M_readFor := ⟨ck_M_readFor, _, _, _, _, cm_M_readFor⟩
theorem ck_M_isHere : zckl zm_M_isHere 0 pg_M_isHere = true := by decide +kernel
theorem cm_M_isHere : zmk zm_M_isHere 1040 60 1039 33 = true := by decide +kernel
theorem cq_M_isHere : zmq zm_M_isHere := ⟨ck_M_isHere, _, _, _, _, cm_M_isHere⟩
theorem ck_M_strain : zckl zm_M_strain 0 pg_M_strain = true := by decide +kernel
theorem cm_M_strain : zmk zm_M_strain 989 60 988 21 = true := by decide +kernel
theorem cq_M_strain : zmq zm_M_strain := ⟨ck_M_strain, _, _, _, _, cm_M_strain⟩
theorem ck_M_move : zckl zm_M_move 0 pg_M_move = true := by decide +kernel
theorem cm_M_move : zmk zm_M_move 958 60 957 0 = true := by decide +kernel
theorem cq_M_move : zmq zm_M_move := ⟨ck_M_move, _, _, _, _, cm_M_move⟩
theorem ck_M_anewNow : zckl zm_M_anewNow 0 pg_M_anewNow = true := by decide +kernel
theorem cm_M_anewNow : zmk zm_M_anewNow 1056 60 1055 37 = true := by decide +kernel
theorem cq_M_anewNow : zmq zm_M_anewNow := ⟨ck_M_anewNow, _, _, _, _, cm_M_anewNow⟩
theorem ck_M_day : zckl zm_M_day 0 pg_M_day = true := by decide +kernel
theorem cm_M_day : zmk zm_M_day 1052 60 1051 36 = true := by decide +kernel
theorem cq_M_day : zmq zm_M_day := ⟨ck_M_day, _, _, _, _, cm_M_day⟩
theorem ck_M_isAllSeen : zckl zm_M_isAllSeen 0 pg_M_isAllSeen = true := by decide +kernel
theorem cm_M_isAllSeen : zmk zm_M_isAllSeen 1048 60 1047 35 = true := by decide +kernel
theorem cq_M_isAllSeen : zmq zm_M_isAllSeen := ⟨ck_M_isAllSeen, _, _, _, _, cm_M_isAllSeen⟩
theorem ck_M_fits : zckl zm_M_fits 0 pg_M_fits = true := by decide +kernel
theorem cm_M_fits : zmk zm_M_fits 1044 60 1043 34 = true := by decide +kernel
theorem cq_M_fits : zmq zm_M_fits := ⟨ck_M_fits, _, _, _, _, cm_M_fits⟩
theorem ck_M_of : zckl zm_M_of 0 pg_M_of = true := by decide +kernel
theorem cm_M_of : zmk zm_M_of 981 60 979 980 = true := by decide +kernel
theorem cq_M_of : zmq zm_M_of := ⟨ck_M_of, _, _, _, _, cm_M_of⟩
theorem ck_Band_sungBy : zckl zm_Band_sungBy 0 pg_Band_sungBy = true := by decide +kernel
theorem cm_Band_sungBy : zmk zm_Band_sungBy 415 53 414 4 = true := by decide +kernel
theorem cq_Band_sungBy : zmq zm_Band_sungBy := ⟨ck_Band_sungBy, _, _, _, _, cm_Band_sungBy⟩
theorem ck_Band_kept : zckl zm_Band_kept 0 pg_Band_kept = true := by decide +kernel
theorem cm_Band_kept : zmk zm_Band_kept 411 53 409 410 = true := by decide +kernel
theorem cq_Band_kept : zmq zm_Band_kept := ⟨ck_Band_kept, _, _, _, _, cm_Band_kept⟩
theorem ck_Foresight_lost : zckl zm_Foresight_lost 0 pg_Foresight_lost = true := by decide +kernel
theorem cm_Foresight_lost : zmk zm_Foresight_lost 420 56 418 419 = true := by decide +kernel
theorem cq_Foresight_lost : zmq zm_Foresight_lost := ⟨ck_Foresight_lost, _, _, _, _, cm_Foresight_lost⟩
theorem ck_Foresight_heir : zckl zm_Foresight_heir 0 pg_Foresight_heir = true := by decide +kernel
theorem cm_Foresight_heir : zmk zm_Foresight_heir 426 56 424 425 = true := by decide +kernel
theorem cq_Foresight_heir : zmq zm_Foresight_heir := ⟨ck_Foresight_heir, _, _, _, _, cm_Foresight_heir⟩
theorem ck_Band_holders : zckl zm_Band_holders 0 pg_Band_holders = true := by decide +kernel
theorem cm_Band_holders : zmk zm_Band_holders 432 53 430 431 = true := by decide +kernel
theorem cq_Band_holders : zmq zm_Band_holders := ⟨ck_Band_holders, _, _, _, _, cm_Band_holders⟩
theorem ck_H_part : zckl zm_H_part 0 pg_H_part = true := by decide +kernel
theorem cm_H_part : zmk zm_H_part 407 52 405 406 = true := by decide +kernel
theorem cq_H_part : zmq zm_H_part := ⟨ck_H_part, _, _, _, _, cm_H_part⟩
theorem ck_M_isPart : zckl zm_M_isPart 0 pg_M_isPart = true := by decide +kernel
theorem cm_M_isPart : zmk zm_M_isPart 1065 60 1064 0 = true := by decide +kernel
theorem cq_M_isPart : zmq zm_M_isPart := ⟨ck_M_isPart, _, _, _, _, cm_M_isPart⟩
theorem zmq_3 : ∀ q ∈ zme_3, zmq q := List.forall_mem_cons.mpr ⟨cq_M_readFor, List.forall_mem_cons.mpr ⟨cq_M_isHere, List.forall_mem_cons.mpr ⟨cq_M_strain, List.forall_mem_cons.mpr ⟨cq_M_move, List.forall_mem_cons.mpr ⟨cq_M_anewNow, List.forall_mem_cons.mpr ⟨cq_M_day, List.forall_mem_cons.mpr ⟨cq_M_isAllSeen, List.forall_mem_cons.mpr ⟨cq_M_fits, List.forall_mem_cons.mpr ⟨cq_M_of, List.forall_mem_cons.mpr ⟨cq_Band_sungBy, List.forall_mem_cons.mpr ⟨cq_Band_kept, List.forall_mem_cons.mpr ⟨cq_Foresight_lost, List.forall_mem_cons.mpr ⟨cq_Foresight_heir, List.forall_mem_cons.mpr ⟨cq_Band_holders, List.forall_mem_cons.mpr ⟨cq_H_part, List.forall_mem_cons.mpr ⟨cq_M_isPart, fun _ h => absurd h List.not_mem_nil⟩⟩⟩⟩⟩⟩⟩⟩⟩⟩⟩⟩⟩⟩⟩⟩
