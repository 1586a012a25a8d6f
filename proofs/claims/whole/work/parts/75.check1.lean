theorem ck_M_keptNow : zckl zm_M_keptNow 0 pg_M_keptNow = true := by decide +kernel
theorem cm_M_keptNow : zmk zm_M_keptNow 1069 60 1068 38 = true := by decide +kernel
theorem cq_M_keptNow : zmq zm_M_keptNow := ⟨ck_M_keptNow, _, _, _, _, cm_M_keptNow⟩
theorem ck_M_lost : zckl zm_M_lost 0 pg_M_lost = true := by decide +kernel
theorem cm_M_lost : zmk zm_M_lost 1073 60 1072 39 = true := by decide +kernel
theorem cq_M_lost : zmq zm_M_lost := ⟨ck_M_lost, _, _, _, _, cm_M_lost⟩
theorem ck_M_late : zckl zm_M_late 0 pg_M_late = true := by decide +kernel
theorem cm_M_late : zmk zm_M_late 1080 60 1079 0 = true := by decide +kernel
theorem cq_M_late : zmq zm_M_late := ⟨ck_M_late, _, _, _, _, cm_M_late⟩
theorem ck_M_isHeld : zckl zm_M_isHeld 0 pg_M_isHeld = true := by decide +kernel
theorem cm_M_isHeld : zmk zm_M_isHeld 1084 60 1083 41 = true := by decide +kernel
theorem cq_M_isHeld : zmq zm_M_isHeld := ⟨ck_M_isHeld, _, _, _, _, cm_M_isHeld⟩
theorem ck_M_heir : zckl zm_M_heir 0 pg_M_heir = true := by decide +kernel
theorem cm_M_heir : zmk zm_M_heir 1077 60 1076 40 = true := by decide +kernel
theorem cq_M_heir : zmq zm_M_heir := ⟨ck_M_heir, _, _, _, _, cm_M_heir⟩
theorem ck_M_holders : zckl zm_M_holders 0 pg_M_holders = true := by decide +kernel
theorem cm_M_holders : zmk zm_M_holders 1088 60 1087 42 = true := by decide +kernel
theorem cq_M_holders : zmq zm_M_holders := ⟨ck_M_holders, _, _, _, _, cm_M_holders⟩
theorem ck_M_part : zckl zm_M_part 0 pg_M_part = true := by decide +kernel
theorem cm_M_part : zmk zm_M_part 1062 60 1060 1061 = true := by decide +kernel
theorem cq_M_part : zmq zm_M_part := ⟨ck_M_part, _, _, _, _, cm_M_part⟩
theorem ck_H_set : zckl zm_H_set 0 pg_H_set = true := by decide +kernel
theorem cm_H_set : zmk zm_H_set 436 52 434 435 = true := by decide +kernel
theorem cq_H_set : zmq zm_H_set := ⟨ck_H_set, _, _, _, _, cm_H_set⟩
theorem ck_M_set : zckl zm_M_set 0 pg_M_set = true := by decide +kernel
theorem cm_M_set : zmk zm_M_set 1092 60 1090 1091 = true := by decide +kernel
theorem cq_M_set : zmq zm_M_set := ⟨ck_M_set, _, _, _, _, cm_M_set⟩
theorem ck_H_away : zckl zm_H_away 0 pg_H_away = true := by decide +kernel
theorem cm_H_away : zmk zm_H_away 440 52 438 439 = true := by decide +kernel
theorem cq_H_away : zmq zm_H_away := ⟨ck_H_away, _, _, _, _, cm_H_away⟩
theorem ck_M_away : zckl zm_M_away 0 pg_M_away = true := by decide +kernel
theorem cm_M_away : zmk zm_M_away 1096 60 1094 1095 = true := by decide +kernel
theorem cq_M_away : zmq zm_M_away := ⟨ck_M_away, _, _, _, _, cm_M_away⟩
theorem ck_H_sacks : zckl zm_H_sacks 0 pg_H_sacks = true := by decide +kernel
theorem cm_H_sacks : zmk zm_H_sacks 445 52 443 444 = true := by decide +kernel
theorem cq_H_sacks : zmq zm_H_sacks := ⟨ck_H_sacks, _, _, _, _, cm_H_sacks⟩
theorem ck_M_sacks : zckl zm_M_sacks 0 pg_M_sacks = true := by decide +kernel
theorem cm_M_sacks : zmk zm_M_sacks 1100 60 1098 1099 = true := by decide +kernel
theorem cq_M_sacks : zmq zm_M_sacks := ⟨ck_M_sacks, _, _, _, _, cm_M_sacks⟩
theorem ck_H_teach : zckl zm_H_teach 0 pg_H_teach = true := by decide +kernel
theorem cm_H_teach : zmk zm_H_teach 449 52 447 448 = true := by decide +kernel
theorem cq_H_teach : zmq zm_H_teach := ⟨ck_H_teach, _, _, _, _, cm_H_teach⟩
theorem ck_M_teach : zckl zm_M_teach 0 pg_M_teach = true := by decide +kernel
theorem cm_M_teach : zmk zm_M_teach 1104 60 1102 1103 = true := by decide +kernel
theorem cq_M_teach : zmq zm_M_teach := ⟨ck_M_teach, _, _, _, _, cm_M_teach⟩
theorem ck_H_row : zckl zm_H_row 0 pg_H_row = true := by decide +kernel
theorem cm_H_row : zmk zm_H_row 454 52 452 453 = true := by decide +kernel
theorem cq_H_row : zmq zm_H_row := ⟨ck_H_row, _, _, _, _, cm_H_row⟩
theorem zmq_4 : ∀ q ∈ zme_4, zmq q := List.forall_mem_cons.mpr ⟨cq_M_keptNow, List.forall_mem_cons.mpr ⟨cq_M_lost, List.forall_mem_cons.mpr ⟨cq_M_late, List.forall_mem_cons.mpr ⟨cq_M_isHeld, List.forall_mem_cons.mpr ⟨cq_M_heir, List.forall_mem_cons.mpr ⟨cq_M_holders, List.forall_mem_cons.mpr ⟨cq_M_part, List.forall_mem_cons.mpr ⟨cq_H_set, List.forall_mem_cons.mpr ⟨cq_M_set, List.forall_mem_cons.mpr ⟨cq_H_away, List.forall_mem_cons.mpr ⟨cq_M_away, List.forall_mem_cons.mpr ⟨cq_H_sacks, List.forall_mem_cons.mpr ⟨cq_M_sacks, List.forall_mem_cons.mpr ⟨cq_H_teach, List.forall_mem_cons.mpr ⟨cq_M_teach, List.forall_mem_cons.mpr ⟨cq_H_row, fun _ h => absurd h List.not_mem_nil⟩⟩⟩⟩⟩⟩⟩⟩⟩⟩⟩⟩⟩⟩⟩⟩
theorem ck_M_row : zckl zm_M_row 0 pg_M_row = true := by decide +kernel
theorem cm_M_row : zmk zm_M_row 1108 60 1106 1107 = true := by decide +kernel
theorem cq_M_row : zmq zm_M_row := ⟨ck_M_row, _, _, _, _, cm_M_row⟩
theorem ck_Text_add : zckl zm_Text_add 0 pg_Text_add = true := by decide +kernel
theorem cm_Text_add : zmk zm_Text_add 462 57 460 461 = true := by decide +kernel
theorem cq_Text_add : zmq zm_Text_add := ⟨ck_Text_add, _, _, _, _, cm_Text_add⟩
theorem ck_H_feed : zckl zm_H_feed 0 pg_H_feed = true := by decide +kernel
theorem cm_H_feed : zmk zm_H_feed 458 52 456 457 = true := by decide +kernel
theorem cq_H_feed : zmq zm_H_feed := ⟨ck_H_feed, _, _, _, _, cm_H_feed⟩
theorem ck_M_feed : zckl zm_M_feed 0 pg_M_feed = true := by decide +kernel
theorem cm_M_feed : zmk zm_M_feed 1112 60 1110 1111 = true := by decide +kernel
theorem cq_M_feed : zmq zm_M_feed := ⟨ck_M_feed, _, _, _, _, cm_M_feed⟩
theorem ck_Text_next : zckl zm_Text_next 0 pg_Text_next = true := by decide +kernel
theorem cm_Text_next : zmk zm_Text_next 478 57 477 6 = true := by decide +kernel
theorem cq_Text_next : zmq zm_Text_next := ⟨ck_Text_next, _, _, _, _, cm_Text_next⟩
theorem ck_Text_takes : zckl zm_Text_takes 0 pg_Text_takes = true := by decide +kernel
theorem cm_Text_takes : zmk zm_Text_takes 474 57 473 5 = true := by decide +kernel
theorem cq_Text_takes : zmq zm_Text_takes := ⟨ck_Text_takes, _, _, _, _, cm_Text_takes⟩
theorem ck_String_coder : zckl zm_String_coder 0 pg_String_coder = true := by decide +kernel
theorem cm_String_coder : zmk zm_String_coder 495 64 493 494 = true := by decide +kernel
theorem cq_String_coder : zmq zm_String_coder := ⟨ck_String_coder, _, _, _, _, cm_String_coder⟩
theorem ck_String_length : zckl zm_String_length 0 pg_String_length = true := by decide +kernel
theorem cm_String_length : zmk zm_String_length 491 64 489 490 = true := by decide +kernel
theorem cq_String_length : zmq zm_String_length := ⟨ck_String_length, _, _, _, _, cm_String_length⟩
theorem ck_String_isLatin1 : zckl zm_String_isLatin1 0 pg_String_isLatin1 = true := by decide +kernel
theorem cm_String_isLatin1 : zmk zm_String_isLatin1 505 64 503 504 = true := by decide +kernel
theorem cq_String_isLatin1 : zmq zm_String_isLatin1 := ⟨ck_String_isLatin1, _, _, _, _, cm_String_isLatin1⟩
theorem ck_Preconditions_checkIndex : zckl zm_Preconditions_checkIndex 0 pg_Preconditions_checkIndex = true := by decide +kernel
theorem cm_Preconditions_checkIndex : zmk zm_Preconditions_checkIndex 516 66 515 0 = true := by decide +kernel
theorem cq_Preconditions_checkIndex : zmq zm_Preconditions_checkIndex := ⟨ck_Preconditions_checkIndex, _, _, _, _, cm_Preconditions_checkIndex⟩
theorem ck_String_checkIndex : zckl zm_String_checkIndex 0 pg_String_checkIndex = true := by decide +kernel
theorem cm_String_checkIndex : zmk zm_String_checkIndex 511 64 510 0 = true := by decide +kernel
theorem cq_String_checkIndex : zmq zm_String_checkIndex := ⟨ck_String_checkIndex, _, _, _, _, cm_String_checkIndex⟩
theorem ck_StringLatin1_charAt : zckl zm_StringLatin1_charAt 0 pg_StringLatin1_charAt = true := by decide +kernel
theorem cm_StringLatin1_charAt : zmk zm_StringLatin1_charAt 508 65 507 0 = true := by decide +kernel
theorem cq_StringLatin1_charAt : zmq zm_StringLatin1_charAt := ⟨ck_StringLatin1_charAt, _, _, _, _, cm_StringLatin1_charAt⟩
theorem ck_String_charAt : zckl zm_String_charAt 0 pg_String_charAt = true := by decide +kernel
theorem cm_String_charAt : zmk zm_String_charAt 501 64 499 500 = true := by decide +kernel
theorem cq_String_charAt : zmq zm_String_charAt := ⟨ck_String_charAt, _, _, _, _, cm_String_charAt⟩
theorem ck_Text_takesWord : zckl zm_Text_takesWord 0 pg_Text_takesWord = true := by decide +kernel
theorem cm_Text_takesWord : zmk zm_Text_takesWord 487 57 486 8 = true := by decide +kernel
theorem cq_Text_takesWord : zmq zm_Text_takesWord := ⟨ck_Text_takesWord, _, _, _, _, cm_Text_takesWord⟩
theorem ck_Text_takeNumber : zckl zm_Text_takeNumber 0 pg_Text_takeNumber = true := by decide +kernel
theorem cm_Text_takeNumber : zmk zm_Text_takeNumber 539 57 538 9 = true := by decide +kernel
theorem cq_Text_takeNumber : zmq zm_Text_takeNumber := ⟨ck_Text_takeNumber, _, _, _, _, cm_Text_takeNumber⟩
theorem ck_StringLatin1_canEncode : zckl zm_StringLatin1_canEncode 0 pg_StringLatin1_canEncode = true := by decide +kernel
theorem cm_StringLatin1_canEncode : zmk zm_StringLatin1_canEncode 574 65 573 0 = true := by decide +kernel
theorem cq_StringLatin1_canEncode : zmq zm_StringLatin1_canEncode := ⟨ck_StringLatin1_canEncode, _, _, _, _, cm_StringLatin1_canEncode⟩
theorem zmq_5 : ∀ q ∈ zme_5, zmq q := List.forall_mem_cons.mpr ⟨cq_M_row, List.forall_mem_cons.mpr ⟨cq_Text_add, List.forall_mem_cons.mpr ⟨cq_H_feed, List.forall_mem_cons.mpr ⟨cq_M_feed, List.forall_mem_cons.mpr ⟨cq_Text_next, List.forall_mem_cons.mpr ⟨cq_Text_takes, List.forall_mem_cons.mpr ⟨cq_String_coder, List.forall_mem_cons.mpr ⟨cq_String_length, List.forall_mem_cons.mpr ⟨cq_String_isLatin1, List.forall_mem_cons.mpr ⟨cq_Preconditions_checkIndex, List.forall_mem_cons.mpr ⟨cq_String_checkIndex, List.forall_mem_cons.mpr ⟨cq_StringLatin1_charAt, List.forall_mem_cons.mpr ⟨cq_String_charAt, List.forall_mem_cons.mpr ⟨cq_Text_takesWord, List.forall_mem_cons.mpr ⟨cq_Text_takeNumber, List.forall_mem_cons.mpr ⟨cq_StringLatin1_canEncode, fun _ h => absurd h List.not_mem_nil⟩⟩⟩⟩⟩⟩⟩⟩⟩⟩⟩⟩⟩⟩⟩⟩
theorem ck_StringLatin1_indexOfChar : zckl zm_StringLatin1_indexOfChar 0 pg_StringLatin1_indexOfChar = true := by decide +kernel
theorem cm_StringLatin1_indexOfChar : zmk zm_StringLatin1_indexOfChar 579 65 578 0 = true := by decide +kernel
theorem cq_StringLatin1_indexOfChar : zmq zm_StringLatin1_indexOfChar := ⟨ck_StringLatin1_indexOfChar, _, _, _, _, cm_StringLatin1_indexOfChar⟩
theorem ck_StringLatin1_indexOf : zckl zm_StringLatin1_indexOf 0 pg_StringLatin1_indexOf = true := by decide +kernel
theorem cm_StringLatin1_indexOf : zmk zm_StringLatin1_indexOf 571 65 570 0 = true := by decide +kernel
theorem cq_StringLatin1_indexOf : zmq zm_StringLatin1_indexOf := ⟨ck_StringLatin1_indexOf, _, _, _, _, cm_StringLatin1_indexOf⟩
theorem ck_String_indexOf : zckl zm_String_indexOf 0 pg_String_indexOf = true := by decide +kernel
theorem cm_String_indexOf : zmk zm_String_indexOf 567 64 565 566 = true := by decide +kernel
theorem cq_String_indexOf : zmq zm_String_indexOf := ⟨ck_String_indexOf, _, _, _, _, cm_String_indexOf⟩
theorem ck_String_indexOf2 : zckl zm_String_indexOf2 0 pg_String_indexOf2 = true := by decide +kernel
theorem cm_String_indexOf2 : zmk zm_String_indexOf2 563 64 561 562 = true := by decide +kernel
theorem cq_String_indexOf2 : zmq zm_String_indexOf2 := ⟨ck_String_indexOf2, _, _, _, _, cm_String_indexOf2⟩
theorem ck_Text_takeOneOf : zckl zm_Text_takeOneOf 0 pg_Text_takeOneOf = true := by decide +kernel
theorem cm_Text_takeOneOf : zmk zm_Text_takeOneOf 559 57 558 13 = true := by decide +kernel
theorem cq_Text_takeOneOf : zmq zm_Text_takeOneOf := ⟨ck_Text_takeOneOf, _, _, _, _, cm_Text_takeOneOf⟩
theorem ck_Text_emit : zckl zm_Text_emit 0 pg_Text_emit = true := by decide +kernel
theorem cm_Text_emit : zmk zm_Text_emit 619 57 618 14 = true := by decide +kernel
theorem cq_Text_emit : zmq zm_Text_emit := ⟨ck_Text_emit, _, _, _, _, cm_Text_emit⟩
theorem ck_Text_readsTest : zckl zm_Text_readsTest 0 pg_Text_readsTest = true := by decide +kernel
theorem cm_Text_readsTest : zmk zm_Text_readsTest 554 57 553 12 = true := by decide +kernel
theorem cq_Text_readsTest : zmq zm_Text_readsTest := ⟨ck_Text_readsTest, _, _, _, _, cm_Text_readsTest⟩
theorem ck_Text_readsFactor : zckl zm_Text_readsFactor 0 pg_Text_readsFactor = true := by decide +kernel
theorem cm_Text_readsFactor : zmk zm_Text_readsFactor 550 57 549 11 = true := by decide +kernel
theorem cq_Text_readsFactor : zmq zm_Text_readsFactor := ⟨ck_Text_readsFactor, _, _, _, _, cm_Text_readsFactor⟩
theorem ck_Text_readsChoice : zckl zm_Text_readsChoice 0 pg_Text_readsChoice = true := by decide +kernel
theorem cm_Text_readsChoice : zmk zm_Text_readsChoice 546 57 545 10 = true := by decide +kernel
theorem cq_Text_readsChoice : zmq zm_Text_readsChoice := ⟨ck_Text_readsChoice, _, _, _, _, cm_Text_readsChoice⟩
theorem ck_Text_readsClause : zckl zm_Text_readsClause 0 pg_Text_readsClause = true := by decide +kernel
theorem cm_Text_readsClause : zmk zm_Text_readsClause 482 57 481 7 = true := by decide +kernel
theorem cq_Text_readsClause : zmq zm_Text_readsClause := ⟨ck_Text_readsClause, _, _, _, _, cm_Text_readsClause⟩
theorem ck_Arrays_copyOf : zckl zm_Arrays_copyOf 0 pg_Arrays_copyOf = true := by decide +kernel
theorem cm_Arrays_copyOf : zmk zm_Arrays_copyOf 624 54 623 0 = true := by decide +kernel
theorem cq_Arrays_copyOf : zmq zm_Arrays_copyOf := ⟨ck_Arrays_copyOf, _, _, _, _, cm_Arrays_copyOf⟩
theorem ck_Village_init : zckl zm_Village_init 0 pg_Village_init = true := by decide +kernel
theorem cm_Village_init : zmk zm_Village_init 636 69 635 0 = true := by decide +kernel
theorem cq_Village_init : zmq zm_Village_init := ⟨ck_Village_init, _, _, _, _, cm_Village_init⟩
theorem ck_Text_toVillage : zckl zm_Text_toVillage 0 pg_Text_toVillage = true := by decide +kernel
theorem cm_Text_toVillage : zmk zm_Text_toVillage 470 57 468 469 = true := by decide +kernel
theorem cq_Text_toVillage : zmq zm_Text_toVillage := ⟨ck_Text_toVillage, _, _, _, _, cm_Text_toVillage⟩
theorem ck_H_village : zckl zm_H_village 0 pg_H_village = true := by decide +kernel
theorem cm_H_village : zmk zm_H_village 466 52 464 465 = true := by decide +kernel
theorem cq_H_village : zmq zm_H_village := ⟨ck_H_village, _, _, _, _, cm_H_village⟩
theorem ck_M_village : zckl zm_M_village 0 pg_M_village = true := by decide +kernel
theorem cm_M_village : zmk zm_M_village 1116 60 1114 1115 = true := by decide +kernel
theorem cq_M_village : zmq zm_M_village := ⟨ck_M_village, _, _, _, _, cm_M_village⟩
theorem ck_Band_sacksKept : zckl zm_Band_sacksKept 0 pg_Band_sacksKept = true := by decide +kernel
theorem cm_Band_sacksKept : zmk zm_Band_sacksKept 655 53 653 654 = true := by decide +kernel
theorem cq_Band_sacksKept : zmq zm_Band_sacksKept := ⟨ck_Band_sacksKept, _, _, _, _, cm_Band_sacksKept⟩
theorem zmq_6 : ∀ q ∈ zme_6, zmq q := List.forall_mem_cons.mpr ⟨cq_StringLatin1_indexOfChar, List.forall_mem_cons.mpr ⟨cq_StringLatin1_indexOf, List.forall_mem_cons.mpr ⟨cq_String_indexOf, List.forall_mem_cons.mpr ⟨cq_String_indexOf2, List.forall_mem_cons.mpr ⟨cq_Text_takeOneOf, List.forall_mem_cons.mpr ⟨cq_Text_emit, List.forall_mem_cons.mpr ⟨cq_Text_readsTest, List.forall_mem_cons.mpr ⟨cq_Text_readsFactor, List.forall_mem_cons.mpr ⟨cq_Text_readsChoice, List.forall_mem_cons.mpr ⟨cq_Text_readsClause, List.forall_mem_cons.mpr ⟨cq_Arrays_copyOf, List.forall_mem_cons.mpr ⟨cq_Village_init, List.forall_mem_cons.mpr ⟨cq_Text_toVillage, List.forall_mem_cons.mpr ⟨cq_H_village, List.forall_mem_cons.mpr ⟨cq_M_village, List.forall_mem_cons.mpr ⟨cq_Band_sacksKept, fun _ h => absurd h List.not_mem_nil⟩⟩⟩⟩⟩⟩⟩⟩⟩⟩⟩⟩⟩⟩⟩⟩
