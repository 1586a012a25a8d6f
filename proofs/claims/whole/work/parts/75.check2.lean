theorem ck_Band_safe : zckl zm_Band_safe 0 pg_Band_safe = true := by decide +kernel
theorem cm_Band_safe : zmk zm_Band_safe 660 53 658 659 = true := by decide +kernel
theorem cq_Band_safe : zmq zm_Band_safe := ⟨ck_Band_safe, _, _, _, _, cm_Band_safe⟩
theorem ck_H_told : zckl zm_H_told 0 pg_H_told = true := by decide +kernel
theorem cm_H_told : zmk zm_H_told 650 52 648 649 = true := by decide +kernel
theorem cq_H_told : zmq zm_H_told := ⟨ck_H_told, _, _, _, _, cm_H_told⟩
theorem ck_M_sacksKept : zckl zm_M_sacksKept 0 pg_M_sacksKept = true := by decide +kernel
theorem cm_M_sacksKept : zmk zm_M_sacksKept 1124 60 1123 43 = true := by decide +kernel
theorem cq_M_sacksKept : zmq zm_M_sacksKept := ⟨ck_M_sacksKept, _, _, _, _, cm_M_sacksKept⟩
theorem ck_M_safe : zckl zm_M_safe 0 pg_M_safe = true := by decide +kernel
theorem cm_M_safe : zmk zm_M_safe 1128 60 1127 44 = true := by decide +kernel
theorem cq_M_safe : zmq zm_M_safe := ⟨ck_M_safe, _, _, _, _, cm_M_safe⟩
theorem ck_M_aways : zckl zm_M_aways 0 pg_M_aways = true := by decide +kernel
theorem cm_M_aways : zmk zm_M_aways 1132 60 1131 45 = true := by decide +kernel
theorem cq_M_aways : zmq zm_M_aways := ⟨ck_M_aways, _, _, _, _, cm_M_aways⟩
theorem ck_M_told : zckl zm_M_told 0 pg_M_told = true := by decide +kernel
theorem cm_M_told : zmk zm_M_told 1120 60 1118 1119 = true := by decide +kernel
theorem cq_M_told : zmq zm_M_told := ⟨ck_M_told, _, _, _, _, cm_M_told⟩
theorem ck_H_pass : zckl zm_H_pass 0 pg_H_pass = true := by decide +kernel
theorem cm_H_pass : zmk zm_H_pass 664 52 662 663 = true := by decide +kernel
theorem cq_H_pass : zmq zm_H_pass := ⟨ck_H_pass, _, _, _, _, cm_H_pass⟩
theorem ck_M_days : zckl zm_M_days 0 pg_M_days = true := by decide +kernel
theorem cm_M_days : zmk zm_M_days 1140 60 1139 46 = true := by decide +kernel
theorem cq_M_days : zmq zm_M_days := ⟨ck_M_days, _, _, _, _, cm_M_days⟩
theorem ck_M_pass : zckl zm_M_pass 0 pg_M_pass = true := by decide +kernel
theorem cm_M_pass : zmk zm_M_pass 1136 60 1134 1135 = true := by decide +kernel
theorem cq_M_pass : zmq zm_M_pass := ⟨ck_M_pass, _, _, _, _, cm_M_pass⟩
theorem ck_Foresight_goOn : zckl zm_Foresight_goOn 0 pg_Foresight_goOn = true := by decide +kernel
theorem cm_Foresight_goOn : zmk zm_Foresight_goOn 677 56 676 15 = true := by decide +kernel
theorem cq_Foresight_goOn : zmq zm_Foresight_goOn := ⟨ck_Foresight_goOn, _, _, _, _, cm_Foresight_goOn⟩
theorem ck_Foresight_after : zckl zm_Foresight_after 0 pg_Foresight_after = true := by decide +kernel
theorem cm_Foresight_after : zmk zm_Foresight_after 673 56 671 672 = true := by decide +kernel
theorem cq_Foresight_after : zmq zm_Foresight_after := ⟨ck_Foresight_after, _, _, _, _, cm_Foresight_after⟩
theorem ck_H_on : zckl zm_H_on 0 pg_H_on = true := by decide +kernel
theorem cm_H_on : zmk zm_H_on 669 52 667 668 = true := by decide +kernel
theorem cq_H_on : zmq zm_H_on := ⟨ck_H_on, _, _, _, _, cm_H_on⟩
theorem ck_M_on : zckl zm_M_on 0 pg_M_on = true := by decide +kernel
theorem cm_M_on : zmk zm_M_on 1144 60 1142 1143 = true := by decide +kernel
theorem cq_M_on : zmq zm_M_on := ⟨ck_M_on, _, _, _, _, cm_M_on⟩
theorem ck_Band_fewest : zckl zm_Band_fewest 0 pg_Band_fewest = true := by decide +kernel
theorem cm_Band_fewest : zmk zm_Band_fewest 685 53 683 684 = true := by decide +kernel
theorem cq_Band_fewest : zmq zm_Band_fewest := ⟨ck_Band_fewest, _, _, _, _, cm_Band_fewest⟩
theorem ck_H_choir : zckl zm_H_choir 0 pg_H_choir = true := by decide +kernel
theorem cm_H_choir : zmk zm_H_choir 681 52 679 680 = true := by decide +kernel
theorem cq_H_choir : zmq zm_H_choir := ⟨ck_H_choir, _, _, _, _, cm_H_choir⟩
theorem ck_M_isSung : zckl zm_M_isSung 0 pg_M_isSung = true := by decide +kernel
theorem cm_M_isSung : zmk zm_M_isSung 1152 60 1151 47 = true := by decide +kernel
theorem cq_M_isSung : zmq zm_M_isSung := ⟨ck_M_isSung, _, _, _, _, cm_M_isSung⟩
theorem zmq_7 : ∀ q ∈ zme_7, zmq q := List.forall_mem_cons.mpr ⟨cq_Band_safe, List.forall_mem_cons.mpr ⟨cq_H_told, List.forall_mem_cons.mpr ⟨cq_M_sacksKept, List.forall_mem_cons.mpr ⟨cq_M_safe, List.forall_mem_cons.mpr ⟨cq_M_aways, List.forall_mem_cons.mpr ⟨cq_M_told, List.forall_mem_cons.mpr ⟨cq_H_pass, List.forall_mem_cons.mpr ⟨cq_M_days, List.forall_mem_cons.mpr ⟨cq_M_pass, List.forall_mem_cons.mpr ⟨cq_Foresight_goOn, List.forall_mem_cons.mpr ⟨cq_Foresight_after, List.forall_mem_cons.mpr ⟨cq_H_on, List.forall_mem_cons.mpr ⟨cq_M_on, List.forall_mem_cons.mpr ⟨cq_Band_fewest, List.forall_mem_cons.mpr ⟨cq_H_choir, List.forall_mem_cons.mpr ⟨cq_M_isSung, fun _ h => absurd h List.not_mem_nil⟩⟩⟩⟩⟩⟩⟩⟩⟩⟩⟩⟩⟩⟩⟩⟩
theorem ck_M_choir : zckl zm_M_choir 0 pg_M_choir = true := by decide +kernel
theorem cm_M_choir : zmk zm_M_choir 1148 60 1146 1147 = true := by decide +kernel
theorem cq_M_choir : zmq zm_M_choir := ⟨ck_M_choir, _, _, _, _, cm_M_choir⟩
theorem ck_Hand_addSeen : zckl zm_Hand_addSeen 0 pg_Hand_addSeen = true := by decide +kernel
theorem cm_Hand_addSeen : zmk zm_Hand_addSeen 693 55 691 692 = true := by decide +kernel
theorem cq_Hand_addSeen : zmq zm_Hand_addSeen := ⟨ck_Hand_addSeen, _, _, _, _, cm_Hand_addSeen⟩
theorem ck_H_see : zckl zm_H_see 0 pg_H_see = true := by decide +kernel
theorem cm_H_see : zmk zm_H_see 689 52 687 688 = true := by decide +kernel
theorem cq_H_see : zmq zm_H_see := ⟨ck_H_see, _, _, _, _, cm_H_see⟩
theorem ck_M_see : zckl zm_M_see 0 pg_M_see = true := by decide +kernel
theorem cm_M_see : zmk zm_M_see 1156 60 1154 1155 = true := by decide +kernel
theorem cq_M_see : zmq zm_M_see := ⟨ck_M_see, _, _, _, _, cm_M_see⟩
theorem ck_H_can : zckl zm_H_can 0 pg_H_can = true := by decide +kernel
theorem cm_H_can : zmk zm_H_can 697 52 695 696 = true := by decide +kernel
theorem cq_H_can : zmq zm_H_can := ⟨ck_H_can, _, _, _, _, cm_H_can⟩
theorem ck_M_can : zckl zm_M_can 0 pg_M_can = true := by decide +kernel
theorem cm_M_can : zmk zm_M_can 1160 60 1158 1159 = true := by decide +kernel
theorem cq_M_can : zmq zm_M_can := ⟨ck_M_can, _, _, _, _, cm_M_can⟩
theorem ck_Foresight_keptWithoutOne : zckl zm_Foresight_keptWithoutOne 0 pg_Foresight_keptWithoutOne = true := by decide +kernel
theorem cm_Foresight_keptWithoutOne : zmk zm_Foresight_keptWithoutOne 706 56 704 705 = true := by decide +kernel
theorem cq_Foresight_keptWithoutOne : zmq zm_Foresight_keptWithoutOne := ⟨ck_Foresight_keptWithoutOne, _, _, _, _, cm_Foresight_keptWithoutOne⟩
theorem ck_Band_countHere : zckl zm_Band_countHere 0 pg_Band_countHere = true := by decide +kernel
theorem cm_Band_countHere : zmk zm_Band_countHere 711 53 709 710 = true := by decide +kernel
theorem cq_Band_countHere : zmq zm_Band_countHere := ⟨ck_Band_countHere, _, _, _, _, cm_Band_countHere⟩
theorem ck_H_fraction : zckl zm_H_fraction 0 pg_H_fraction = true := by decide +kernel
theorem cm_H_fraction : zmk zm_H_fraction 714 52 713 0 = true := by decide +kernel
theorem cq_H_fraction : zmq zm_H_fraction := ⟨ck_H_fraction, _, _, _, _, cm_H_fraction⟩
theorem ck_H_odds : zckl zm_H_odds 0 pg_H_odds = true := by decide +kernel
theorem cm_H_odds : zmk zm_H_odds 701 52 699 700 = true := by decide +kernel
theorem cq_H_odds : zmq zm_H_odds := ⟨ck_H_odds, _, _, _, _, cm_H_odds⟩
theorem ck_M_fraction : zckl zm_M_fraction 0 pg_M_fraction = true := by decide +kernel
theorem cm_M_fraction : zmk zm_M_fraction 1169 60 1168 0 = true := by decide +kernel
theorem cq_M_fraction : zmq zm_M_fraction := ⟨ck_M_fraction, _, _, _, _, cm_M_fraction⟩
theorem ck_M_odds : zckl zm_M_odds 0 pg_M_odds = true := by decide +kernel
theorem cm_M_odds : zmk zm_M_odds 1164 60 1162 1163 = true := by decide +kernel
theorem cq_M_odds : zmq zm_M_odds := ⟨ck_M_odds, _, _, _, _, cm_M_odds⟩
theorem ck_H_mean : zckl zm_H_mean 0 pg_H_mean = true := by decide +kernel
theorem cm_H_mean : zmk zm_H_mean 718 52 716 717 = true := by decide +kernel
theorem cq_H_mean : zmq zm_H_mean := ⟨ck_H_mean, _, _, _, _, cm_H_mean⟩
theorem ck_M_mean : zckl zm_M_mean 0 pg_M_mean = true := by decide +kernel
theorem cm_M_mean : zmk zm_M_mean 1173 60 1171 1172 = true := by decide +kernel
theorem cq_M_mean : zmq zm_M_mean := ⟨ck_M_mean, _, _, _, _, cm_M_mean⟩
theorem ck_Hand_addPlan : zckl zm_Hand_addPlan 0 pg_Hand_addPlan = true := by decide +kernel
theorem cm_Hand_addPlan : zmk zm_Hand_addPlan 726 55 724 725 = true := by decide +kernel
theorem cq_Hand_addPlan : zmq zm_Hand_addPlan := ⟨ck_Hand_addPlan, _, _, _, _, cm_Hand_addPlan⟩
theorem ck_H_plan : zckl zm_H_plan 0 pg_H_plan = true := by decide +kernel
theorem cm_H_plan : zmk zm_H_plan 722 52 720 721 = true := by decide +kernel
theorem cq_H_plan : zmq zm_H_plan := ⟨ck_H_plan, _, _, _, _, cm_H_plan⟩
theorem zmq_8 : ∀ q ∈ zme_8, zmq q := List.forall_mem_cons.mpr ⟨cq_M_choir, List.forall_mem_cons.mpr ⟨cq_Hand_addSeen, List.forall_mem_cons.mpr ⟨cq_H_see, List.forall_mem_cons.mpr ⟨cq_M_see, List.forall_mem_cons.mpr ⟨cq_H_can, List.forall_mem_cons.mpr ⟨cq_M_can, List.forall_mem_cons.mpr ⟨cq_Foresight_keptWithoutOne, List.forall_mem_cons.mpr ⟨cq_Band_countHere, List.forall_mem_cons.mpr ⟨cq_H_fraction, List.forall_mem_cons.mpr ⟨cq_H_odds, List.forall_mem_cons.mpr ⟨cq_M_fraction, List.forall_mem_cons.mpr ⟨cq_M_odds, List.forall_mem_cons.mpr ⟨cq_H_mean, List.forall_mem_cons.mpr ⟨cq_M_mean, List.forall_mem_cons.mpr ⟨cq_Hand_addPlan, List.forall_mem_cons.mpr ⟨cq_H_plan, fun _ h => absurd h List.not_mem_nil⟩⟩⟩⟩⟩⟩⟩⟩⟩⟩⟩⟩⟩⟩⟩⟩
theorem ck_M_plan : zckl zm_M_plan 0 pg_M_plan = true := by decide +kernel
theorem cm_M_plan : zmk zm_M_plan 1177 60 1175 1176 = true := by decide +kernel
theorem cq_M_plan : zmq zm_M_plan := ⟨ck_M_plan, _, _, _, _, cm_M_plan⟩
theorem ck_Foresight_behindPlan : zckl zm_Foresight_behindPlan 0 pg_Foresight_behindPlan = true := by decide +kernel
theorem cm_Foresight_behindPlan : zmk zm_Foresight_behindPlan 734 56 732 733 = true := by decide +kernel
theorem cq_Foresight_behindPlan : zmq zm_Foresight_behindPlan := ⟨ck_Foresight_behindPlan, _, _, _, _, cm_Foresight_behindPlan⟩
theorem ck_Band_forgotByAll : zckl zm_Band_forgotByAll 0 pg_Band_forgotByAll = true := by decide +kernel
theorem cm_Band_forgotByAll : zmk zm_Band_forgotByAll 738 53 736 737 = true := by decide +kernel
theorem cq_Band_forgotByAll : zmq zm_Band_forgotByAll := ⟨ck_Band_forgotByAll, _, _, _, _, cm_Band_forgotByAll⟩
theorem ck_H_ends : zckl zm_H_ends 0 pg_H_ends = true := by decide +kernel
theorem cm_H_ends : zmk zm_H_ends 730 52 728 729 = true := by decide +kernel
theorem cq_H_ends : zmq zm_H_ends := ⟨ck_H_ends, _, _, _, _, cm_H_ends⟩
theorem ck_M_ends : zckl zm_M_ends 0 pg_M_ends = true := by decide +kernel
theorem cm_M_ends : zmk zm_M_ends 1181 60 1179 1180 = true := by decide +kernel
theorem cq_M_ends : zmq zm_M_ends := ⟨ck_M_ends, _, _, _, _, cm_M_ends⟩
theorem ck_Hand_addBook : zckl zm_Hand_addBook 0 pg_Hand_addBook = true := by decide +kernel
theorem cm_Hand_addBook : zmk zm_Hand_addBook 746 55 744 745 = true := by decide +kernel
theorem cq_Hand_addBook : zmq zm_Hand_addBook := ⟨ck_Hand_addBook, _, _, _, _, cm_Hand_addBook⟩
theorem ck_H_book : zckl zm_H_book 0 pg_H_book = true := by decide +kernel
theorem cm_H_book : zmk zm_H_book 742 52 740 741 = true := by decide +kernel
theorem cq_H_book : zmq zm_H_book := ⟨ck_H_book, _, _, _, _, cm_H_book⟩
theorem ck_M_book : zckl zm_M_book 0 pg_M_book = true := by decide +kernel
theorem cm_M_book : zmk zm_M_book 1185 60 1183 1184 = true := by decide +kernel
theorem cq_M_book : zmq zm_M_book := ⟨ck_M_book, _, _, _, _, cm_M_book⟩
theorem ck_Hand_firstOtherwise : zckl zm_Hand_firstOtherwise 0 pg_Hand_firstOtherwise = true := by decide +kernel
theorem cm_Hand_firstOtherwise : zmk zm_Hand_firstOtherwise 754 55 752 753 = true := by decide +kernel
theorem cq_Hand_firstOtherwise : zmq zm_Hand_firstOtherwise := ⟨ck_Hand_firstOtherwise, _, _, _, _, cm_Hand_firstOtherwise⟩
theorem ck_H_looked : zckl zm_H_looked 0 pg_H_looked = true := by decide +kernel
theorem cm_H_looked : zmk zm_H_looked 750 52 748 749 = true := by decide +kernel
theorem cq_H_looked : zmq zm_H_looked := ⟨ck_H_looked, _, _, _, _, cm_H_looked⟩
theorem ck_M_looked : zckl zm_M_looked 0 pg_M_looked = true := by decide +kernel
theorem cm_M_looked : zmk zm_M_looked 1189 60 1187 1188 = true := by decide +kernel
theorem cq_M_looked : zmq zm_M_looked := ⟨ck_M_looked, _, _, _, _, cm_M_looked⟩
theorem ck_Tape_firstOtherwise : zckl zm_Tape_firstOtherwise 0 pg_Tape_firstOtherwise = true := by decide +kernel
theorem cm_Tape_firstOtherwise : zmk zm_Tape_firstOtherwise 762 59 760 761 = true := by decide +kernel
theorem cq_Tape_firstOtherwise : zmq zm_Tape_firstOtherwise := ⟨ck_Tape_firstOtherwise, _, _, _, _, cm_Tape_firstOtherwise⟩
theorem ck_H_judge : zckl zm_H_judge 0 pg_H_judge = true := by decide +kernel
theorem cm_H_judge : zmk zm_H_judge 758 52 756 757 = true := by decide +kernel
theorem cq_H_judge : zmq zm_H_judge := ⟨ck_H_judge, _, _, _, _, cm_H_judge⟩
theorem ck_M_isTape : zckl zm_M_isTape 0 pg_M_isTape = true := by decide +kernel
theorem cm_M_isTape : zmk zm_M_isTape 1224 60 1223 0 = true := by decide +kernel
theorem cq_M_isTape : zmq zm_M_isTape := ⟨ck_M_isTape, _, _, _, _, cm_M_isTape⟩
theorem ck_M_judge : zckl zm_M_judge 0 pg_M_judge = true := by decide +kernel
theorem cm_M_judge : zmk zm_M_judge 1240 60 1238 1239 = true := by decide +kernel
theorem cq_M_judge : zmq zm_M_judge := ⟨ck_M_judge, _, _, _, _, cm_M_judge⟩
theorem ck_Hand_become : zckl zm_Hand_become 0 pg_Hand_become = true := by decide +kernel
theorem cm_Hand_become : zmk zm_Hand_become 771 55 769 770 = true := by decide +kernel
theorem cq_Hand_become : zmq zm_Hand_become := ⟨ck_Hand_become, _, _, _, _, cm_Hand_become⟩
theorem zmq_9 : ∀ q ∈ zme_9, zmq q := List.forall_mem_cons.mpr ⟨cq_M_plan, List.forall_mem_cons.mpr ⟨cq_Foresight_behindPlan, List.forall_mem_cons.mpr ⟨cq_Band_forgotByAll, List.forall_mem_cons.mpr ⟨cq_H_ends, List.forall_mem_cons.mpr ⟨cq_M_ends, List.forall_mem_cons.mpr ⟨cq_Hand_addBook, List.forall_mem_cons.mpr ⟨cq_H_book, List.forall_mem_cons.mpr ⟨cq_M_book, List.forall_mem_cons.mpr ⟨cq_Hand_firstOtherwise, List.forall_mem_cons.mpr ⟨cq_H_looked, List.forall_mem_cons.mpr ⟨cq_M_looked, List.forall_mem_cons.mpr ⟨cq_Tape_firstOtherwise, List.forall_mem_cons.mpr ⟨cq_H_judge, List.forall_mem_cons.mpr ⟨cq_M_isTape, List.forall_mem_cons.mpr ⟨cq_M_judge, List.forall_mem_cons.mpr ⟨cq_Hand_become, fun _ h => absurd h List.not_mem_nil⟩⟩⟩⟩⟩⟩⟩⟩⟩⟩⟩⟩⟩⟩⟩⟩
