theorem ck_H_image : zckl zm_H_image 0 pg_H_image = true := by decide +kernel
theorem cm_H_image : zmk zm_H_image 766 52 764 765 = true := by decide +kernel
theorem cq_H_image : zmq zm_H_image := ⟨ck_H_image, _, _, _, _, cm_H_image⟩
theorem ck_M_image : zckl zm_M_image 0 pg_M_image = true := by decide +kernel
theorem cm_M_image : zmk zm_M_image 955 60 953 954 = true := by decide +kernel
theorem cq_M_image : zmq zm_M_image := ⟨ck_M_image, _, _, _, _, cm_M_image⟩
theorem ck_H_undo : zckl zm_H_undo 0 pg_H_undo = true := by decide +kernel
theorem cm_H_undo : zmk zm_H_undo 776 52 774 775 = true := by decide +kernel
theorem cq_H_undo : zmq zm_H_undo := ⟨ck_H_undo, _, _, _, _, cm_H_undo⟩
theorem ck_M_undo : zckl zm_M_undo 0 pg_M_undo = true := by decide +kernel
theorem cm_M_undo : zmk zm_M_undo 962 60 960 961 = true := by decide +kernel
theorem cq_M_undo : zmq zm_M_undo := ⟨ck_M_undo, _, _, _, _, cm_M_undo⟩
theorem ck_Performance_clear : zckl zm_Performance_clear 0 pg_Performance_clear = true := by decide +kernel
theorem cm_Performance_clear : zmk zm_Performance_clear 784 58 782 783 = true := by decide +kernel
theorem cq_Performance_clear : zmq zm_Performance_clear := ⟨ck_Performance_clear, _, _, _, _, cm_Performance_clear⟩
theorem ck_Performance_run : zckl zm_Performance_run 0 pg_Performance_run = true := by decide +kernel
theorem cm_Performance_run : zmk zm_Performance_run 800 58 799 17 = true := by decide +kernel
theorem cq_Performance_run : zmq zm_Performance_run := ⟨ck_Performance_run, _, _, _, _, cm_Performance_run⟩
theorem ck_Performance_perform : zckl zm_Performance_perform 0 pg_Performance_perform = true := by decide +kernel
theorem cm_Performance_perform : zmk zm_Performance_perform 792 58 791 16 = true := by decide +kernel
theorem cq_Performance_perform : zmq zm_Performance_perform := ⟨ck_Performance_perform, _, _, _, _, cm_Performance_perform⟩
theorem ck_Performance_begin : zckl zm_Performance_begin 0 pg_Performance_begin = true := by decide +kernel
theorem cm_Performance_begin : zmk zm_Performance_begin 788 58 786 787 = true := by decide +kernel
theorem cq_Performance_begin : zmq zm_Performance_begin := ⟨ck_Performance_begin, _, _, _, _, cm_Performance_begin⟩
theorem ck_H_act : zckl zm_H_act 0 pg_H_act = true := by decide +kernel
theorem cm_H_act : zmk zm_H_act 780 52 778 779 = true := by decide +kernel
theorem cq_H_act : zmq zm_H_act := ⟨ck_H_act, _, _, _, _, cm_H_act⟩
theorem ck_M_body : zckl zm_M_body 0 pg_M_body = true := by decide +kernel
theorem cm_M_body : zmk zm_M_body 1205 60 1204 50 = true := by decide +kernel
theorem cq_M_body : zmq zm_M_body := ⟨ck_M_body, _, _, _, _, cm_M_body⟩
theorem ck_M_byKind : zckl zm_M_byKind 0 pg_M_byKind = true := by decide +kernel
theorem cm_M_byKind : zmk zm_M_byKind 1201 60 1200 49 = true := by decide +kernel
theorem cq_M_byKind : zmq zm_M_byKind := ⟨ck_M_byKind, _, _, _, _, cm_M_byKind⟩
theorem ck_M_all : zckl zm_M_all 0 pg_M_all = true := by decide +kernel
theorem cm_M_all : zmk zm_M_all 1197 60 1196 48 = true := by decide +kernel
theorem cq_M_all : zmq zm_M_all := ⟨ck_M_all, _, _, _, _, cm_M_all⟩
theorem ck_M_act : zckl zm_M_act 0 pg_M_act = true := by decide +kernel
theorem cm_M_act : zmk zm_M_act 1193 60 1191 1192 = true := by decide +kernel
theorem cq_M_act : zmq zm_M_act := ⟨ck_M_act, _, _, _, _, cm_M_act⟩
theorem ck_Performance_keptCount : zckl zm_Performance_keptCount 0 pg_Performance_keptCount = true := by decide +kernel
theorem cm_Performance_keptCount : zmk zm_Performance_keptCount 808 58 806 807 = true := by decide +kernel
theorem cq_Performance_keptCount : zmq zm_Performance_keptCount := ⟨ck_Performance_keptCount, _, _, _, _, cm_Performance_keptCount⟩
theorem ck_H_trace : zckl zm_H_trace 0 pg_H_trace = true := by decide +kernel
theorem cm_H_trace : zmk zm_H_trace 804 52 802 803 = true := by decide +kernel
theorem cq_H_trace : zmq zm_H_trace := ⟨ck_H_trace, _, _, _, _, cm_H_trace⟩
theorem ck_M_trace : zckl zm_M_trace 0 pg_M_trace = true := by decide +kernel
theorem cm_M_trace : zmk zm_M_trace 1209 60 1207 1208 = true := by decide +kernel
theorem cq_M_trace : zmq zm_M_trace := ⟨ck_M_trace, _, _, _, _, cm_M_trace⟩
theorem zmq_10 : ∀ q ∈ zme_10, zmq q := List.forall_mem_cons.mpr ⟨cq_H_image, List.forall_mem_cons.mpr ⟨cq_M_image, List.forall_mem_cons.mpr ⟨cq_H_undo, List.forall_mem_cons.mpr ⟨cq_M_undo, List.forall_mem_cons.mpr ⟨cq_Performance_clear, List.forall_mem_cons.mpr ⟨cq_Performance_run, List.forall_mem_cons.mpr ⟨cq_Performance_perform, List.forall_mem_cons.mpr ⟨cq_Performance_begin, List.forall_mem_cons.mpr ⟨cq_H_act, List.forall_mem_cons.mpr ⟨cq_M_body, List.forall_mem_cons.mpr ⟨cq_M_byKind, List.forall_mem_cons.mpr ⟨cq_M_all, List.forall_mem_cons.mpr ⟨cq_M_act, List.forall_mem_cons.mpr ⟨cq_Performance_keptCount, List.forall_mem_cons.mpr ⟨cq_H_trace, List.forall_mem_cons.mpr ⟨cq_M_trace, fun _ h => absurd h List.not_mem_nil⟩⟩⟩⟩⟩⟩⟩⟩⟩⟩⟩⟩⟩⟩⟩⟩
theorem ck_H_isUnder : zckl zm_H_isUnder 0 pg_H_isUnder = true := by decide +kernel
theorem cm_H_isUnder : zmk zm_H_isUnder 816 52 815 0 = true := by decide +kernel
theorem cq_H_isUnder : zmq zm_H_isUnder := ⟨ck_H_isUnder, _, _, _, _, cm_H_isUnder⟩
theorem ck_H_taken : zckl zm_H_taken 0 pg_H_taken = true := by decide +kernel
theorem cm_H_taken : zmk zm_H_taken 813 52 811 812 = true := by decide +kernel
theorem cq_H_taken : zmq zm_H_taken := ⟨ck_H_taken, _, _, _, _, cm_H_taken⟩
theorem ck_M_taken : zckl zm_M_taken 0 pg_M_taken = true := by decide +kernel
theorem cm_M_taken : zmk zm_M_taken 1213 60 1211 1212 = true := by decide +kernel
theorem cq_M_taken : zmq zm_M_taken := ⟨ck_M_taken, _, _, _, _, cm_M_taken⟩
theorem ck_H_count : zckl zm_H_count 0 pg_H_count = true := by decide +kernel
theorem cm_H_count : zmk zm_H_count 821 52 819 820 = true := by decide +kernel
theorem cq_H_count : zmq zm_H_count := ⟨ck_H_count, _, _, _, _, cm_H_count⟩
theorem ck_M_count : zckl zm_M_count 0 pg_M_count = true := by decide +kernel
theorem cm_M_count : zmk zm_M_count 1217 60 1215 1216 = true := by decide +kernel
theorem cq_M_count : zmq zm_M_count := ⟨ck_M_count, _, _, _, _, cm_M_count⟩
theorem ck_Arrays_fill2 : zckl zm_Arrays_fill2 0 pg_Arrays_fill2 = true := by decide +kernel
theorem cm_Arrays_fill2 : zmk zm_Arrays_fill2 832 54 831 0 = true := by decide +kernel
theorem cq_Arrays_fill2 : zmq zm_Arrays_fill2 := ⟨ck_Arrays_fill2, _, _, _, _, cm_Arrays_fill2⟩
theorem ck_Tape_lay : zckl zm_Tape_lay 0 pg_Tape_lay = true := by decide +kernel
theorem cm_Tape_lay : zmk zm_Tape_lay 829 59 827 828 = true := by decide +kernel
theorem cq_Tape_lay : zmq zm_Tape_lay := ⟨ck_Tape_lay, _, _, _, _, cm_Tape_lay⟩
theorem ck_H_tape : zckl zm_H_tape 0 pg_H_tape = true := by decide +kernel
theorem cm_H_tape : zmk zm_H_tape 825 52 823 824 = true := by decide +kernel
theorem cq_H_tape : zmq zm_H_tape := ⟨ck_H_tape, _, _, _, _, cm_H_tape⟩
theorem ck_M_tape : zckl zm_M_tape 0 pg_M_tape = true := by decide +kernel
theorem cm_M_tape : zmk zm_M_tape 1221 60 1219 1220 = true := by decide +kernel
theorem cq_M_tape : zmq zm_M_tape := ⟨ck_M_tape, _, _, _, _, cm_M_tape⟩
theorem ck_Tape_cut : zckl zm_Tape_cut 0 pg_Tape_cut = true := by decide +kernel
theorem cm_Tape_cut : zmk zm_Tape_cut 840 59 838 839 = true := by decide +kernel
theorem cq_Tape_cut : zmq zm_Tape_cut := ⟨ck_Tape_cut, _, _, _, _, cm_Tape_cut⟩
theorem ck_H_item : zckl zm_H_item 0 pg_H_item = true := by decide +kernel
theorem cm_H_item : zmk zm_H_item 836 52 834 835 = true := by decide +kernel
theorem cq_H_item : zmq zm_H_item := ⟨ck_H_item, _, _, _, _, cm_H_item⟩
theorem ck_M_item : zckl zm_M_item 0 pg_M_item = true := by decide +kernel
theorem cm_M_item : zmk zm_M_item 1228 60 1226 1227 = true := by decide +kernel
theorem cq_M_item : zmq zm_M_item := ⟨ck_M_item, _, _, _, _, cm_M_item⟩
theorem ck_H_read : zckl zm_H_read 0 pg_H_read = true := by decide +kernel
theorem cm_H_read : zmk zm_H_read 844 52 842 843 = true := by decide +kernel
theorem cq_H_read : zmq zm_H_read := ⟨ck_H_read, _, _, _, _, cm_H_read⟩
theorem ck_M_read : zckl zm_M_read 0 pg_M_read = true := by decide +kernel
theorem cm_M_read : zmk zm_M_read 1232 60 1230 1231 = true := by decide +kernel
theorem cq_M_read : zmq zm_M_read := ⟨ck_M_read, _, _, _, _, cm_M_read⟩
theorem ck_Tape_spans : zckl zm_Tape_spans 0 pg_Tape_spans = true := by decide +kernel
theorem cm_Tape_spans : zmk zm_Tape_spans 852 59 850 851 = true := by decide +kernel
theorem cq_Tape_spans : zmq zm_Tape_spans := ⟨ck_Tape_spans, _, _, _, _, cm_Tape_spans⟩
theorem ck_H_shift : zckl zm_H_shift 0 pg_H_shift = true := by decide +kernel
theorem cm_H_shift : zmk zm_H_shift 848 52 846 847 = true := by decide +kernel
theorem cq_H_shift : zmq zm_H_shift := ⟨ck_H_shift, _, _, _, _, cm_H_shift⟩
theorem zmq_11 : ∀ q ∈ zme_11, zmq q := List.forall_mem_cons.mpr ⟨cq_H_isUnder, List.forall_mem_cons.mpr ⟨cq_H_taken, List.forall_mem_cons.mpr ⟨cq_M_taken, List.forall_mem_cons.mpr ⟨cq_H_count, List.forall_mem_cons.mpr ⟨cq_M_count, List.forall_mem_cons.mpr ⟨cq_Arrays_fill2, List.forall_mem_cons.mpr ⟨cq_Tape_lay, List.forall_mem_cons.mpr ⟨cq_H_tape, List.forall_mem_cons.mpr ⟨cq_M_tape, List.forall_mem_cons.mpr ⟨cq_Tape_cut, List.forall_mem_cons.mpr ⟨cq_H_item, List.forall_mem_cons.mpr ⟨cq_M_item, List.forall_mem_cons.mpr ⟨cq_H_read, List.forall_mem_cons.mpr ⟨cq_M_read, List.forall_mem_cons.mpr ⟨cq_Tape_spans, List.forall_mem_cons.mpr ⟨cq_H_shift, fun _ h => absurd h List.not_mem_nil⟩⟩⟩⟩⟩⟩⟩⟩⟩⟩⟩⟩⟩⟩⟩⟩
theorem ck_M_shift : zckl zm_M_shift 0 pg_M_shift = true := by decide +kernel
theorem cm_M_shift : zmk zm_M_shift 1236 60 1234 1235 = true := by decide +kernel
theorem cq_M_shift : zmq zm_M_shift := ⟨ck_M_shift, _, _, _, _, cm_M_shift⟩
theorem zmq_12 : ∀ q ∈ zme_12, zmq q := List.forall_mem_cons.mpr ⟨cq_M_shift, fun _ h => absurd h List.not_mem_nil⟩
theorem zme_ok : ∀ q ∈ zme, zmq q := List.forall_mem_append.mpr ⟨zmq_0, List.forall_mem_append.mpr ⟨zmq_1, List.forall_mem_append.mpr ⟨zmq_2, List.forall_mem_append.mpr ⟨zmq_3, List.forall_mem_append.mpr ⟨zmq_4, List.forall_mem_append.mpr ⟨zmq_5, List.forall_mem_append.mpr ⟨zmq_6, List.forall_mem_append.mpr ⟨zmq_7, List.forall_mem_append.mpr ⟨zmq_8, List.forall_mem_append.mpr ⟨zmq_9, List.forall_mem_append.mpr ⟨zmq_10, List.forall_mem_append.mpr ⟨zmq_11, zmq_12⟩⟩⟩⟩⟩⟩⟩⟩⟩⟩⟩⟩
