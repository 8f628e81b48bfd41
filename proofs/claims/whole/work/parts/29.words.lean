theorem k_10 : (Jvm.Cond.initialized "TrunkCellsModel") ∈ WS := WS_of 10 (by decide +kernel) (by decide +kernel)
theorem k_765 : (Jvm.Cond.fieldLink "TrunkCellsModel" (7 : Nat) "TrunkCellsModel" "thrownCode" "I") ∈ WS := WS_of 765 (by decide +kernel) (by decide +kernel)
theorem k_766 : (Jvm.Cond.fieldLink "TrunkCellsModel" (13 : Nat) "TrunkCellsModel" "seen" "[I") ∈ WS := WS_of 766 (by decide +kernel) (by decide +kernel)
theorem k_767 : (Jvm.Cond.fieldLink "TrunkCellsModel" (17 : Nat) "TrunkCellsModel" "cost" "[I") ∈ WS := WS_of 767 (by decide +kernel) (by decide +kernel)
theorem k_768 : (Jvm.Cond.fieldLink "TrunkCellsModel" (20 : Nat) "TrunkCellsModel" "row" "J") ∈ WS := WS_of 768 (by decide +kernel) (by decide +kernel)
theorem k_769 : (Jvm.Cond.fieldLink "TrunkCellsModel" (24 : Nat) "TrunkCellsModel" "unlike" "I") ∈ WS := WS_of 769 (by decide +kernel) (by decide +kernel)
theorem k_770 : (Jvm.Cond.fieldLink "TrunkCellsModel" (27 : Nat) "TrunkCellsModel" "cellOf" "[I") ∈ WS := WS_of 770 (by decide +kernel) (by decide +kernel)
theorem k_771 : (Jvm.Cond.fieldLink "TrunkCellsModel" (30 : Nat) "TrunkCellsModel" "ownKey" "[I") ∈ WS := WS_of 771 (by decide +kernel) (by decide +kernel)
theorem k_772 : (Jvm.Cond.fieldLink "TrunkCellsModel" (33 : Nat) "TrunkCellsModel" "knownKey" "[I") ∈ WS := WS_of 772 (by decide +kernel) (by decide +kernel)
theorem k_773 : (Jvm.Cond.fieldLink "TrunkCellsModel" (36 : Nat) "TrunkCellsModel" "groups" "[I") ∈ WS := WS_of 773 (by decide +kernel) (by decide +kernel)
theorem k_774 : (Jvm.Cond.fieldLink "TrunkCellsModel" (39 : Nat) "TrunkCellsModel" "kind" "[I") ∈ WS := WS_of 774 (by decide +kernel) (by decide +kernel)
theorem k_775 : (Jvm.Cond.fieldLink "TrunkCellsModel" (42 : Nat) "TrunkCellsModel" "what" "[I") ∈ WS := WS_of 775 (by decide +kernel) (by decide +kernel)
theorem k_776 : (Jvm.Cond.fieldLink "TrunkCellsModel" (45 : Nat) "TrunkCellsModel" "rest" "[I") ∈ WS := WS_of 776 (by decide +kernel) (by decide +kernel)
theorem k_777 : (Jvm.Cond.fieldLink "TrunkCellsModel" (48 : Nat) "TrunkCellsModel" "tries" "[I") ∈ WS := WS_of 777 (by decide +kernel) (by decide +kernel)
theorem k_778 : (Jvm.Cond.fieldLink "TrunkCellsModel" (51 : Nat) "TrunkCellsModel" "wait" "[I") ∈ WS := WS_of 778 (by decide +kernel) (by decide +kernel)
theorem k_779 : (Jvm.Cond.fieldLink "TrunkCellsModel" (54 : Nat) "TrunkCellsModel" "sent" "[Z") ∈ WS := WS_of 779 (by decide +kernel) (by decide +kernel)
theorem k_780 : (Jvm.Cond.fieldLink "TrunkCellsModel" (58 : Nat) "TrunkCellsModel" "doing" "[I") ∈ WS := WS_of 780 (by decide +kernel) (by decide +kernel)
theorem k_781 : (Jvm.Cond.fieldLink "TrunkCellsModel" (61 : Nat) "TrunkCellsModel" "channel" "[I") ∈ WS := WS_of 781 (by decide +kernel) (by decide +kernel)
theorem k_782 : (Jvm.Cond.fieldLink "TrunkCellsModel" (64 : Nat) "TrunkCellsModel" "inCall" "[I") ∈ WS := WS_of 782 (by decide +kernel) (by decide +kernel)
theorem k_783 : (Jvm.Cond.fieldLink "TrunkCellsModel" (67 : Nat) "TrunkCellsModel" "presses" "[I") ∈ WS := WS_of 783 (by decide +kernel) (by decide +kernel)
theorem k_784 : (Jvm.Cond.fieldLink "TrunkCellsModel" (70 : Nat) "TrunkCellsModel" "speech" "[I") ∈ WS := WS_of 784 (by decide +kernel) (by decide +kernel)
theorem k_785 : (Jvm.Cond.fieldLink "TrunkCellsModel" (73 : Nat) "TrunkCellsModel" "draws" "[I") ∈ WS := WS_of 785 (by decide +kernel) (by decide +kernel)
theorem k_786 : (Jvm.Cond.fieldLink "TrunkCellsModel" (76 : Nat) "TrunkCellsModel" "drawCount" "[I") ∈ WS := WS_of 786 (by decide +kernel) (by decide +kernel)
theorem k_787 : (Jvm.Cond.fieldLink "TrunkCellsModel" (79 : Nat) "TrunkCellsModel" "heard" "[I") ∈ WS := WS_of 787 (by decide +kernel) (by decide +kernel)
theorem k_788 : (Jvm.Cond.fieldLink "TrunkCellsModel" (82 : Nat) "TrunkCellsModel" "heardLast" "[I") ∈ WS := WS_of 788 (by decide +kernel) (by decide +kernel)
theorem k_789 : (Jvm.Cond.fieldLink "TrunkCellsModel" (85 : Nat) "TrunkCellsModel" "got" "[I") ∈ WS := WS_of 789 (by decide +kernel) (by decide +kernel)
theorem k_790 : (Jvm.Cond.fieldLink "TrunkCellsModel" (88 : Nat) "TrunkCellsModel" "gotLast" "[I") ∈ WS := WS_of 790 (by decide +kernel) (by decide +kernel)
theorem k_791 : (Jvm.Cond.fieldLink "TrunkCellsModel" (91 : Nat) "TrunkCellsModel" "registered" "[I") ∈ WS := WS_of 791 (by decide +kernel) (by decide +kernel)
theorem k_792 : (Jvm.Cond.fieldLink "TrunkCellsModel" (94 : Nat) "TrunkCellsModel" "faults" "[J") ∈ WS := WS_of 792 (by decide +kernel) (by decide +kernel)
theorem k_793 : (Jvm.Cond.fieldLink "TrunkCellsModel" (98 : Nat) "TrunkCellsModel" "groupKey" "[I") ∈ WS := WS_of 793 (by decide +kernel) (by decide +kernel)
theorem k_794 : (Jvm.Cond.fieldLink "TrunkCellsModel" (101 : Nat) "TrunkCellsModel" "callChannel" "[I") ∈ WS := WS_of 794 (by decide +kernel) (by decide +kernel)
theorem k_795 : (Jvm.Cond.fieldLink "TrunkCellsModel" (104 : Nat) "TrunkCellsModel" "holder" "[I") ∈ WS := WS_of 795 (by decide +kernel) (by decide +kernel)
theorem k_796 : (Jvm.Cond.fieldLink "TrunkCellsModel" (107 : Nat) "TrunkCellsModel" "since" "[I") ∈ WS := WS_of 796 (by decide +kernel) (by decide +kernel)
theorem k_797 : (Jvm.Cond.fieldLink "TrunkCellsModel" (110 : Nat) "TrunkCellsModel" "rows" "[I") ∈ WS := WS_of 797 (by decide +kernel) (by decide +kernel)
theorem k_798 : (Jvm.Cond.fieldLink "TrunkCellsModel" (113 : Nat) "TrunkCellsModel" "rowCount" "[I") ∈ WS := WS_of 798 (by decide +kernel) (by decide +kernel)
theorem k_799 : (Jvm.Cond.fieldLink "TrunkCellsModel" (116 : Nat) "TrunkCellsModel" "says" "[I") ∈ WS := WS_of 799 (by decide +kernel) (by decide +kernel)
theorem k_800 : (Jvm.Cond.fieldLink "TrunkCellsModel" (119 : Nat) "TrunkCellsModel" "sayCount" "[I") ∈ WS := WS_of 800 (by decide +kernel) (by decide +kernel)
theorem k_801 : (Jvm.Cond.fieldLink "TrunkCellsModel" (122 : Nat) "TrunkCellsModel" "time" "I") ∈ WS := WS_of 801 (by decide +kernel) (by decide +kernel)
theorem k_881 : (Jvm.Cond.code y_Md_thrown prog_10_method_28_code (1 : Nat) (Option.some Jvm.ClassFile.FieldType.int)) ∈ WS := WS_of 881 (by decide +kernel) (by decide +kernel)
theorem k_885 : (Jvm.Cond.code y_Md_keys prog_10_method_30_code (4 : Nat) (Option.none : Option Jvm.ClassFile.FieldType)) ∈ WS := WS_of 885 (by decide +kernel) (by decide +kernel)
theorem k_886 : (Jvm.Cond.methodLink "TrunkCellsModel" (216 : Nat) y_Md_in) ∈ WS := WS_of 886 (by decide +kernel) (by decide +kernel)
theorem k_887 : (Jvm.Cond.static y_Md_in) ∈ WS := WS_of 887 (by decide +kernel) (by decide +kernel)
theorem k_888 : (Jvm.Cond.code y_Md_in prog_10_method_29_code (2 : Nat) (Option.some Jvm.ClassFile.FieldType.boolean)) ∈ WS := WS_of 888 (by decide +kernel) (by decide +kernel)
theorem k_892 : (Jvm.Cond.code y_Md_group prog_10_method_31_code (3 : Nat) (Option.none : Option Jvm.ClassFile.FieldType)) ∈ WS := WS_of 892 (by decide +kernel) (by decide +kernel)
theorem k_896 : (Jvm.Cond.code y_Md_member prog_10_method_32_code (3 : Nat) (Option.none : Option Jvm.ClassFile.FieldType)) ∈ WS := WS_of 896 (by decide +kernel) (by decide +kernel)
theorem k_900 : (Jvm.Cond.code y_Md_move prog_10_method_33_code (3 : Nat) (Option.none : Option Jvm.ClassFile.FieldType)) ∈ WS := WS_of 900 (by decide +kernel) (by decide +kernel)
theorem k_901 : (Jvm.Cond.methodLink "TrunkCellsModel" (181 : Nat) y_Md_noMessage) ∈ WS := WS_of 901 (by decide +kernel) (by decide +kernel)
theorem k_903 : (Jvm.Cond.instanceMethod y_Md_noMessage) ∈ WS := WS_of 903 (by decide +kernel) (by decide +kernel)
theorem k_904 : (Jvm.Cond.code y_Md_noMessage prog_10_method_20_code (2 : Nat) (Option.none : Option Jvm.ClassFile.FieldType)) ∈ WS := WS_of 904 (by decide +kernel) (by decide +kernel)
theorem k_905 : (Jvm.Cond.methodLink "TrunkCellsModel" (184 : Nat) y_Md_idle) ∈ WS := WS_of 905 (by decide +kernel) (by decide +kernel)
theorem k_907 : (Jvm.Cond.instanceMethod y_Md_idle) ∈ WS := WS_of 907 (by decide +kernel) (by decide +kernel)
theorem k_908 : (Jvm.Cond.code y_Md_idle prog_10_method_21_code (2 : Nat) (Option.none : Option Jvm.ClassFile.FieldType)) ∈ WS := WS_of 908 (by decide +kernel) (by decide +kernel)
theorem k_912 : (Jvm.Cond.code y_Md_register prog_10_method_35_code (2 : Nat) (Option.none : Option Jvm.ClassFile.FieldType)) ∈ WS := WS_of 912 (by decide +kernel) (by decide +kernel)
theorem k_913 : (Jvm.Cond.methodLink "TrunkCellsModel" (220 : Nat) y_Md_begin) ∈ WS := WS_of 913 (by decide +kernel) (by decide +kernel)
theorem k_915 : (Jvm.Cond.instanceMethod y_Md_begin) ∈ WS := WS_of 915 (by decide +kernel) (by decide +kernel)
theorem k_916 : (Jvm.Cond.code y_Md_begin prog_10_method_34_code (5 : Nat) (Option.none : Option Jvm.ClassFile.FieldType)) ∈ WS := WS_of 916 (by decide +kernel) (by decide +kernel)
theorem k_920 : (Jvm.Cond.code y_Md_press prog_10_method_36_code (4 : Nat) (Option.none : Option Jvm.ClassFile.FieldType)) ∈ WS := WS_of 920 (by decide +kernel) (by decide +kernel)
theorem k_924 : (Jvm.Cond.code y_Md_release prog_10_method_37_code (2 : Nat) (Option.none : Option Jvm.ClassFile.FieldType)) ∈ WS := WS_of 924 (by decide +kernel) (by decide +kernel)
theorem k_928 : (Jvm.Cond.code y_Md_send prog_10_method_38_code (4 : Nat) (Option.none : Option Jvm.ClassFile.FieldType)) ∈ WS := WS_of 928 (by decide +kernel) (by decide +kernel)
theorem k_932 : (Jvm.Cond.code y_Md_speak prog_10_method_39_code (3 : Nat) (Option.none : Option Jvm.ClassFile.FieldType)) ∈ WS := WS_of 932 (by decide +kernel) (by decide +kernel)
theorem k_933 : (Jvm.Cond.constant "TrunkCellsModel" (205 : Nat) (524287 : Int32)) ∈ WS := WS_of 933 (by decide +kernel) (by decide +kernel)
theorem k_937 : (Jvm.Cond.code y_Md_draw prog_10_method_40_code (3 : Nat) (Option.none : Option Jvm.ClassFile.FieldType)) ∈ WS := WS_of 937 (by decide +kernel) (by decide +kernel)
theorem k_941 : (Jvm.Cond.code y_Md_fault prog_10_method_41_code (4 : Nat) (Option.none : Option Jvm.ClassFile.FieldType)) ∈ WS := WS_of 941 (by decide +kernel) (by decide +kernel)
theorem k_942 : (Jvm.Cond.constantLong "TrunkCellsModel" (224 : Nat) (18014398509481983 : Int64)) ∈ WS := WS_of 942 (by decide +kernel) (by decide +kernel)
theorem k_946 : (Jvm.Cond.code y_Md_tick prog_10_method_42_code (3 : Nat) (Option.some Jvm.ClassFile.FieldType.int)) ∈ WS := WS_of 946 (by decide +kernel) (by decide +kernel)
theorem k_947 : (Jvm.Cond.constant "TrunkCellsModel" (226 : Nat) (1000000000 : Int32)) ∈ WS := WS_of 947 (by decide +kernel) (by decide +kernel)
theorem k_948 : (Jvm.Cond.methodLink "TrunkCellsModel" (227 : Nat) y_Md_slot) ∈ WS := WS_of 948 (by decide +kernel) (by decide +kernel)
theorem k_950 : (Jvm.Cond.instanceMethod y_Md_slot) ∈ WS := WS_of 950 (by decide +kernel) (by decide +kernel)
theorem k_951 : (Jvm.Cond.code y_Md_slot prog_10_method_27_code (3 : Nat) (Option.none : Option Jvm.ClassFile.FieldType)) ∈ WS := WS_of 951 (by decide +kernel) (by decide +kernel)
theorem k_952 : (Jvm.Cond.methodLink "TrunkCellsModel" (210 : Nat) y_Md_controlSlot) ∈ WS := WS_of 952 (by decide +kernel) (by decide +kernel)
theorem k_954 : (Jvm.Cond.instanceMethod y_Md_controlSlot) ∈ WS := WS_of 954 (by decide +kernel) (by decide +kernel)
theorem k_955 : (Jvm.Cond.code y_Md_controlSlot prog_10_method_24_code (7 : Nat) (Option.none : Option Jvm.ClassFile.FieldType)) ∈ WS := WS_of 955 (by decide +kernel) (by decide +kernel)
theorem k_956 : (Jvm.Cond.methodLink "TrunkCellsModel" (187 : Nat) y_Md_message) ∈ WS := WS_of 956 (by decide +kernel) (by decide +kernel)
theorem k_958 : (Jvm.Cond.instanceMethod y_Md_message) ∈ WS := WS_of 958 (by decide +kernel) (by decide +kernel)
theorem k_959 : (Jvm.Cond.code y_Md_message prog_10_method_22_code (3 : Nat) (Option.some Jvm.ClassFile.FieldType.int)) ∈ WS := WS_of 959 (by decide +kernel) (by decide +kernel)
theorem k_960 : (Jvm.Cond.methodLink "TrunkCellsModel" (173 : Nat) y_Md_mix) ∈ WS := WS_of 960 (by decide +kernel) (by decide +kernel)
theorem k_961 : (Jvm.Cond.static y_Md_mix) ∈ WS := WS_of 961 (by decide +kernel) (by decide +kernel)
theorem k_962 : (Jvm.Cond.code y_Md_mix prog_10_method_3_code (4 : Nat) (Option.some Jvm.ClassFile.FieldType.int)) ∈ WS := WS_of 962 (by decide +kernel) (by decide +kernel)
theorem k_963 : (Jvm.Cond.constant "TrunkCellsModel" (125 : Nat) (1103515245 : Int32)) ∈ WS := WS_of 963 (by decide +kernel) (by decide +kernel)
theorem k_964 : (Jvm.Cond.constant "TrunkCellsModel" (126 : Nat) (8388607 : Int32)) ∈ WS := WS_of 964 (by decide +kernel) (by decide +kernel)
theorem k_965 : (Jvm.Cond.methodLink "TrunkCellsModel" (162 : Nat) y_Md_control) ∈ WS := WS_of 965 (by decide +kernel) (by decide +kernel)
theorem k_966 : (Jvm.Cond.static y_Md_control) ∈ WS := WS_of 966 (by decide +kernel) (by decide +kernel)
theorem k_967 : (Jvm.Cond.code y_Md_control prog_10_method_11_code (5 : Nat) (Option.some Jvm.ClassFile.FieldType.int)) ∈ WS := WS_of 967 (by decide +kernel) (by decide +kernel)
theorem k_968 : (Jvm.Cond.methodLink "TrunkCellsModel" (190 : Nat) y_Md_gets) ∈ WS := WS_of 968 (by decide +kernel) (by decide +kernel)
theorem k_970 : (Jvm.Cond.instanceMethod y_Md_gets) ∈ WS := WS_of 970 (by decide +kernel) (by decide +kernel)
theorem k_971 : (Jvm.Cond.code y_Md_gets prog_10_method_10_code (6 : Nat) (Option.some Jvm.ClassFile.FieldType.int)) ∈ WS := WS_of 971 (by decide +kernel) (by decide +kernel)
theorem k_972 : (Jvm.Cond.methodLink "TrunkCellsModel" (146 : Nat) y_Md_burstOf) ∈ WS := WS_of 972 (by decide +kernel) (by decide +kernel)
theorem k_973 : (Jvm.Cond.static y_Md_burstOf) ∈ WS := WS_of 973 (by decide +kernel) (by decide +kernel)
theorem k_974 : (Jvm.Cond.code y_Md_burstOf prog_10_method_6_code (12 : Nat) (Option.some Jvm.ClassFile.FieldType.long)) ∈ WS := WS_of 974 (by decide +kernel) (by decide +kernel)
theorem k_975 : (Jvm.Cond.methodLink "TrunkCellsModel" (127 : Nat) y_Md_check) ∈ WS := WS_of 975 (by decide +kernel) (by decide +kernel)
theorem k_976 : (Jvm.Cond.static y_Md_check) ∈ WS := WS_of 976 (by decide +kernel) (by decide +kernel)
theorem k_977 : (Jvm.Cond.code y_Md_check prog_10_method_2_code (4 : Nat) (Option.some Jvm.ClassFile.FieldType.int)) ∈ WS := WS_of 977 (by decide +kernel) (by decide +kernel)
theorem k_978 : (Jvm.Cond.methodLink "TrunkCellsModel" (131 : Nat) y_Md_turns) ∈ WS := WS_of 978 (by decide +kernel) (by decide +kernel)
theorem k_979 : (Jvm.Cond.static y_Md_turns) ∈ WS := WS_of 979 (by decide +kernel) (by decide +kernel)
theorem k_980 : (Jvm.Cond.code y_Md_turns prog_10_method_4_code (6 : Nat) (Option.some Jvm.ClassFile.FieldType.long)) ∈ WS := WS_of 980 (by decide +kernel) (by decide +kernel)
theorem k_981 : (Jvm.Cond.methodLink "TrunkCellsModel" (135 : Nat) y_Md_sentFor) ∈ WS := WS_of 981 (by decide +kernel) (by decide +kernel)
theorem k_982 : (Jvm.Cond.static y_Md_sentFor) ∈ WS := WS_of 982 (by decide +kernel) (by decide +kernel)
theorem k_983 : (Jvm.Cond.code y_Md_sentFor prog_10_method_5_code (7 : Nat) (Option.some Jvm.ClassFile.FieldType.int)) ∈ WS := WS_of 983 (by decide +kernel) (by decide +kernel)
theorem k_984 : (Jvm.Cond.methodLink "TrunkCellsModel" (150 : Nat) y_Md_blockOf) ∈ WS := WS_of 984 (by decide +kernel) (by decide +kernel)
theorem k_986 : (Jvm.Cond.instanceMethod y_Md_blockOf) ∈ WS := WS_of 986 (by decide +kernel) (by decide +kernel)
theorem k_987 : (Jvm.Cond.code y_Md_blockOf prog_10_method_9_code (5 : Nat) (Option.some Jvm.ClassFile.FieldType.int)) ∈ WS := WS_of 987 (by decide +kernel) (by decide +kernel)
theorem k_988 : (Jvm.Cond.methodLink "TrunkCellsModel" (142 : Nat) y_Md_nearest) ∈ WS := WS_of 988 (by decide +kernel) (by decide +kernel)
theorem k_990 : (Jvm.Cond.instanceMethod y_Md_nearest) ∈ WS := WS_of 990 (by decide +kernel) (by decide +kernel)
theorem k_991 : (Jvm.Cond.code y_Md_nearest prog_10_method_8_code (11 : Nat) (Option.none : Option Jvm.ClassFile.FieldType)) ∈ WS := WS_of 991 (by decide +kernel) (by decide +kernel)
theorem k_992 : (Jvm.Cond.methodLink "TrunkCellsModel" (139 : Nat) y_Md_misses) ∈ WS := WS_of 992 (by decide +kernel) (by decide +kernel)
theorem k_994 : (Jvm.Cond.instanceMethod y_Md_misses) ∈ WS := WS_of 994 (by decide +kernel) (by decide +kernel)
theorem k_995 : (Jvm.Cond.code y_Md_misses prog_10_method_7_code (6 : Nat) (Option.some Jvm.ClassFile.FieldType.int)) ∈ WS := WS_of 995 (by decide +kernel) (by decide +kernel)
theorem k_996 : (Jvm.Cond.methodLink "TrunkCellsModel" (193 : Nat) y_Md_sayFirst) ∈ WS := WS_of 996 (by decide +kernel) (by decide +kernel)
theorem k_998 : (Jvm.Cond.instanceMethod y_Md_sayFirst) ∈ WS := WS_of 998 (by decide +kernel) (by decide +kernel)
theorem k_999 : (Jvm.Cond.code y_Md_sayFirst prog_10_method_13_code (4 : Nat) (Option.none : Option Jvm.ClassFile.FieldType)) ∈ WS := WS_of 999 (by decide +kernel) (by decide +kernel)
theorem k_1000 : (Jvm.Cond.methodLink "TrunkCellsModel" (196 : Nat) y_Md_switched) ∈ WS := WS_of 1000 (by decide +kernel) (by decide +kernel)
theorem k_1002 : (Jvm.Cond.instanceMethod y_Md_switched) ∈ WS := WS_of 1002 (by decide +kernel) (by decide +kernel)
theorem k_1003 : (Jvm.Cond.code y_Md_switched prog_10_method_19_code (9 : Nat) (Option.none : Option Jvm.ClassFile.FieldType)) ∈ WS := WS_of 1003 (by decide +kernel) (by decide +kernel)
theorem k_1004 : (Jvm.Cond.methodLink "TrunkCellsModel" (177 : Nat) y_Md_requested) ∈ WS := WS_of 1004 (by decide +kernel) (by decide +kernel)
theorem k_1006 : (Jvm.Cond.instanceMethod y_Md_requested) ∈ WS := WS_of 1006 (by decide +kernel) (by decide +kernel)
theorem k_1007 : (Jvm.Cond.code y_Md_requested prog_10_method_18_code (6 : Nat) (Option.none : Option Jvm.ClassFile.FieldType)) ∈ WS := WS_of 1007 (by decide +kernel) (by decide +kernel)
theorem k_1008 : (Jvm.Cond.methodLink "TrunkCellsModel" (169 : Nat) y_Md_serve) ∈ WS := WS_of 1008 (by decide +kernel) (by decide +kernel)
theorem k_1010 : (Jvm.Cond.instanceMethod y_Md_serve) ∈ WS := WS_of 1010 (by decide +kernel) (by decide +kernel)
theorem k_1011 : (Jvm.Cond.code y_Md_serve prog_10_method_16_code (5 : Nat) (Option.none : Option Jvm.ClassFile.FieldType)) ∈ WS := WS_of 1011 (by decide +kernel) (by decide +kernel)
theorem k_1012 : (Jvm.Cond.methodLink "TrunkCellsModel" (158 : Nat) y_Md_freeChannel) ∈ WS := WS_of 1012 (by decide +kernel) (by decide +kernel)
theorem k_1014 : (Jvm.Cond.instanceMethod y_Md_freeChannel) ∈ WS := WS_of 1014 (by decide +kernel) (by decide +kernel)
theorem k_1015 : (Jvm.Cond.code y_Md_freeChannel prog_10_method_15_code (4 : Nat) (Option.some Jvm.ClassFile.FieldType.int)) ∈ WS := WS_of 1015 (by decide +kernel) (by decide +kernel)
theorem k_1016 : (Jvm.Cond.methodLink "TrunkCellsModel" (166 : Nat) y_Md_inMembersCells) ∈ WS := WS_of 1016 (by decide +kernel) (by decide +kernel)
theorem k_1018 : (Jvm.Cond.instanceMethod y_Md_inMembersCells) ∈ WS := WS_of 1018 (by decide +kernel) (by decide +kernel)
theorem k_1019 : (Jvm.Cond.code y_Md_inMembersCells prog_10_method_14_code (6 : Nat) (Option.none : Option Jvm.ClassFile.FieldType)) ∈ WS := WS_of 1019 (by decide +kernel) (by decide +kernel)
theorem k_1020 : (Jvm.Cond.methodLink "TrunkCellsModel" (154 : Nat) y_Md_toSay) ∈ WS := WS_of 1020 (by decide +kernel) (by decide +kernel)
theorem k_1022 : (Jvm.Cond.instanceMethod y_Md_toSay) ∈ WS := WS_of 1022 (by decide +kernel) (by decide +kernel)
theorem k_1023 : (Jvm.Cond.code y_Md_toSay prog_10_method_12_code (3 : Nat) (Option.none : Option Jvm.ClassFile.FieldType)) ∈ WS := WS_of 1023 (by decide +kernel) (by decide +kernel)
theorem k_1024 : (Jvm.Cond.methodLink "TrunkCellsModel" (199 : Nat) y_Md_told) ∈ WS := WS_of 1024 (by decide +kernel) (by decide +kernel)
theorem k_1026 : (Jvm.Cond.instanceMethod y_Md_told) ∈ WS := WS_of 1026 (by decide +kernel) (by decide +kernel)
theorem k_1027 : (Jvm.Cond.code y_Md_told prog_10_method_23_code (8 : Nat) (Option.none : Option Jvm.ClassFile.FieldType)) ∈ WS := WS_of 1027 (by decide +kernel) (by decide +kernel)
theorem k_1028 : (Jvm.Cond.methodLink "TrunkCellsModel" (202 : Nat) y_Md_again) ∈ WS := WS_of 1028 (by decide +kernel) (by decide +kernel)
theorem k_1030 : (Jvm.Cond.instanceMethod y_Md_again) ∈ WS := WS_of 1030 (by decide +kernel) (by decide +kernel)
theorem k_1031 : (Jvm.Cond.code y_Md_again prog_10_method_25_code (3 : Nat) (Option.none : Option Jvm.ClassFile.FieldType)) ∈ WS := WS_of 1031 (by decide +kernel) (by decide +kernel)
theorem k_1032 : (Jvm.Cond.methodLink "TrunkCellsModel" (213 : Nat) y_Md_trafficSlot) ∈ WS := WS_of 1032 (by decide +kernel) (by decide +kernel)
theorem k_1034 : (Jvm.Cond.instanceMethod y_Md_trafficSlot) ∈ WS := WS_of 1034 (by decide +kernel) (by decide +kernel)
theorem k_1035 : (Jvm.Cond.code y_Md_trafficSlot prog_10_method_26_code (9 : Nat) (Option.none : Option Jvm.ClassFile.FieldType)) ∈ WS := WS_of 1035 (by decide +kernel) (by decide +kernel)
theorem k_1036 : (Jvm.Cond.constant "TrunkCellsModel" (206 : Nat) (524288 : Int32)) ∈ WS := WS_of 1036 (by decide +kernel) (by decide +kernel)
theorem k_1037 : (Jvm.Cond.methodLink "TrunkCellsModel" (207 : Nat) y_Md_releaseCall) ∈ WS := WS_of 1037 (by decide +kernel) (by decide +kernel)
theorem k_1039 : (Jvm.Cond.instanceMethod y_Md_releaseCall) ∈ WS := WS_of 1039 (by decide +kernel) (by decide +kernel)
theorem k_1040 : (Jvm.Cond.code y_Md_releaseCall prog_10_method_17_code (4 : Nat) (Option.none : Option Jvm.ClassFile.FieldType)) ∈ WS := WS_of 1040 (by decide +kernel) (by decide +kernel)
theorem k_1044 : (Jvm.Cond.code y_Md_mobile prog_10_method_43_code (3 : Nat) (Option.some Jvm.ClassFile.FieldType.int)) ∈ WS := WS_of 1044 (by decide +kernel) (by decide +kernel)
theorem k_1048 : (Jvm.Cond.code y_Md_call prog_10_method_44_code (3 : Nat) (Option.some Jvm.ClassFile.FieldType.int)) ∈ WS := WS_of 1048 (by decide +kernel) (by decide +kernel)
theorem k_1052 : (Jvm.Cond.code y_Md_waiting prog_10_method_45_code (3 : Nat) (Option.some Jvm.ClassFile.FieldType.int)) ∈ WS := WS_of 1052 (by decide +kernel) (by decide +kernel)
theorem k_1056 : (Jvm.Cond.code y_Md_saying prog_10_method_46_code (3 : Nat) (Option.some Jvm.ClassFile.FieldType.int)) ∈ WS := WS_of 1056 (by decide +kernel) (by decide +kernel)
theorem k_1060 : (Jvm.Cond.code y_Md_coded prog_10_method_47_code (3 : Nat) (Option.some Jvm.ClassFile.FieldType.long)) ∈ WS := WS_of 1060 (by decide +kernel) (by decide +kernel)
theorem k_1061 : (Jvm.Cond.constant "TrunkCellsModel" (230 : Nat) (1048575 : Int32)) ∈ WS := WS_of 1061 (by decide +kernel) (by decide +kernel)
theorem k_1065 : (Jvm.Cond.code y_Md_decoded prog_10_method_48_code (4 : Nat) (Option.some Jvm.ClassFile.FieldType.int)) ∈ WS := WS_of 1065 (by decide +kernel) (by decide +kernel)
theorem k_1069 : (Jvm.Cond.code y_Md_distance prog_10_method_49_code (4 : Nat) (Option.some Jvm.ClassFile.FieldType.int)) ∈ WS := WS_of 1069 (by decide +kernel) (by decide +kernel)
theorem sel_Md_again : Cond.selects y_Md_again.cls y_Md_again y_Md_again ∈ WS := WS_priv (by decide +kernel) (by decide +kernel)
theorem sel_Md_begin : Cond.selects y_Md_begin.cls y_Md_begin y_Md_begin ∈ WS := WS_priv (by decide +kernel) (by decide +kernel)
theorem sel_Md_blockOf : Cond.selects y_Md_blockOf.cls y_Md_blockOf y_Md_blockOf ∈ WS := WS_priv (by decide +kernel) (by decide +kernel)
theorem sel_Md_controlSlot : Cond.selects y_Md_controlSlot.cls y_Md_controlSlot y_Md_controlSlot ∈ WS := WS_priv (by decide +kernel) (by decide +kernel)
theorem sel_Md_freeChannel : Cond.selects y_Md_freeChannel.cls y_Md_freeChannel y_Md_freeChannel ∈ WS := WS_priv (by decide +kernel) (by decide +kernel)
theorem sel_Md_gets : Cond.selects y_Md_gets.cls y_Md_gets y_Md_gets ∈ WS := WS_priv (by decide +kernel) (by decide +kernel)
theorem sel_Md_idle : Cond.selects y_Md_idle.cls y_Md_idle y_Md_idle ∈ WS := WS_priv (by decide +kernel) (by decide +kernel)
theorem sel_Md_inMembersCells : Cond.selects y_Md_inMembersCells.cls y_Md_inMembersCells y_Md_inMembersCells ∈ WS := WS_priv (by decide +kernel) (by decide +kernel)
theorem sel_Md_message : Cond.selects y_Md_message.cls y_Md_message y_Md_message ∈ WS := WS_priv (by decide +kernel) (by decide +kernel)
theorem sel_Md_misses : Cond.selects y_Md_misses.cls y_Md_misses y_Md_misses ∈ WS := WS_priv (by decide +kernel) (by decide +kernel)
theorem sel_Md_nearest : Cond.selects y_Md_nearest.cls y_Md_nearest y_Md_nearest ∈ WS := WS_priv (by decide +kernel) (by decide +kernel)
theorem sel_Md_noMessage : Cond.selects y_Md_noMessage.cls y_Md_noMessage y_Md_noMessage ∈ WS := WS_priv (by decide +kernel) (by decide +kernel)
theorem sel_Md_releaseCall : Cond.selects y_Md_releaseCall.cls y_Md_releaseCall y_Md_releaseCall ∈ WS := WS_priv (by decide +kernel) (by decide +kernel)
theorem sel_Md_requested : Cond.selects y_Md_requested.cls y_Md_requested y_Md_requested ∈ WS := WS_priv (by decide +kernel) (by decide +kernel)
theorem sel_Md_sayFirst : Cond.selects y_Md_sayFirst.cls y_Md_sayFirst y_Md_sayFirst ∈ WS := WS_priv (by decide +kernel) (by decide +kernel)
theorem sel_Md_serve : Cond.selects y_Md_serve.cls y_Md_serve y_Md_serve ∈ WS := WS_priv (by decide +kernel) (by decide +kernel)
theorem sel_Md_slot : Cond.selects y_Md_slot.cls y_Md_slot y_Md_slot ∈ WS := WS_priv (by decide +kernel) (by decide +kernel)
theorem sel_Md_switched : Cond.selects y_Md_switched.cls y_Md_switched y_Md_switched ∈ WS := WS_priv (by decide +kernel) (by decide +kernel)
theorem sel_Md_toSay : Cond.selects y_Md_toSay.cls y_Md_toSay y_Md_toSay ∈ WS := WS_priv (by decide +kernel) (by decide +kernel)
theorem sel_Md_told : Cond.selects y_Md_told.cls y_Md_told y_Md_told ∈ WS := WS_priv (by decide +kernel) (by decide +kernel)
theorem sel_Md_trafficSlot : Cond.selects y_Md_trafficSlot.cls y_Md_trafficSlot y_Md_trafficSlot ∈ WS := WS_priv (by decide +kernel) (by decide +kernel)
theorem q_Md_again : xCal y_Md_again b_Md_again 3 none 1 := ⟨k_1031, k_10, by decide +kernel, by decide +kernel, by decide +kernel⟩
theorem q_Md_begin : xCal y_Md_begin b_Md_begin 5 none 4 := ⟨k_916, k_10, by decide +kernel, by decide +kernel, by decide +kernel⟩
theorem q_Md_blockOf : xCal y_Md_blockOf b_Md_blockOf 5 (some .int) 2 := ⟨k_987, k_10, by decide +kernel, by decide +kernel, by decide +kernel⟩
theorem q_Md_burstOf : xCal y_Md_burstOf b_Md_burstOf 12 (some .long) 2 := ⟨k_974, k_10, by decide +kernel, by decide +kernel, by decide +kernel⟩
theorem q_Md_call : xCal y_Md_call b_Md_call 3 (some .int) 2 := ⟨k_1048, k_10, by decide +kernel, by decide +kernel, by decide +kernel⟩
theorem q_Md_check : xCal y_Md_check b_Md_check 4 (some .int) 1 := ⟨k_977, k_10, by decide +kernel, by decide +kernel, by decide +kernel⟩
theorem q_Md_coded : xCal y_Md_coded b_Md_coded 3 (some .long) 2 := ⟨k_1060, k_10, by decide +kernel, by decide +kernel, by decide +kernel⟩
theorem q_Md_control : xCal y_Md_control b_Md_control 5 (some .int) 5 := ⟨k_967, k_10, by decide +kernel, by decide +kernel, by decide +kernel⟩
theorem q_Md_controlSlot : xCal y_Md_controlSlot b_Md_controlSlot 7 none 1 := ⟨k_955, k_10, by decide +kernel, by decide +kernel, by decide +kernel⟩
theorem q_Md_decoded : xCal y_Md_decoded b_Md_decoded 4 (some .int) 2 := ⟨k_1065, k_10, by decide +kernel, by decide +kernel, by decide +kernel⟩
theorem q_Md_distance : xCal y_Md_distance b_Md_distance 4 (some .int) 2 := ⟨k_1069, k_10, by decide +kernel, by decide +kernel, by decide +kernel⟩
theorem q_Md_draw : xCal y_Md_draw b_Md_draw 3 none 2 := ⟨k_937, k_10, by decide +kernel, by decide +kernel, by decide +kernel⟩
theorem q_Md_fault : xCal y_Md_fault b_Md_fault 4 none 2 := ⟨k_941, k_10, by decide +kernel, by decide +kernel, by decide +kernel⟩
theorem q_Md_freeChannel : xCal y_Md_freeChannel b_Md_freeChannel 4 (some .int) 0 := ⟨k_1015, k_10, by decide +kernel, by decide +kernel, by decide +kernel⟩
theorem q_Md_gets : xCal y_Md_gets b_Md_gets 6 (some .int) 3 := ⟨k_971, k_10, by decide +kernel, by decide +kernel, by decide +kernel⟩
theorem q_Md_group : xCal y_Md_group b_Md_group 3 none 2 := ⟨k_892, k_10, by decide +kernel, by decide +kernel, by decide +kernel⟩
theorem q_Md_idle : xCal y_Md_idle b_Md_idle 2 none 1 := ⟨k_908, k_10, by decide +kernel, by decide +kernel, by decide +kernel⟩
theorem q_Md_in : xCal y_Md_in b_Md_in 2 (some .boolean) 2 := ⟨k_888, k_10, by decide +kernel, by decide +kernel, by decide +kernel⟩
theorem q_Md_inMembersCells : xCal y_Md_inMembersCells b_Md_inMembersCells 6 none 2 := ⟨k_1019, k_10, by decide +kernel, by decide +kernel, by decide +kernel⟩
theorem q_Md_keys : xCal y_Md_keys b_Md_keys 4 none 3 := ⟨k_885, k_10, by decide +kernel, by decide +kernel, by decide +kernel⟩
theorem q_Md_member : xCal y_Md_member b_Md_member 3 none 2 := ⟨k_896, k_10, by decide +kernel, by decide +kernel, by decide +kernel⟩
theorem q_Md_message : xCal y_Md_message b_Md_message 3 (some .int) 1 := ⟨k_959, k_10, by decide +kernel, by decide +kernel, by decide +kernel⟩
theorem q_Md_misses : xCal y_Md_misses b_Md_misses 6 (some .int) 3 := ⟨k_995, k_10, by decide +kernel, by decide +kernel, by decide +kernel⟩
theorem q_Md_mix : xCal y_Md_mix b_Md_mix 4 (some .int) 2 := ⟨k_962, k_10, by decide +kernel, by decide +kernel, by decide +kernel⟩
theorem q_Md_mobile : xCal y_Md_mobile b_Md_mobile 3 (some .int) 2 := ⟨k_1044, k_10, by decide +kernel, by decide +kernel, by decide +kernel⟩
theorem q_Md_move : xCal y_Md_move b_Md_move 3 none 2 := ⟨k_900, k_10, by decide +kernel, by decide +kernel, by decide +kernel⟩
theorem q_Md_nearest : xCal y_Md_nearest b_Md_nearest 11 none 2 := ⟨k_991, k_10, by decide +kernel, by decide +kernel, by decide +kernel⟩
theorem q_Md_noMessage : xCal y_Md_noMessage b_Md_noMessage 2 none 1 := ⟨k_904, k_10, by decide +kernel, by decide +kernel, by decide +kernel⟩
theorem q_Md_press : xCal y_Md_press b_Md_press 4 none 3 := ⟨k_920, k_10, by decide +kernel, by decide +kernel, by decide +kernel⟩
theorem q_Md_register : xCal y_Md_register b_Md_register 2 none 1 := ⟨k_912, k_10, by decide +kernel, by decide +kernel, by decide +kernel⟩
theorem q_Md_release : xCal y_Md_release b_Md_release 2 none 1 := ⟨k_924, k_10, by decide +kernel, by decide +kernel, by decide +kernel⟩
theorem q_Md_releaseCall : xCal y_Md_releaseCall b_Md_releaseCall 4 none 1 := ⟨k_1040, k_10, by decide +kernel, by decide +kernel, by decide +kernel⟩
theorem q_Md_requested : xCal y_Md_requested b_Md_requested 6 none 3 := ⟨k_1007, k_10, by decide +kernel, by decide +kernel, by decide +kernel⟩
theorem q_Md_sayFirst : xCal y_Md_sayFirst b_Md_sayFirst 4 none 2 := ⟨k_999, k_10, by decide +kernel, by decide +kernel, by decide +kernel⟩
theorem q_Md_saying : xCal y_Md_saying b_Md_saying 3 (some .int) 2 := ⟨k_1056, k_10, by decide +kernel, by decide +kernel, by decide +kernel⟩
theorem q_Md_send : xCal y_Md_send b_Md_send 4 none 3 := ⟨k_928, k_10, by decide +kernel, by decide +kernel, by decide +kernel⟩
theorem q_Md_sentFor : xCal y_Md_sentFor b_Md_sentFor 7 (some .int) 3 := ⟨k_983, k_10, by decide +kernel, by decide +kernel, by decide +kernel⟩
theorem q_Md_serve : xCal y_Md_serve b_Md_serve 5 none 1 := ⟨k_1011, k_10, by decide +kernel, by decide +kernel, by decide +kernel⟩
theorem q_Md_slot : xCal y_Md_slot b_Md_slot 3 none 0 := ⟨k_951, k_10, by decide +kernel, by decide +kernel, by decide +kernel⟩
theorem q_Md_speak : xCal y_Md_speak b_Md_speak 3 none 2 := ⟨k_932, k_10, by decide +kernel, by decide +kernel, by decide +kernel⟩
theorem q_Md_switched : xCal y_Md_switched b_Md_switched 9 none 2 := ⟨k_1003, k_10, by decide +kernel, by decide +kernel, by decide +kernel⟩
theorem q_Md_thrown : xCal y_Md_thrown b_Md_thrown 1 (some .int) 0 := ⟨k_881, k_10, by decide +kernel, by decide +kernel, by decide +kernel⟩
theorem q_Md_tick : xCal y_Md_tick b_Md_tick 3 (some .int) 1 := ⟨k_946, k_10, by decide +kernel, by decide +kernel, by decide +kernel⟩
theorem q_Md_toSay : xCal y_Md_toSay b_Md_toSay 3 none 2 := ⟨k_1023, k_10, by decide +kernel, by decide +kernel, by decide +kernel⟩
theorem q_Md_told : xCal y_Md_told b_Md_told 8 none 2 := ⟨k_1027, k_10, by decide +kernel, by decide +kernel, by decide +kernel⟩
theorem q_Md_trafficSlot : xCal y_Md_trafficSlot b_Md_trafficSlot 9 none 1 := ⟨k_1035, k_10, by decide +kernel, by decide +kernel, by decide +kernel⟩
theorem q_Md_turns : xCal y_Md_turns b_Md_turns 6 (some .long) 1 := ⟨k_980, k_10, by decide +kernel, by decide +kernel, by decide +kernel⟩
theorem q_Md_waiting : xCal y_Md_waiting b_Md_waiting 3 (some .int) 2 := ⟨k_1052, k_10, by decide +kernel, by decide +kernel, by decide +kernel⟩
section GF
variable {p : Program} {l : Launch} {e : Env} {R : Room} {s : State} {m : MethodId} {args : Array Value} {below : List Frame} {meth : Method} {c : Code} {H : Heap} {locs : List Loc} {Q : State → Prop}
variable {cc : ByteArray} {pc nL : Nat} {ls : Array Slot} {rest : List Value} {D : va_G} {sz : Nat} {Θ : Nat → Nat} {κ : Nat → ClassId} {I : SI} {J : SJ}
theorem gfM_Md_7 (C : xC p m c cc nL s args R_Md D clA (tysA κ) 34 Θ sz) (hP : va_P D clA (xw 34 Θ (eM Θ κ) I J) H) (hdg : decode cc pc = .ok (.getfield 7, 3)) (kk : W p l e R s m args below meth c H locs 0 0 Q (F0 m (pc + 3) ls (.int (I 0 0) :: rest))) : W p l e R s m args below meth c H locs 0 0 Q (F0 m pc ls (.ref (Θ 0) :: rest)) :=
  va_get (D := D) (ci := 7) (C := R_Md) (T := F_Md) (N := 37) C.1.1 C.1.2.1 C.1.2.2.2.2 in_Md C.1.2.2.2.1 C.2.1 hP 0 (xw_at (Nat.le_of_ble_eq_true rfl) (eM_Md _ _)) rfl 0 (by decide) (C.1.2.2.2.2 _ k_765) (fun _ h9 => h9) rfl hdg kk
theorem gfM_Md_13 (C : xC p m c cc nL s args R_Md D clA (tysA κ) 34 Θ sz) (hP : va_P D clA (xw 34 Θ (eM Θ κ) I J) H) (hdg : decode cc pc = .ok (.getfield 13, 3)) (kk : W p l e R s m args below meth c H locs 0 0 Q (F0 m (pc + 3) ls (.ref (Θ 1) :: rest))) : W p l e R s m args below meth c H locs 0 0 Q (F0 m pc ls (.ref (Θ 0) :: rest)) :=
  va_get (D := D) (ci := 7) (C := R_Md) (T := F_Md) (N := 37) C.1.1 C.1.2.1 C.1.2.2.2.2 in_Md C.1.2.2.2.1 C.2.1 hP 0 (xw_at (Nat.le_of_ble_eq_true rfl) (eM_Md _ _)) rfl 1 (by decide) (C.1.2.2.2.2 _ k_766) (fun _ h9 => h9) rfl hdg kk
theorem gfM_Md_17 (C : xC p m c cc nL s args R_Md D clA (tysA κ) 34 Θ sz) (hP : va_P D clA (xw 34 Θ (eM Θ κ) I J) H) (hdg : decode cc pc = .ok (.getfield 17, 3)) (kk : W p l e R s m args below meth c H locs 0 0 Q (F0 m (pc + 3) ls (.ref (Θ 2) :: rest))) : W p l e R s m args below meth c H locs 0 0 Q (F0 m pc ls (.ref (Θ 0) :: rest)) :=
  va_get (D := D) (ci := 7) (C := R_Md) (T := F_Md) (N := 37) C.1.1 C.1.2.1 C.1.2.2.2.2 in_Md C.1.2.2.2.1 C.2.1 hP 0 (xw_at (Nat.le_of_ble_eq_true rfl) (eM_Md _ _)) rfl 2 (by decide) (C.1.2.2.2.2 _ k_767) (fun _ h9 => h9) rfl hdg kk
theorem gfM_Md_20 (C : xC p m c cc nL s args R_Md D clA (tysA κ) 34 Θ sz) (hP : va_P D clA (xw 34 Θ (eM Θ κ) I J) H) (hdg : decode cc pc = .ok (.getfield 20, 3)) (kk : W p l e R s m args below meth c H locs 0 0 Q (F0 m (pc + 3) ls (.long (J 0 3) :: rest))) : W p l e R s m args below meth c H locs 0 0 Q (F0 m pc ls (.ref (Θ 0) :: rest)) :=
  va_get (D := D) (ci := 7) (C := R_Md) (T := F_Md) (N := 37) C.1.1 C.1.2.1 C.1.2.2.2.2 in_Md C.1.2.2.2.1 C.2.1 hP 0 (xw_at (Nat.le_of_ble_eq_true rfl) (eM_Md _ _)) rfl 3 (by decide) (C.1.2.2.2.2 _ k_768) (fun _ h9 => h9) rfl hdg kk
theorem gfM_Md_24 (C : xC p m c cc nL s args R_Md D clA (tysA κ) 34 Θ sz) (hP : va_P D clA (xw 34 Θ (eM Θ κ) I J) H) (hdg : decode cc pc = .ok (.getfield 24, 3)) (kk : W p l e R s m args below meth c H locs 0 0 Q (F0 m (pc + 3) ls (.int (I 0 4) :: rest))) : W p l e R s m args below meth c H locs 0 0 Q (F0 m pc ls (.ref (Θ 0) :: rest)) :=
  va_get (D := D) (ci := 7) (C := R_Md) (T := F_Md) (N := 37) C.1.1 C.1.2.1 C.1.2.2.2.2 in_Md C.1.2.2.2.1 C.2.1 hP 0 (xw_at (Nat.le_of_ble_eq_true rfl) (eM_Md _ _)) rfl 4 (by decide) (C.1.2.2.2.2 _ k_769) (fun _ h9 => h9) rfl hdg kk
theorem gfM_Md_27 (C : xC p m c cc nL s args R_Md D clA (tysA κ) 34 Θ sz) (hP : va_P D clA (xw 34 Θ (eM Θ κ) I J) H) (hdg : decode cc pc = .ok (.getfield 27, 3)) (kk : W p l e R s m args below meth c H locs 0 0 Q (F0 m (pc + 3) ls (.ref (Θ 3) :: rest))) : W p l e R s m args below meth c H locs 0 0 Q (F0 m pc ls (.ref (Θ 0) :: rest)) :=
  va_get (D := D) (ci := 7) (C := R_Md) (T := F_Md) (N := 37) C.1.1 C.1.2.1 C.1.2.2.2.2 in_Md C.1.2.2.2.1 C.2.1 hP 0 (xw_at (Nat.le_of_ble_eq_true rfl) (eM_Md _ _)) rfl 5 (by decide) (C.1.2.2.2.2 _ k_770) (fun _ h9 => h9) rfl hdg kk
theorem gfM_Md_30 (C : xC p m c cc nL s args R_Md D clA (tysA κ) 34 Θ sz) (hP : va_P D clA (xw 34 Θ (eM Θ κ) I J) H) (hdg : decode cc pc = .ok (.getfield 30, 3)) (kk : W p l e R s m args below meth c H locs 0 0 Q (F0 m (pc + 3) ls (.ref (Θ 4) :: rest))) : W p l e R s m args below meth c H locs 0 0 Q (F0 m pc ls (.ref (Θ 0) :: rest)) :=
  va_get (D := D) (ci := 7) (C := R_Md) (T := F_Md) (N := 37) C.1.1 C.1.2.1 C.1.2.2.2.2 in_Md C.1.2.2.2.1 C.2.1 hP 0 (xw_at (Nat.le_of_ble_eq_true rfl) (eM_Md _ _)) rfl 6 (by decide) (C.1.2.2.2.2 _ k_771) (fun _ h9 => h9) rfl hdg kk
theorem gfM_Md_33 (C : xC p m c cc nL s args R_Md D clA (tysA κ) 34 Θ sz) (hP : va_P D clA (xw 34 Θ (eM Θ κ) I J) H) (hdg : decode cc pc = .ok (.getfield 33, 3)) (kk : W p l e R s m args below meth c H locs 0 0 Q (F0 m (pc + 3) ls (.ref (Θ 5) :: rest))) : W p l e R s m args below meth c H locs 0 0 Q (F0 m pc ls (.ref (Θ 0) :: rest)) :=
  va_get (D := D) (ci := 7) (C := R_Md) (T := F_Md) (N := 37) C.1.1 C.1.2.1 C.1.2.2.2.2 in_Md C.1.2.2.2.1 C.2.1 hP 0 (xw_at (Nat.le_of_ble_eq_true rfl) (eM_Md _ _)) rfl 7 (by decide) (C.1.2.2.2.2 _ k_772) (fun _ h9 => h9) rfl hdg kk
theorem gfM_Md_36 (C : xC p m c cc nL s args R_Md D clA (tysA κ) 34 Θ sz) (hP : va_P D clA (xw 34 Θ (eM Θ κ) I J) H) (hdg : decode cc pc = .ok (.getfield 36, 3)) (kk : W p l e R s m args below meth c H locs 0 0 Q (F0 m (pc + 3) ls (.ref (Θ 6) :: rest))) : W p l e R s m args below meth c H locs 0 0 Q (F0 m pc ls (.ref (Θ 0) :: rest)) :=
  va_get (D := D) (ci := 7) (C := R_Md) (T := F_Md) (N := 37) C.1.1 C.1.2.1 C.1.2.2.2.2 in_Md C.1.2.2.2.1 C.2.1 hP 0 (xw_at (Nat.le_of_ble_eq_true rfl) (eM_Md _ _)) rfl 8 (by decide) (C.1.2.2.2.2 _ k_773) (fun _ h9 => h9) rfl hdg kk
theorem gfM_Md_39 (C : xC p m c cc nL s args R_Md D clA (tysA κ) 34 Θ sz) (hP : va_P D clA (xw 34 Θ (eM Θ κ) I J) H) (hdg : decode cc pc = .ok (.getfield 39, 3)) (kk : W p l e R s m args below meth c H locs 0 0 Q (F0 m (pc + 3) ls (.ref (Θ 7) :: rest))) : W p l e R s m args below meth c H locs 0 0 Q (F0 m pc ls (.ref (Θ 0) :: rest)) :=
  va_get (D := D) (ci := 7) (C := R_Md) (T := F_Md) (N := 37) C.1.1 C.1.2.1 C.1.2.2.2.2 in_Md C.1.2.2.2.1 C.2.1 hP 0 (xw_at (Nat.le_of_ble_eq_true rfl) (eM_Md _ _)) rfl 9 (by decide) (C.1.2.2.2.2 _ k_774) (fun _ h9 => h9) rfl hdg kk
theorem gfM_Md_42 (C : xC p m c cc nL s args R_Md D clA (tysA κ) 34 Θ sz) (hP : va_P D clA (xw 34 Θ (eM Θ κ) I J) H) (hdg : decode cc pc = .ok (.getfield 42, 3)) (kk : W p l e R s m args below meth c H locs 0 0 Q (F0 m (pc + 3) ls (.ref (Θ 8) :: rest))) : W p l e R s m args below meth c H locs 0 0 Q (F0 m pc ls (.ref (Θ 0) :: rest)) :=
  va_get (D := D) (ci := 7) (C := R_Md) (T := F_Md) (N := 37) C.1.1 C.1.2.1 C.1.2.2.2.2 in_Md C.1.2.2.2.1 C.2.1 hP 0 (xw_at (Nat.le_of_ble_eq_true rfl) (eM_Md _ _)) rfl 10 (by decide) (C.1.2.2.2.2 _ k_775) (fun _ h9 => h9) rfl hdg kk
theorem gfM_Md_45 (C : xC p m c cc nL s args R_Md D clA (tysA κ) 34 Θ sz) (hP : va_P D clA (xw 34 Θ (eM Θ κ) I J) H) (hdg : decode cc pc = .ok (.getfield 45, 3)) (kk : W p l e R s m args below meth c H locs 0 0 Q (F0 m (pc + 3) ls (.ref (Θ 9) :: rest))) : W p l e R s m args below meth c H locs 0 0 Q (F0 m pc ls (.ref (Θ 0) :: rest)) :=
  va_get (D := D) (ci := 7) (C := R_Md) (T := F_Md) (N := 37) C.1.1 C.1.2.1 C.1.2.2.2.2 in_Md C.1.2.2.2.1 C.2.1 hP 0 (xw_at (Nat.le_of_ble_eq_true rfl) (eM_Md _ _)) rfl 11 (by decide) (C.1.2.2.2.2 _ k_776) (fun _ h9 => h9) rfl hdg kk
theorem gfM_Md_48 (C : xC p m c cc nL s args R_Md D clA (tysA κ) 34 Θ sz) (hP : va_P D clA (xw 34 Θ (eM Θ κ) I J) H) (hdg : decode cc pc = .ok (.getfield 48, 3)) (kk : W p l e R s m args below meth c H locs 0 0 Q (F0 m (pc + 3) ls (.ref (Θ 10) :: rest))) : W p l e R s m args below meth c H locs 0 0 Q (F0 m pc ls (.ref (Θ 0) :: rest)) :=
  va_get (D := D) (ci := 7) (C := R_Md) (T := F_Md) (N := 37) C.1.1 C.1.2.1 C.1.2.2.2.2 in_Md C.1.2.2.2.1 C.2.1 hP 0 (xw_at (Nat.le_of_ble_eq_true rfl) (eM_Md _ _)) rfl 12 (by decide) (C.1.2.2.2.2 _ k_777) (fun _ h9 => h9) rfl hdg kk
theorem gfM_Md_51 (C : xC p m c cc nL s args R_Md D clA (tysA κ) 34 Θ sz) (hP : va_P D clA (xw 34 Θ (eM Θ κ) I J) H) (hdg : decode cc pc = .ok (.getfield 51, 3)) (kk : W p l e R s m args below meth c H locs 0 0 Q (F0 m (pc + 3) ls (.ref (Θ 11) :: rest))) : W p l e R s m args below meth c H locs 0 0 Q (F0 m pc ls (.ref (Θ 0) :: rest)) :=
  va_get (D := D) (ci := 7) (C := R_Md) (T := F_Md) (N := 37) C.1.1 C.1.2.1 C.1.2.2.2.2 in_Md C.1.2.2.2.1 C.2.1 hP 0 (xw_at (Nat.le_of_ble_eq_true rfl) (eM_Md _ _)) rfl 13 (by decide) (C.1.2.2.2.2 _ k_778) (fun _ h9 => h9) rfl hdg kk
theorem gfM_Md_54 (C : xC p m c cc nL s args R_Md D clA (tysA κ) 34 Θ sz) (hP : va_P D clA (xw 34 Θ (eM Θ κ) I J) H) (hdg : decode cc pc = .ok (.getfield 54, 3)) (kk : W p l e R s m args below meth c H locs 0 0 Q (F0 m (pc + 3) ls (.ref (Θ 12) :: rest))) : W p l e R s m args below meth c H locs 0 0 Q (F0 m pc ls (.ref (Θ 0) :: rest)) :=
  va_get (D := D) (ci := 7) (C := R_Md) (T := F_Md) (N := 37) C.1.1 C.1.2.1 C.1.2.2.2.2 in_Md C.1.2.2.2.1 C.2.1 hP 0 (xw_at (Nat.le_of_ble_eq_true rfl) (eM_Md _ _)) rfl 14 (by decide) (C.1.2.2.2.2 _ k_779) (fun _ h9 => h9) rfl hdg kk
theorem gfM_Md_58 (C : xC p m c cc nL s args R_Md D clA (tysA κ) 34 Θ sz) (hP : va_P D clA (xw 34 Θ (eM Θ κ) I J) H) (hdg : decode cc pc = .ok (.getfield 58, 3)) (kk : W p l e R s m args below meth c H locs 0 0 Q (F0 m (pc + 3) ls (.ref (Θ 13) :: rest))) : W p l e R s m args below meth c H locs 0 0 Q (F0 m pc ls (.ref (Θ 0) :: rest)) :=
  va_get (D := D) (ci := 7) (C := R_Md) (T := F_Md) (N := 37) C.1.1 C.1.2.1 C.1.2.2.2.2 in_Md C.1.2.2.2.1 C.2.1 hP 0 (xw_at (Nat.le_of_ble_eq_true rfl) (eM_Md _ _)) rfl 15 (by decide) (C.1.2.2.2.2 _ k_780) (fun _ h9 => h9) rfl hdg kk
theorem gfM_Md_61 (C : xC p m c cc nL s args R_Md D clA (tysA κ) 34 Θ sz) (hP : va_P D clA (xw 34 Θ (eM Θ κ) I J) H) (hdg : decode cc pc = .ok (.getfield 61, 3)) (kk : W p l e R s m args below meth c H locs 0 0 Q (F0 m (pc + 3) ls (.ref (Θ 14) :: rest))) : W p l e R s m args below meth c H locs 0 0 Q (F0 m pc ls (.ref (Θ 0) :: rest)) :=
  va_get (D := D) (ci := 7) (C := R_Md) (T := F_Md) (N := 37) C.1.1 C.1.2.1 C.1.2.2.2.2 in_Md C.1.2.2.2.1 C.2.1 hP 0 (xw_at (Nat.le_of_ble_eq_true rfl) (eM_Md _ _)) rfl 16 (by decide) (C.1.2.2.2.2 _ k_781) (fun _ h9 => h9) rfl hdg kk
theorem gfM_Md_64 (C : xC p m c cc nL s args R_Md D clA (tysA κ) 34 Θ sz) (hP : va_P D clA (xw 34 Θ (eM Θ κ) I J) H) (hdg : decode cc pc = .ok (.getfield 64, 3)) (kk : W p l e R s m args below meth c H locs 0 0 Q (F0 m (pc + 3) ls (.ref (Θ 15) :: rest))) : W p l e R s m args below meth c H locs 0 0 Q (F0 m pc ls (.ref (Θ 0) :: rest)) :=
  va_get (D := D) (ci := 7) (C := R_Md) (T := F_Md) (N := 37) C.1.1 C.1.2.1 C.1.2.2.2.2 in_Md C.1.2.2.2.1 C.2.1 hP 0 (xw_at (Nat.le_of_ble_eq_true rfl) (eM_Md _ _)) rfl 17 (by decide) (C.1.2.2.2.2 _ k_782) (fun _ h9 => h9) rfl hdg kk
theorem gfM_Md_67 (C : xC p m c cc nL s args R_Md D clA (tysA κ) 34 Θ sz) (hP : va_P D clA (xw 34 Θ (eM Θ κ) I J) H) (hdg : decode cc pc = .ok (.getfield 67, 3)) (kk : W p l e R s m args below meth c H locs 0 0 Q (F0 m (pc + 3) ls (.ref (Θ 16) :: rest))) : W p l e R s m args below meth c H locs 0 0 Q (F0 m pc ls (.ref (Θ 0) :: rest)) :=
  va_get (D := D) (ci := 7) (C := R_Md) (T := F_Md) (N := 37) C.1.1 C.1.2.1 C.1.2.2.2.2 in_Md C.1.2.2.2.1 C.2.1 hP 0 (xw_at (Nat.le_of_ble_eq_true rfl) (eM_Md _ _)) rfl 18 (by decide) (C.1.2.2.2.2 _ k_783) (fun _ h9 => h9) rfl hdg kk
theorem gfM_Md_70 (C : xC p m c cc nL s args R_Md D clA (tysA κ) 34 Θ sz) (hP : va_P D clA (xw 34 Θ (eM Θ κ) I J) H) (hdg : decode cc pc = .ok (.getfield 70, 3)) (kk : W p l e R s m args below meth c H locs 0 0 Q (F0 m (pc + 3) ls (.ref (Θ 17) :: rest))) : W p l e R s m args below meth c H locs 0 0 Q (F0 m pc ls (.ref (Θ 0) :: rest)) :=
  va_get (D := D) (ci := 7) (C := R_Md) (T := F_Md) (N := 37) C.1.1 C.1.2.1 C.1.2.2.2.2 in_Md C.1.2.2.2.1 C.2.1 hP 0 (xw_at (Nat.le_of_ble_eq_true rfl) (eM_Md _ _)) rfl 19 (by decide) (C.1.2.2.2.2 _ k_784) (fun _ h9 => h9) rfl hdg kk
theorem gfM_Md_73 (C : xC p m c cc nL s args R_Md D clA (tysA κ) 34 Θ sz) (hP : va_P D clA (xw 34 Θ (eM Θ κ) I J) H) (hdg : decode cc pc = .ok (.getfield 73, 3)) (kk : W p l e R s m args below meth c H locs 0 0 Q (F0 m (pc + 3) ls (.ref (Θ 18) :: rest))) : W p l e R s m args below meth c H locs 0 0 Q (F0 m pc ls (.ref (Θ 0) :: rest)) :=
  va_get (D := D) (ci := 7) (C := R_Md) (T := F_Md) (N := 37) C.1.1 C.1.2.1 C.1.2.2.2.2 in_Md C.1.2.2.2.1 C.2.1 hP 0 (xw_at (Nat.le_of_ble_eq_true rfl) (eM_Md _ _)) rfl 20 (by decide) (C.1.2.2.2.2 _ k_785) (fun _ h9 => h9) rfl hdg kk
theorem gfM_Md_76 (C : xC p m c cc nL s args R_Md D clA (tysA κ) 34 Θ sz) (hP : va_P D clA (xw 34 Θ (eM Θ κ) I J) H) (hdg : decode cc pc = .ok (.getfield 76, 3)) (kk : W p l e R s m args below meth c H locs 0 0 Q (F0 m (pc + 3) ls (.ref (Θ 19) :: rest))) : W p l e R s m args below meth c H locs 0 0 Q (F0 m pc ls (.ref (Θ 0) :: rest)) :=
  va_get (D := D) (ci := 7) (C := R_Md) (T := F_Md) (N := 37) C.1.1 C.1.2.1 C.1.2.2.2.2 in_Md C.1.2.2.2.1 C.2.1 hP 0 (xw_at (Nat.le_of_ble_eq_true rfl) (eM_Md _ _)) rfl 21 (by decide) (C.1.2.2.2.2 _ k_786) (fun _ h9 => h9) rfl hdg kk
theorem gfM_Md_79 (C : xC p m c cc nL s args R_Md D clA (tysA κ) 34 Θ sz) (hP : va_P D clA (xw 34 Θ (eM Θ κ) I J) H) (hdg : decode cc pc = .ok (.getfield 79, 3)) (kk : W p l e R s m args below meth c H locs 0 0 Q (F0 m (pc + 3) ls (.ref (Θ 20) :: rest))) : W p l e R s m args below meth c H locs 0 0 Q (F0 m pc ls (.ref (Θ 0) :: rest)) :=
  va_get (D := D) (ci := 7) (C := R_Md) (T := F_Md) (N := 37) C.1.1 C.1.2.1 C.1.2.2.2.2 in_Md C.1.2.2.2.1 C.2.1 hP 0 (xw_at (Nat.le_of_ble_eq_true rfl) (eM_Md _ _)) rfl 22 (by decide) (C.1.2.2.2.2 _ k_787) (fun _ h9 => h9) rfl hdg kk
theorem gfM_Md_82 (C : xC p m c cc nL s args R_Md D clA (tysA κ) 34 Θ sz) (hP : va_P D clA (xw 34 Θ (eM Θ κ) I J) H) (hdg : decode cc pc = .ok (.getfield 82, 3)) (kk : W p l e R s m args below meth c H locs 0 0 Q (F0 m (pc + 3) ls (.ref (Θ 21) :: rest))) : W p l e R s m args below meth c H locs 0 0 Q (F0 m pc ls (.ref (Θ 0) :: rest)) :=
  va_get (D := D) (ci := 7) (C := R_Md) (T := F_Md) (N := 37) C.1.1 C.1.2.1 C.1.2.2.2.2 in_Md C.1.2.2.2.1 C.2.1 hP 0 (xw_at (Nat.le_of_ble_eq_true rfl) (eM_Md _ _)) rfl 23 (by decide) (C.1.2.2.2.2 _ k_788) (fun _ h9 => h9) rfl hdg kk
theorem gfM_Md_85 (C : xC p m c cc nL s args R_Md D clA (tysA κ) 34 Θ sz) (hP : va_P D clA (xw 34 Θ (eM Θ κ) I J) H) (hdg : decode cc pc = .ok (.getfield 85, 3)) (kk : W p l e R s m args below meth c H locs 0 0 Q (F0 m (pc + 3) ls (.ref (Θ 22) :: rest))) : W p l e R s m args below meth c H locs 0 0 Q (F0 m pc ls (.ref (Θ 0) :: rest)) :=
  va_get (D := D) (ci := 7) (C := R_Md) (T := F_Md) (N := 37) C.1.1 C.1.2.1 C.1.2.2.2.2 in_Md C.1.2.2.2.1 C.2.1 hP 0 (xw_at (Nat.le_of_ble_eq_true rfl) (eM_Md _ _)) rfl 24 (by decide) (C.1.2.2.2.2 _ k_789) (fun _ h9 => h9) rfl hdg kk
theorem gfM_Md_88 (C : xC p m c cc nL s args R_Md D clA (tysA κ) 34 Θ sz) (hP : va_P D clA (xw 34 Θ (eM Θ κ) I J) H) (hdg : decode cc pc = .ok (.getfield 88, 3)) (kk : W p l e R s m args below meth c H locs 0 0 Q (F0 m (pc + 3) ls (.ref (Θ 23) :: rest))) : W p l e R s m args below meth c H locs 0 0 Q (F0 m pc ls (.ref (Θ 0) :: rest)) :=
  va_get (D := D) (ci := 7) (C := R_Md) (T := F_Md) (N := 37) C.1.1 C.1.2.1 C.1.2.2.2.2 in_Md C.1.2.2.2.1 C.2.1 hP 0 (xw_at (Nat.le_of_ble_eq_true rfl) (eM_Md _ _)) rfl 25 (by decide) (C.1.2.2.2.2 _ k_790) (fun _ h9 => h9) rfl hdg kk
theorem gfM_Md_91 (C : xC p m c cc nL s args R_Md D clA (tysA κ) 34 Θ sz) (hP : va_P D clA (xw 34 Θ (eM Θ κ) I J) H) (hdg : decode cc pc = .ok (.getfield 91, 3)) (kk : W p l e R s m args below meth c H locs 0 0 Q (F0 m (pc + 3) ls (.ref (Θ 24) :: rest))) : W p l e R s m args below meth c H locs 0 0 Q (F0 m pc ls (.ref (Θ 0) :: rest)) :=
  va_get (D := D) (ci := 7) (C := R_Md) (T := F_Md) (N := 37) C.1.1 C.1.2.1 C.1.2.2.2.2 in_Md C.1.2.2.2.1 C.2.1 hP 0 (xw_at (Nat.le_of_ble_eq_true rfl) (eM_Md _ _)) rfl 26 (by decide) (C.1.2.2.2.2 _ k_791) (fun _ h9 => h9) rfl hdg kk
theorem gfM_Md_94 (C : xC p m c cc nL s args R_Md D clA (tysA κ) 34 Θ sz) (hP : va_P D clA (xw 34 Θ (eM Θ κ) I J) H) (hdg : decode cc pc = .ok (.getfield 94, 3)) (kk : W p l e R s m args below meth c H locs 0 0 Q (F0 m (pc + 3) ls (.ref (Θ 25) :: rest))) : W p l e R s m args below meth c H locs 0 0 Q (F0 m pc ls (.ref (Θ 0) :: rest)) :=
  va_get (D := D) (ci := 7) (C := R_Md) (T := F_Md) (N := 37) C.1.1 C.1.2.1 C.1.2.2.2.2 in_Md C.1.2.2.2.1 C.2.1 hP 0 (xw_at (Nat.le_of_ble_eq_true rfl) (eM_Md _ _)) rfl 27 (by decide) (C.1.2.2.2.2 _ k_792) (fun _ h9 => h9) rfl hdg kk
theorem gfM_Md_98 (C : xC p m c cc nL s args R_Md D clA (tysA κ) 34 Θ sz) (hP : va_P D clA (xw 34 Θ (eM Θ κ) I J) H) (hdg : decode cc pc = .ok (.getfield 98, 3)) (kk : W p l e R s m args below meth c H locs 0 0 Q (F0 m (pc + 3) ls (.ref (Θ 26) :: rest))) : W p l e R s m args below meth c H locs 0 0 Q (F0 m pc ls (.ref (Θ 0) :: rest)) :=
  va_get (D := D) (ci := 7) (C := R_Md) (T := F_Md) (N := 37) C.1.1 C.1.2.1 C.1.2.2.2.2 in_Md C.1.2.2.2.1 C.2.1 hP 0 (xw_at (Nat.le_of_ble_eq_true rfl) (eM_Md _ _)) rfl 28 (by decide) (C.1.2.2.2.2 _ k_793) (fun _ h9 => h9) rfl hdg kk
theorem gfM_Md_101 (C : xC p m c cc nL s args R_Md D clA (tysA κ) 34 Θ sz) (hP : va_P D clA (xw 34 Θ (eM Θ κ) I J) H) (hdg : decode cc pc = .ok (.getfield 101, 3)) (kk : W p l e R s m args below meth c H locs 0 0 Q (F0 m (pc + 3) ls (.ref (Θ 27) :: rest))) : W p l e R s m args below meth c H locs 0 0 Q (F0 m pc ls (.ref (Θ 0) :: rest)) :=
  va_get (D := D) (ci := 7) (C := R_Md) (T := F_Md) (N := 37) C.1.1 C.1.2.1 C.1.2.2.2.2 in_Md C.1.2.2.2.1 C.2.1 hP 0 (xw_at (Nat.le_of_ble_eq_true rfl) (eM_Md _ _)) rfl 29 (by decide) (C.1.2.2.2.2 _ k_794) (fun _ h9 => h9) rfl hdg kk
theorem gfM_Md_104 (C : xC p m c cc nL s args R_Md D clA (tysA κ) 34 Θ sz) (hP : va_P D clA (xw 34 Θ (eM Θ κ) I J) H) (hdg : decode cc pc = .ok (.getfield 104, 3)) (kk : W p l e R s m args below meth c H locs 0 0 Q (F0 m (pc + 3) ls (.ref (Θ 28) :: rest))) : W p l e R s m args below meth c H locs 0 0 Q (F0 m pc ls (.ref (Θ 0) :: rest)) :=
  va_get (D := D) (ci := 7) (C := R_Md) (T := F_Md) (N := 37) C.1.1 C.1.2.1 C.1.2.2.2.2 in_Md C.1.2.2.2.1 C.2.1 hP 0 (xw_at (Nat.le_of_ble_eq_true rfl) (eM_Md _ _)) rfl 30 (by decide) (C.1.2.2.2.2 _ k_795) (fun _ h9 => h9) rfl hdg kk
theorem gfM_Md_107 (C : xC p m c cc nL s args R_Md D clA (tysA κ) 34 Θ sz) (hP : va_P D clA (xw 34 Θ (eM Θ κ) I J) H) (hdg : decode cc pc = .ok (.getfield 107, 3)) (kk : W p l e R s m args below meth c H locs 0 0 Q (F0 m (pc + 3) ls (.ref (Θ 29) :: rest))) : W p l e R s m args below meth c H locs 0 0 Q (F0 m pc ls (.ref (Θ 0) :: rest)) :=
  va_get (D := D) (ci := 7) (C := R_Md) (T := F_Md) (N := 37) C.1.1 C.1.2.1 C.1.2.2.2.2 in_Md C.1.2.2.2.1 C.2.1 hP 0 (xw_at (Nat.le_of_ble_eq_true rfl) (eM_Md _ _)) rfl 31 (by decide) (C.1.2.2.2.2 _ k_796) (fun _ h9 => h9) rfl hdg kk
theorem gfM_Md_110 (C : xC p m c cc nL s args R_Md D clA (tysA κ) 34 Θ sz) (hP : va_P D clA (xw 34 Θ (eM Θ κ) I J) H) (hdg : decode cc pc = .ok (.getfield 110, 3)) (kk : W p l e R s m args below meth c H locs 0 0 Q (F0 m (pc + 3) ls (.ref (Θ 30) :: rest))) : W p l e R s m args below meth c H locs 0 0 Q (F0 m pc ls (.ref (Θ 0) :: rest)) :=
  va_get (D := D) (ci := 7) (C := R_Md) (T := F_Md) (N := 37) C.1.1 C.1.2.1 C.1.2.2.2.2 in_Md C.1.2.2.2.1 C.2.1 hP 0 (xw_at (Nat.le_of_ble_eq_true rfl) (eM_Md _ _)) rfl 32 (by decide) (C.1.2.2.2.2 _ k_797) (fun _ h9 => h9) rfl hdg kk
theorem gfM_Md_113 (C : xC p m c cc nL s args R_Md D clA (tysA κ) 34 Θ sz) (hP : va_P D clA (xw 34 Θ (eM Θ κ) I J) H) (hdg : decode cc pc = .ok (.getfield 113, 3)) (kk : W p l e R s m args below meth c H locs 0 0 Q (F0 m (pc + 3) ls (.ref (Θ 31) :: rest))) : W p l e R s m args below meth c H locs 0 0 Q (F0 m pc ls (.ref (Θ 0) :: rest)) :=
  va_get (D := D) (ci := 7) (C := R_Md) (T := F_Md) (N := 37) C.1.1 C.1.2.1 C.1.2.2.2.2 in_Md C.1.2.2.2.1 C.2.1 hP 0 (xw_at (Nat.le_of_ble_eq_true rfl) (eM_Md _ _)) rfl 33 (by decide) (C.1.2.2.2.2 _ k_798) (fun _ h9 => h9) rfl hdg kk
theorem gfM_Md_116 (C : xC p m c cc nL s args R_Md D clA (tysA κ) 34 Θ sz) (hP : va_P D clA (xw 34 Θ (eM Θ κ) I J) H) (hdg : decode cc pc = .ok (.getfield 116, 3)) (kk : W p l e R s m args below meth c H locs 0 0 Q (F0 m (pc + 3) ls (.ref (Θ 32) :: rest))) : W p l e R s m args below meth c H locs 0 0 Q (F0 m pc ls (.ref (Θ 0) :: rest)) :=
  va_get (D := D) (ci := 7) (C := R_Md) (T := F_Md) (N := 37) C.1.1 C.1.2.1 C.1.2.2.2.2 in_Md C.1.2.2.2.1 C.2.1 hP 0 (xw_at (Nat.le_of_ble_eq_true rfl) (eM_Md _ _)) rfl 34 (by decide) (C.1.2.2.2.2 _ k_799) (fun _ h9 => h9) rfl hdg kk
theorem gfM_Md_119 (C : xC p m c cc nL s args R_Md D clA (tysA κ) 34 Θ sz) (hP : va_P D clA (xw 34 Θ (eM Θ κ) I J) H) (hdg : decode cc pc = .ok (.getfield 119, 3)) (kk : W p l e R s m args below meth c H locs 0 0 Q (F0 m (pc + 3) ls (.ref (Θ 33) :: rest))) : W p l e R s m args below meth c H locs 0 0 Q (F0 m pc ls (.ref (Θ 0) :: rest)) :=
  va_get (D := D) (ci := 7) (C := R_Md) (T := F_Md) (N := 37) C.1.1 C.1.2.1 C.1.2.2.2.2 in_Md C.1.2.2.2.1 C.2.1 hP 0 (xw_at (Nat.le_of_ble_eq_true rfl) (eM_Md _ _)) rfl 35 (by decide) (C.1.2.2.2.2 _ k_800) (fun _ h9 => h9) rfl hdg kk
theorem gfM_Md_122 (C : xC p m c cc nL s args R_Md D clA (tysA κ) 34 Θ sz) (hP : va_P D clA (xw 34 Θ (eM Θ κ) I J) H) (hdg : decode cc pc = .ok (.getfield 122, 3)) (kk : W p l e R s m args below meth c H locs 0 0 Q (F0 m (pc + 3) ls (.int (I 0 36) :: rest))) : W p l e R s m args below meth c H locs 0 0 Q (F0 m pc ls (.ref (Θ 0) :: rest)) :=
  va_get (D := D) (ci := 7) (C := R_Md) (T := F_Md) (N := 37) C.1.1 C.1.2.1 C.1.2.2.2.2 in_Md C.1.2.2.2.1 C.2.1 hP 0 (xw_at (Nat.le_of_ble_eq_true rfl) (eM_Md _ _)) rfl 36 (by decide) (C.1.2.2.2.2 _ k_801) (fun _ h9 => h9) rfl hdg kk
theorem pfM_Md_7 (C : xC p m c cc nL s args R_Md D clA (tysA κ) 34 Θ sz) (hΘ : xJ 34 Θ) (hP : va_P D clA (xw 34 Θ (eM Θ κ) I J) H) (hS : va_S (xA 34 Θ sz) s.heap H locs) {v : Int32} (hdg : decode cc pc = .ok (.putfield 7, 3)) (kk : ∀ (H1 : Heap) (locs1 : List Loc), va_P D clA (xw 34 Θ (eM Θ κ) (xu I 0 0 v) J) H1 → va_S (xA 34 Θ sz) s.heap H1 locs1 → W p l e R s m args below meth c H1 locs1 0 0 Q (F0 m (pc + 3) ls rest)) : W p l e R s m args below meth c H locs 0 0 Q (F0 m pc ls (.int v :: .ref (Θ 0) :: rest)) := by
  refine va_put (D := D) (ci := 7) (v := .int v) (ty := .int) (C := R_Md) (T := F_Md) (N := 37) C.1.1 C.1.2.1 C.1.2.2.2.2 in_Md t_Md t_Md_ok n_Md C.1.2.2.2.1 C.2.1 hP (xw_D hΘ) hS 0 (xw_at (Nat.le_of_ble_eq_true rfl) (eM_Md _ _)) rfl 0 (by decide) (C.1.2.2.2.2 _ k_765) (fun _ h9 => h9) rfl (by decide +kernel) rfl rfl (Nat.le_of_ble_eq_true rfl) hdg (fun H1 locs1 h1 _ h3 => kk H1 locs1 ?_ h3)
  rw [xw_set (I' := xu I 0 0 v) (J' := J) (Nat.le_of_ble_eq_true rfl) (fun a ha => xu_o I 0 v ha) (fun _ _ => rfl) (by rw [eM_Md]; unfold xu; rw [xr_s]; rfl)] at h1
  exact h1
theorem pfM_Md_20 (C : xC p m c cc nL s args R_Md D clA (tysA κ) 34 Θ sz) (hΘ : xJ 34 Θ) (hP : va_P D clA (xw 34 Θ (eM Θ κ) I J) H) (hS : va_S (xA 34 Θ sz) s.heap H locs) {v : Int64} (hdg : decode cc pc = .ok (.putfield 20, 3)) (kk : ∀ (H1 : Heap) (locs1 : List Loc), va_P D clA (xw 34 Θ (eM Θ κ) I (xv J 0 3 v)) H1 → va_S (xA 34 Θ sz) s.heap H1 locs1 → W p l e R s m args below meth c H1 locs1 0 0 Q (F0 m (pc + 3) ls rest)) : W p l e R s m args below meth c H locs 0 0 Q (F0 m pc ls (.long v :: .ref (Θ 0) :: rest)) := by
  refine va_put (D := D) (ci := 7) (v := .long v) (ty := .long) (C := R_Md) (T := F_Md) (N := 37) C.1.1 C.1.2.1 C.1.2.2.2.2 in_Md t_Md t_Md_ok n_Md C.1.2.2.2.1 C.2.1 hP (xw_D hΘ) hS 0 (xw_at (Nat.le_of_ble_eq_true rfl) (eM_Md _ _)) rfl 3 (by decide) (C.1.2.2.2.2 _ k_768) (fun _ h9 => h9) rfl (by decide +kernel) rfl rfl (Nat.le_of_ble_eq_true rfl) hdg (fun H1 locs1 h1 _ h3 => kk H1 locs1 ?_ h3)
  rw [xw_set (I' := I) (J' := xv J 0 3 v) (Nat.le_of_ble_eq_true rfl) (fun _ _ => rfl) (fun a ha => xv_o J 3 v ha) (by rw [eM_Md]; unfold xv; rw [xr_s]; rfl)] at h1
  exact h1
theorem pfM_Md_24 (C : xC p m c cc nL s args R_Md D clA (tysA κ) 34 Θ sz) (hΘ : xJ 34 Θ) (hP : va_P D clA (xw 34 Θ (eM Θ κ) I J) H) (hS : va_S (xA 34 Θ sz) s.heap H locs) {v : Int32} (hdg : decode cc pc = .ok (.putfield 24, 3)) (kk : ∀ (H1 : Heap) (locs1 : List Loc), va_P D clA (xw 34 Θ (eM Θ κ) (xu I 0 4 v) J) H1 → va_S (xA 34 Θ sz) s.heap H1 locs1 → W p l e R s m args below meth c H1 locs1 0 0 Q (F0 m (pc + 3) ls rest)) : W p l e R s m args below meth c H locs 0 0 Q (F0 m pc ls (.int v :: .ref (Θ 0) :: rest)) := by
  refine va_put (D := D) (ci := 7) (v := .int v) (ty := .int) (C := R_Md) (T := F_Md) (N := 37) C.1.1 C.1.2.1 C.1.2.2.2.2 in_Md t_Md t_Md_ok n_Md C.1.2.2.2.1 C.2.1 hP (xw_D hΘ) hS 0 (xw_at (Nat.le_of_ble_eq_true rfl) (eM_Md _ _)) rfl 4 (by decide) (C.1.2.2.2.2 _ k_769) (fun _ h9 => h9) rfl (by decide +kernel) rfl rfl (Nat.le_of_ble_eq_true rfl) hdg (fun H1 locs1 h1 _ h3 => kk H1 locs1 ?_ h3)
  rw [xw_set (I' := xu I 0 4 v) (J' := J) (Nat.le_of_ble_eq_true rfl) (fun a ha => xu_o I 4 v ha) (fun _ _ => rfl) (by rw [eM_Md]; unfold xu; rw [xr_s]; rfl)] at h1
  exact h1
theorem pfM_Md_122 (C : xC p m c cc nL s args R_Md D clA (tysA κ) 34 Θ sz) (hΘ : xJ 34 Θ) (hP : va_P D clA (xw 34 Θ (eM Θ κ) I J) H) (hS : va_S (xA 34 Θ sz) s.heap H locs) {v : Int32} (hdg : decode cc pc = .ok (.putfield 122, 3)) (kk : ∀ (H1 : Heap) (locs1 : List Loc), va_P D clA (xw 34 Θ (eM Θ κ) (xu I 0 36 v) J) H1 → va_S (xA 34 Θ sz) s.heap H1 locs1 → W p l e R s m args below meth c H1 locs1 0 0 Q (F0 m (pc + 3) ls rest)) : W p l e R s m args below meth c H locs 0 0 Q (F0 m pc ls (.int v :: .ref (Θ 0) :: rest)) := by
  refine va_put (D := D) (ci := 7) (v := .int v) (ty := .int) (C := R_Md) (T := F_Md) (N := 37) C.1.1 C.1.2.1 C.1.2.2.2.2 in_Md t_Md t_Md_ok n_Md C.1.2.2.2.1 C.2.1 hP (xw_D hΘ) hS 0 (xw_at (Nat.le_of_ble_eq_true rfl) (eM_Md _ _)) rfl 36 (by decide) (C.1.2.2.2.2 _ k_801) (fun _ h9 => h9) rfl (by decide +kernel) rfl rfl (Nat.le_of_ble_eq_true rfl) hdg (fun H1 locs1 h1 _ h3 => kk H1 locs1 ?_ h3)
  rw [xw_set (I' := xu I 0 36 v) (J' := J) (Nat.le_of_ble_eq_true rfl) (fun a ha => xu_o I 36 v ha) (fun _ _ => rfl) (by rw [eM_Md]; unfold xu; rw [xr_s]; rfl)] at h1
  exact h1
end GF
