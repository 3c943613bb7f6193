/-! every method's code is among the words -/
set_option maxRecDepth 100000 in
theorem zw_2 : z_codeW 2 ∈ z_tbl := List.mem_filter.mpr ⟨List.mem_of_getElem? (i := 649) rfl, rfl⟩
set_option maxRecDepth 100000 in
theorem zw_3 : z_codeW 3 ∈ z_tbl := List.mem_filter.mpr ⟨List.mem_of_getElem? (i := 659) rfl, rfl⟩
set_option maxRecDepth 100000 in
theorem zw_4 : z_codeW 4 ∈ z_tbl := List.mem_filter.mpr ⟨List.mem_of_getElem? (i := 653) rfl, rfl⟩
set_option maxRecDepth 100000 in
theorem zw_5 : z_codeW 5 ∈ z_tbl := List.mem_filter.mpr ⟨List.mem_of_getElem? (i := 663) rfl, rfl⟩
set_option maxRecDepth 100000 in
theorem zw_6 : z_codeW 6 ∈ z_tbl := List.mem_filter.mpr ⟨List.mem_of_getElem? (i := 669) rfl, rfl⟩
set_option maxRecDepth 100000 in
theorem zw_7 : z_codeW 7 ∈ z_tbl := List.mem_filter.mpr ⟨List.mem_of_getElem? (i := 666) rfl, rfl⟩
set_option maxRecDepth 100000 in
theorem zw_8 : z_codeW 8 ∈ z_tbl := List.mem_filter.mpr ⟨List.mem_of_getElem? (i := 674) rfl, rfl⟩
set_option maxRecDepth 100000 in
theorem zw_9 : z_codeW 9 ∈ z_tbl := List.mem_filter.mpr ⟨List.mem_of_getElem? (i := 514) rfl, rfl⟩
set_option maxRecDepth 100000 in
theorem zw_10 : z_codeW 10 ∈ z_tbl := List.mem_filter.mpr ⟨List.mem_of_getElem? (i := 503) rfl, rfl⟩
set_option maxRecDepth 100000 in
theorem zw_11 : z_codeW 11 ∈ z_tbl := List.mem_filter.mpr ⟨List.mem_of_getElem? (i := 871) rfl, rfl⟩
set_option maxRecDepth 100000 in
theorem zw_12 : z_codeW 12 ∈ z_tbl := List.mem_filter.mpr ⟨List.mem_of_getElem? (i := 801) rfl, rfl⟩
set_option maxRecDepth 100000 in
theorem zw_13 : z_codeW 13 ∈ z_tbl := List.mem_filter.mpr ⟨List.mem_of_getElem? (i := 528) rfl, rfl⟩
set_option maxRecDepth 100000 in
theorem zw_14 : z_codeW 14 ∈ z_tbl := List.mem_filter.mpr ⟨List.mem_of_getElem? (i := 517) rfl, rfl⟩
set_option maxRecDepth 100000 in
theorem zw_15 : z_codeW 15 ∈ z_tbl := List.mem_filter.mpr ⟨List.mem_of_getElem? (i := 590) rfl, rfl⟩
set_option maxRecDepth 100000 in
theorem zw_16 : z_codeW 16 ∈ z_tbl := List.mem_filter.mpr ⟨List.mem_of_getElem? (i := 209) rfl, rfl⟩
set_option maxRecDepth 100000 in
theorem zw_17 : z_codeW 17 ∈ z_tbl := List.mem_filter.mpr ⟨List.mem_of_getElem? (i := 729) rfl, rfl⟩
set_option maxRecDepth 100000 in
theorem zw_18 : z_codeW 18 ∈ z_tbl := List.mem_filter.mpr ⟨List.mem_of_getElem? (i := 723) rfl, rfl⟩
set_option maxRecDepth 100000 in
theorem zw_19 : z_codeW 19 ∈ z_tbl := List.mem_filter.mpr ⟨List.mem_of_getElem? (i := 720) rfl, rfl⟩
set_option maxRecDepth 100000 in
theorem zw_20 : z_codeW 20 ∈ z_tbl := List.mem_filter.mpr ⟨List.mem_of_getElem? (i := 768) rfl, rfl⟩
set_option maxRecDepth 100000 in
theorem zw_21 : z_codeW 21 ∈ z_tbl := List.mem_filter.mpr ⟨List.mem_of_getElem? (i := 764) rfl, rfl⟩
set_option maxRecDepth 100000 in
theorem zw_22 : z_codeW 22 ∈ z_tbl := List.mem_filter.mpr ⟨List.mem_of_getElem? (i := 772) rfl, rfl⟩
set_option maxRecDepth 100000 in
theorem zw_23 : z_codeW 23 ∈ z_tbl := List.mem_filter.mpr ⟨List.mem_of_getElem? (i := 776) rfl, rfl⟩
set_option maxRecDepth 100000 in
theorem zw_24 : z_codeW 24 ∈ z_tbl := List.mem_filter.mpr ⟨List.mem_of_getElem? (i := 780) rfl, rfl⟩
set_option maxRecDepth 100000 in
theorem zw_25 : z_codeW 25 ∈ z_tbl := List.mem_filter.mpr ⟨List.mem_of_getElem? (i := 784) rfl, rfl⟩
set_option maxRecDepth 100000 in
theorem zw_26 : z_codeW 26 ∈ z_tbl := List.mem_filter.mpr ⟨List.mem_of_getElem? (i := 760) rfl, rfl⟩
set_option maxRecDepth 100000 in
theorem zw_27 : z_codeW 27 ∈ z_tbl := List.mem_filter.mpr ⟨List.mem_of_getElem? (i := 788) rfl, rfl⟩
set_option maxRecDepth 100000 in
theorem zw_28 : z_codeW 28 ∈ z_tbl := List.mem_filter.mpr ⟨List.mem_of_getElem? (i := 919) rfl, rfl⟩
set_option maxRecDepth 100000 in
theorem zw_29 : z_codeW 29 ∈ z_tbl := List.mem_filter.mpr ⟨List.mem_of_getElem? (i := 184) rfl, rfl⟩
set_option maxRecDepth 100000 in
theorem zw_30 : z_codeW 30 ∈ z_tbl := List.mem_filter.mpr ⟨List.mem_of_getElem? (i := 966) rfl, rfl⟩
set_option maxRecDepth 100000 in
theorem zw_31 : z_codeW 31 ∈ z_tbl := List.mem_filter.mpr ⟨List.mem_of_getElem? (i := 972) rfl, rfl⟩
set_option maxRecDepth 100000 in
theorem zw_32 : z_codeW 32 ∈ z_tbl := List.mem_filter.mpr ⟨List.mem_of_getElem? (i := 976) rfl, rfl⟩
set_option maxRecDepth 100000 in
theorem zw_33 : z_codeW 33 ∈ z_tbl := List.mem_filter.mpr ⟨List.mem_of_getElem? (i := 980) rfl, rfl⟩
set_option maxRecDepth 100000 in
theorem zw_34 : z_codeW 34 ∈ z_tbl := List.mem_filter.mpr ⟨List.mem_of_getElem? (i := 988) rfl, rfl⟩
set_option maxRecDepth 100000 in
theorem zw_35 : z_codeW 35 ∈ z_tbl := List.mem_filter.mpr ⟨List.mem_of_getElem? (i := 994) rfl, rfl⟩
set_option maxRecDepth 100000 in
theorem zw_36 : z_codeW 36 ∈ z_tbl := List.mem_filter.mpr ⟨List.mem_of_getElem? (i := 374) rfl, rfl⟩
set_option maxRecDepth 100000 in
theorem zw_37 : z_codeW 37 ∈ z_tbl := List.mem_filter.mpr ⟨List.mem_of_getElem? (i := 461) rfl, rfl⟩
set_option maxRecDepth 100000 in
theorem zw_38 : z_codeW 38 ∈ z_tbl := List.mem_filter.mpr ⟨List.mem_of_getElem? (i := 844) rfl, rfl⟩
set_option maxRecDepth 100000 in
theorem zw_39 : z_codeW 39 ∈ z_tbl := List.mem_filter.mpr ⟨List.mem_of_getElem? (i := 508) rfl, rfl⟩
set_option maxRecDepth 100000 in
theorem zw_40 : z_codeW 40 ∈ z_tbl := List.mem_filter.mpr ⟨List.mem_of_getElem? (i := 521) rfl, rfl⟩
set_option maxRecDepth 100000 in
theorem zw_41 : z_codeW 41 ∈ z_tbl := List.mem_filter.mpr ⟨List.mem_of_getElem? (i := 532) rfl, rfl⟩
set_option maxRecDepth 100000 in
theorem zw_42 : z_codeW 42 ∈ z_tbl := List.mem_filter.mpr ⟨List.mem_of_getElem? (i := 924) rfl, rfl⟩
set_option maxRecDepth 100000 in
theorem zw_43 : z_codeW 43 ∈ z_tbl := List.mem_filter.mpr ⟨List.mem_of_getElem? (i := 297) rfl, rfl⟩
set_option maxRecDepth 100000 in
theorem zw_44 : z_codeW 44 ∈ z_tbl := List.mem_filter.mpr ⟨List.mem_of_getElem? (i := 480) rfl, rfl⟩
set_option maxRecDepth 100000 in
theorem zw_45 : z_codeW 45 ∈ z_tbl := List.mem_filter.mpr ⟨List.mem_of_getElem? (i := 500) rfl, rfl⟩
set_option maxRecDepth 100000 in
theorem zw_46 : z_codeW 46 ∈ z_tbl := List.mem_filter.mpr ⟨List.mem_of_getElem? (i := 557) rfl, rfl⟩
set_option maxRecDepth 100000 in
theorem zw_47 : z_codeW 47 ∈ z_tbl := List.mem_filter.mpr ⟨List.mem_of_getElem? (i := 496) rfl, rfl⟩
set_option maxRecDepth 100000 in
theorem zw_48 : z_codeW 48 ∈ z_tbl := List.mem_filter.mpr ⟨List.mem_of_getElem? (i := 537) rfl, rfl⟩
set_option maxRecDepth 100000 in
theorem zw_49 : z_codeW 49 ∈ z_tbl := List.mem_filter.mpr ⟨List.mem_of_getElem? (i := 547) rfl, rfl⟩
set_option maxRecDepth 100000 in
theorem zw_50 : z_codeW 50 ∈ z_tbl := List.mem_filter.mpr ⟨List.mem_of_getElem? (i := 940) rfl, rfl⟩
set_option maxRecDepth 100000 in
theorem zw_51 : z_codeW 51 ∈ z_tbl := List.mem_filter.mpr ⟨List.mem_of_getElem? (i := 944) rfl, rfl⟩
set_option maxRecDepth 100000 in
theorem zw_52 : z_codeW 52 ∈ z_tbl := List.mem_filter.mpr ⟨List.mem_of_getElem? (i := 948) rfl, rfl⟩
set_option maxRecDepth 100000 in
theorem zw_53 : z_codeW 53 ∈ z_tbl := List.mem_filter.mpr ⟨List.mem_of_getElem? (i := 952) rfl, rfl⟩
set_option maxRecDepth 100000 in
theorem zw_54 : z_codeW 54 ∈ z_tbl := List.mem_filter.mpr ⟨List.mem_of_getElem? (i := 796) rfl, rfl⟩
set_option maxRecDepth 100000 in
theorem zw_55 : z_codeW 55 ∈ z_tbl := List.mem_filter.mpr ⟨List.mem_of_getElem? (i := 856) rfl, rfl⟩
set_option maxRecDepth 100000 in
theorem zw_56 : z_codeW 56 ∈ z_tbl := List.mem_filter.mpr ⟨List.mem_of_getElem? (i := 868) rfl, rfl⟩
set_option maxRecDepth 100000 in
theorem zw_57 : z_codeW 57 ∈ z_tbl := List.mem_filter.mpr ⟨List.mem_of_getElem? (i := 154) rfl, rfl⟩
set_option maxRecDepth 100000 in
theorem zw_58 : z_codeW 58 ∈ z_tbl := List.mem_filter.mpr ⟨List.mem_of_getElem? (i := 1023) rfl, rfl⟩
set_option maxRecDepth 100000 in
theorem zw_59 : z_codeW 59 ∈ z_tbl := List.mem_filter.mpr ⟨List.mem_of_getElem? (i := 1029) rfl, rfl⟩
set_option maxRecDepth 100000 in
theorem zw_60 : z_codeW 60 ∈ z_tbl := List.mem_filter.mpr ⟨List.mem_of_getElem? (i := 1036) rfl, rfl⟩
set_option maxRecDepth 100000 in
theorem zw_61 : z_codeW 61 ∈ z_tbl := List.mem_filter.mpr ⟨List.mem_of_getElem? (i := 1040) rfl, rfl⟩
set_option maxRecDepth 100000 in
theorem zw_62 : z_codeW 62 ∈ z_tbl := List.mem_filter.mpr ⟨List.mem_of_getElem? (i := 1044) rfl, rfl⟩
set_option maxRecDepth 100000 in
theorem zw_63 : z_codeW 63 ∈ z_tbl := List.mem_filter.mpr ⟨List.mem_of_getElem? (i := 1060) rfl, rfl⟩
set_option maxRecDepth 100000 in
theorem zw_64 : z_codeW 64 ∈ z_tbl := List.mem_filter.mpr ⟨List.mem_of_getElem? (i := 1064) rfl, rfl⟩
set_option maxRecDepth 100000 in
theorem zw_65 : z_codeW 65 ∈ z_tbl := List.mem_filter.mpr ⟨List.mem_of_getElem? (i := 1052) rfl, rfl⟩
set_option maxRecDepth 100000 in
theorem zw_66 : z_codeW 66 ∈ z_tbl := List.mem_filter.mpr ⟨List.mem_of_getElem? (i := 1048) rfl, rfl⟩
set_option maxRecDepth 100000 in
theorem zw_67 : z_codeW 67 ∈ z_tbl := List.mem_filter.mpr ⟨List.mem_of_getElem? (i := 1068) rfl, rfl⟩
set_option maxRecDepth 100000 in
theorem zw_68 : z_codeW 68 ∈ z_tbl := List.mem_filter.mpr ⟨List.mem_of_getElem? (i := 1076) rfl, rfl⟩
set_option maxRecDepth 100000 in
theorem zw_69 : z_codeW 69 ∈ z_tbl := List.mem_filter.mpr ⟨List.mem_of_getElem? (i := 121) rfl, rfl⟩
set_option maxRecDepth 100000 in
theorem zw_70 : z_codeW 70 ∈ z_tbl := List.mem_filter.mpr ⟨List.mem_of_getElem? (i := 610) rfl, rfl⟩
set_option maxRecDepth 100000 in
theorem zw_71 : z_codeW 71 ∈ z_tbl := List.mem_filter.mpr ⟨List.mem_of_getElem? (i := 747) rfl, rfl⟩
set_option maxRecDepth 100000 in
theorem zw_72 : z_codeW 72 ∈ z_tbl := List.mem_filter.mpr ⟨List.mem_of_getElem? (i := 636) rfl, rfl⟩
set_option maxRecDepth 100000 in
theorem zw_73 : z_codeW 73 ∈ z_tbl := List.mem_filter.mpr ⟨List.mem_of_getElem? (i := 640) rfl, rfl⟩
set_option maxRecDepth 100000 in
theorem zw_74 : z_codeW 74 ∈ z_tbl := List.mem_filter.mpr ⟨List.mem_of_getElem? (i := 716) rfl, rfl⟩
set_option maxRecDepth 100000 in
theorem zw_75 : z_codeW 75 ∈ z_tbl := List.mem_filter.mpr ⟨List.mem_of_getElem? (i := 733) rfl, rfl⟩
set_option maxRecDepth 100000 in
theorem zw_76 : z_codeW 76 ∈ z_tbl := List.mem_filter.mpr ⟨List.mem_of_getElem? (i := 697) rfl, rfl⟩
set_option maxRecDepth 100000 in
theorem zw_77 : z_codeW 77 ∈ z_tbl := List.mem_filter.mpr ⟨List.mem_of_getElem? (i := 736) rfl, rfl⟩
set_option maxRecDepth 100000 in
theorem zw_78 : z_codeW 78 ∈ z_tbl := List.mem_filter.mpr ⟨List.mem_of_getElem? (i := 741) rfl, rfl⟩
set_option maxRecDepth 100000 in
theorem zw_79 : z_codeW 79 ∈ z_tbl := List.mem_filter.mpr ⟨List.mem_of_getElem? (i := 702) rfl, rfl⟩
set_option maxRecDepth 100000 in
theorem zw_80 : z_codeW 80 ∈ z_tbl := List.mem_filter.mpr ⟨List.mem_of_getElem? (i := 705) rfl, rfl⟩
set_option maxRecDepth 100000 in
theorem zw_81 : z_codeW 81 ∈ z_tbl := List.mem_filter.mpr ⟨List.mem_of_getElem? (i := 645) rfl, rfl⟩
set_option maxRecDepth 100000 in
theorem zw_82 : z_codeW 82 ∈ z_tbl := List.mem_filter.mpr ⟨List.mem_of_getElem? (i := 614) rfl, rfl⟩
set_option maxRecDepth 100000 in
theorem zw_83 : z_codeW 83 ∈ z_tbl := List.mem_filter.mpr ⟨List.mem_of_getElem? (i := 625) rfl, rfl⟩
set_option maxRecDepth 100000 in
theorem zw_84 : z_codeW 84 ∈ z_tbl := List.mem_filter.mpr ⟨List.mem_of_getElem? (i := 632) rfl, rfl⟩
set_option maxRecDepth 100000 in
theorem zw_85 : z_codeW 85 ∈ z_tbl := List.mem_filter.mpr ⟨List.mem_of_getElem? (i := 621) rfl, rfl⟩
set_option maxRecDepth 100000 in
theorem zw_86 : z_codeW 86 ∈ z_tbl := List.mem_filter.mpr ⟨List.mem_of_getElem? (i := 628) rfl, rfl⟩
set_option maxRecDepth 100000 in
theorem zw_87 : z_codeW 87 ∈ z_tbl := List.mem_filter.mpr ⟨List.mem_of_getElem? (i := 1091) rfl, rfl⟩
set_option maxRecDepth 100000 in
theorem zw_88 : z_codeW 88 ∈ z_tbl := List.mem_filter.mpr ⟨List.mem_of_getElem? (i := 1111) rfl, rfl⟩
set_option maxRecDepth 100000 in
theorem zw_89 : z_codeW 89 ∈ z_tbl := List.mem_filter.mpr ⟨List.mem_of_getElem? (i := 1116) rfl, rfl⟩
set_option maxRecDepth 100000 in
theorem zw_90 : z_codeW 90 ∈ z_tbl := List.mem_filter.mpr ⟨List.mem_of_getElem? (i := 1129) rfl, rfl⟩
set_option maxRecDepth 100000 in
theorem zw_91 : z_codeW 91 ∈ z_tbl := List.mem_filter.mpr ⟨List.mem_of_getElem? (i := 105) rfl, rfl⟩
set_option maxRecDepth 100000 in
theorem zw_92 : z_codeW 92 ∈ z_tbl := List.mem_filter.mpr ⟨List.mem_of_getElem? (i := 598) rfl, rfl⟩
set_option maxRecDepth 100000 in
theorem zw_93 : z_codeW 93 ∈ z_tbl := List.mem_filter.mpr ⟨List.mem_of_getElem? (i := 618) rfl, rfl⟩
set_option maxRecDepth 100000 in
theorem zw_94 : z_codeW 94 ∈ z_tbl := List.mem_filter.mpr ⟨List.mem_of_getElem? (i := 566) rfl, rfl⟩
set_option maxRecDepth 100000 in
theorem zw_95 : z_codeW 95 ∈ z_tbl := List.mem_filter.mpr ⟨List.mem_of_getElem? (i := 585) rfl, rfl⟩
set_option maxRecDepth 100000 in
theorem zw_96 : z_codeW 96 ∈ z_tbl := List.mem_filter.mpr ⟨List.mem_of_getElem? (i := 999) rfl, rfl⟩
set_option maxRecDepth 100000 in
theorem zw_97 : z_codeW 97 ∈ z_tbl := List.mem_filter.mpr ⟨List.mem_of_getElem? (i := 862) rfl, rfl⟩
set_option maxRecDepth 100000 in
theorem zw_98 : z_codeW 98 ∈ z_tbl := List.mem_filter.mpr ⟨List.mem_of_getElem? (i := 89) rfl, rfl⟩
set_option maxRecDepth 100000 in
theorem zw_99 : z_codeW 99 ∈ z_tbl := List.mem_filter.mpr ⟨List.mem_of_getElem? (i := 284) rfl, rfl⟩
set_option maxRecDepth 100000 in
theorem zw_100 : z_codeW 100 ∈ z_tbl := List.mem_filter.mpr ⟨List.mem_of_getElem? (i := 349) rfl, rfl⟩
set_option maxRecDepth 100000 in
theorem zw_101 : z_codeW 101 ∈ z_tbl := List.mem_filter.mpr ⟨List.mem_of_getElem? (i := 360) rfl, rfl⟩
set_option maxRecDepth 100000 in
theorem zw_102 : z_codeW 102 ∈ z_tbl := List.mem_filter.mpr ⟨List.mem_of_getElem? (i := 364) rfl, rfl⟩
set_option maxRecDepth 100000 in
theorem zw_103 : z_codeW 103 ∈ z_tbl := List.mem_filter.mpr ⟨List.mem_of_getElem? (i := 465) rfl, rfl⟩
set_option maxRecDepth 100000 in
theorem zw_104 : z_codeW 104 ∈ z_tbl := List.mem_filter.mpr ⟨List.mem_of_getElem? (i := 484) rfl, rfl⟩
set_option maxRecDepth 100000 in
theorem zw_105 : z_codeW 105 ∈ z_tbl := List.mem_filter.mpr ⟨List.mem_of_getElem? (i := 488) rfl, rfl⟩
set_option maxRecDepth 100000 in
theorem zw_106 : z_codeW 106 ∈ z_tbl := List.mem_filter.mpr ⟨List.mem_of_getElem? (i := 492) rfl, rfl⟩
set_option maxRecDepth 100000 in
theorem zw_107 : z_codeW 107 ∈ z_tbl := List.mem_filter.mpr ⟨List.mem_of_getElem? (i := 543) rfl, rfl⟩
set_option maxRecDepth 100000 in
theorem zw_108 : z_codeW 108 ∈ z_tbl := List.mem_filter.mpr ⟨List.mem_of_getElem? (i := 551) rfl, rfl⟩
set_option maxRecDepth 100000 in
theorem zw_109 : z_codeW 109 ∈ z_tbl := List.mem_filter.mpr ⟨List.mem_of_getElem? (i := 561) rfl, rfl⟩
set_option maxRecDepth 100000 in
theorem zw_110 : z_codeW 110 ∈ z_tbl := List.mem_filter.mpr ⟨List.mem_of_getElem? (i := 594) rfl, rfl⟩
set_option maxRecDepth 100000 in
theorem zw_111 : z_codeW 111 ∈ z_tbl := List.mem_filter.mpr ⟨List.mem_of_getElem? (i := 602) rfl, rfl⟩
set_option maxRecDepth 100000 in
theorem zw_112 : z_codeW 112 ∈ z_tbl := List.mem_filter.mpr ⟨List.mem_of_getElem? (i := 606) rfl, rfl⟩
set_option maxRecDepth 100000 in
theorem zw_113 : z_codeW 113 ∈ z_tbl := List.mem_filter.mpr ⟨List.mem_of_getElem? (i := 752) rfl, rfl⟩
set_option maxRecDepth 100000 in
theorem zw_114 : z_codeW 114 ∈ z_tbl := List.mem_filter.mpr ⟨List.mem_of_getElem? (i := 756) rfl, rfl⟩
set_option maxRecDepth 100000 in
theorem zw_115 : z_codeW 115 ∈ z_tbl := List.mem_filter.mpr ⟨List.mem_of_getElem? (i := 792) rfl, rfl⟩
set_option maxRecDepth 100000 in
theorem zw_116 : z_codeW 116 ∈ z_tbl := List.mem_filter.mpr ⟨List.mem_of_getElem? (i := 848) rfl, rfl⟩
set_option maxRecDepth 100000 in
theorem zw_117 : z_codeW 117 ∈ z_tbl := List.mem_filter.mpr ⟨List.mem_of_getElem? (i := 876) rfl, rfl⟩
set_option maxRecDepth 100000 in
theorem zw_118 : z_codeW 118 ∈ z_tbl := List.mem_filter.mpr ⟨List.mem_of_getElem? (i := 890) rfl, rfl⟩
set_option maxRecDepth 100000 in
theorem zw_119 : z_codeW 119 ∈ z_tbl := List.mem_filter.mpr ⟨List.mem_of_getElem? (i := 903) rfl, rfl⟩
set_option maxRecDepth 100000 in
theorem zw_120 : z_codeW 120 ∈ z_tbl := List.mem_filter.mpr ⟨List.mem_of_getElem? (i := 907) rfl, rfl⟩
set_option maxRecDepth 100000 in
theorem zw_121 : z_codeW 121 ∈ z_tbl := List.mem_filter.mpr ⟨List.mem_of_getElem? (i := 911) rfl, rfl⟩
set_option maxRecDepth 100000 in
theorem zw_122 : z_codeW 122 ∈ z_tbl := List.mem_filter.mpr ⟨List.mem_of_getElem? (i := 915) rfl, rfl⟩
set_option maxRecDepth 100000 in
theorem zw_123 : z_codeW 123 ∈ z_tbl := List.mem_filter.mpr ⟨List.mem_of_getElem? (i := 928) rfl, rfl⟩
set_option maxRecDepth 100000 in
theorem zw_124 : z_codeW 124 ∈ z_tbl := List.mem_filter.mpr ⟨List.mem_of_getElem? (i := 935) rfl, rfl⟩
set_option maxRecDepth 100000 in
theorem zw_125 : z_codeW 125 ∈ z_tbl := List.mem_filter.mpr ⟨List.mem_of_getElem? (i := 958) rfl, rfl⟩
set_option maxRecDepth 100000 in
theorem zw_126 : z_codeW 126 ∈ z_tbl := List.mem_filter.mpr ⟨List.mem_of_getElem? (i := 1005) rfl, rfl⟩
set_option maxRecDepth 100000 in
theorem zw_127 : z_codeW 127 ∈ z_tbl := List.mem_filter.mpr ⟨List.mem_of_getElem? (i := 1009) rfl, rfl⟩
set_option maxRecDepth 100000 in
theorem zw_128 : z_codeW 128 ∈ z_tbl := List.mem_filter.mpr ⟨List.mem_of_getElem? (i := 1019) rfl, rfl⟩
set_option maxRecDepth 100000 in
theorem zw_129 : z_codeW 129 ∈ z_tbl := List.mem_filter.mpr ⟨List.mem_of_getElem? (i := 1072) rfl, rfl⟩
set_option maxRecDepth 100000 in
theorem zw_130 : z_codeW 130 ∈ z_tbl := List.mem_filter.mpr ⟨List.mem_of_getElem? (i := 1081) rfl, rfl⟩
set_option maxRecDepth 100000 in
theorem zw_131 : z_codeW 131 ∈ z_tbl := List.mem_filter.mpr ⟨List.mem_of_getElem? (i := 1107) rfl, rfl⟩
set_option maxRecDepth 100000 in
theorem zw_132 : z_codeW 132 ∈ z_tbl := List.mem_filter.mpr ⟨List.mem_of_getElem? (i := 1121) rfl, rfl⟩
set_option maxRecDepth 100000 in
theorem zw_133 : z_codeW 133 ∈ z_tbl := List.mem_filter.mpr ⟨List.mem_of_getElem? (i := 1134) rfl, rfl⟩
set_option maxRecDepth 100000 in
theorem zw_134 : z_codeW 134 ∈ z_tbl := List.mem_filter.mpr ⟨List.mem_of_getElem? (i := 1138) rfl, rfl⟩
set_option maxRecDepth 100000 in
theorem zw_135 : z_codeW 135 ∈ z_tbl := List.mem_filter.mpr ⟨List.mem_of_getElem? (i := 287) rfl, rfl⟩
set_option maxRecDepth 100000 in
theorem zw_136 : z_codeW 136 ∈ z_tbl := List.mem_filter.mpr ⟨List.mem_of_getElem? (i := 290) rfl, rfl⟩
set_option maxRecDepth 100000 in
theorem zw_137 : z_codeW 137 ∈ z_tbl := List.mem_filter.mpr ⟨List.mem_of_getElem? (i := 293) rfl, rfl⟩
set_option maxRecDepth 100000 in
theorem zw_138 : z_codeW 138 ∈ z_tbl := List.mem_filter.mpr ⟨List.mem_of_getElem? (i := 367) rfl, rfl⟩
set_option maxRecDepth 100000 in
theorem zw_139 : z_codeW 139 ∈ z_tbl := List.mem_filter.mpr ⟨List.mem_of_getElem? (i := 370) rfl, rfl⟩
set_option maxRecDepth 100000 in
theorem zw_140 : z_codeW 140 ∈ z_tbl := List.mem_filter.mpr ⟨List.mem_of_getElem? (i := 356) rfl, rfl⟩
set_option maxRecDepth 100000 in
theorem zw_141 : z_codeW 141 ∈ z_tbl := List.mem_filter.mpr ⟨List.mem_of_getElem? (i := 931) rfl, rfl⟩
set_option maxRecDepth 100000 in
theorem zw_142 : z_codeW 142 ∈ z_tbl := List.mem_filter.mpr ⟨List.mem_of_getElem? (i := 1084) rfl, rfl⟩
set_option maxRecDepth 100000 in
theorem zw_143 : z_codeW 143 ∈ z_tbl := List.mem_filter.mpr ⟨List.mem_of_getElem? (i := 1087) rfl, rfl⟩
set_option maxRecDepth 100000 in
theorem zw_144 : z_codeW 144 ∈ z_tbl := List.mem_filter.mpr ⟨List.mem_of_getElem? (i := 961) rfl, rfl⟩
set_option maxRecDepth 100000 in
theorem zw_145 : z_codeW 145 ∈ z_tbl := List.mem_filter.mpr ⟨List.mem_of_getElem? (i := 472) rfl, rfl⟩
set_option maxRecDepth 100000 in
theorem zw_146 : z_codeW 146 ∈ z_tbl := List.mem_filter.mpr ⟨List.mem_of_getElem? (i := 525) rfl, rfl⟩
set_option maxRecDepth 100000 in
theorem zw_147 : z_codeW 147 ∈ z_tbl := List.mem_filter.mpr ⟨List.mem_of_getElem? (i := 511) rfl, rfl⟩
set_option maxRecDepth 100000 in
theorem zw_148 : z_codeW 148 ∈ z_tbl := List.mem_filter.mpr ⟨List.mem_of_getElem? (i := 353) rfl, rfl⟩
set_option maxRecDepth 100000 in
theorem zw_149 : z_codeW 149 ∈ z_tbl := List.mem_filter.mpr ⟨List.mem_of_getElem? (i := 469) rfl, rfl⟩
set_option maxRecDepth 100000 in
theorem zw_150 : z_codeW 150 ∈ z_tbl := List.mem_filter.mpr ⟨List.mem_of_getElem? (i := 852) rfl, rfl⟩
set_option maxRecDepth 100000 in
theorem zw_151 : z_codeW 151 ∈ z_tbl := List.mem_filter.mpr ⟨List.mem_of_getElem? (i := 476) rfl, rfl⟩
set_option maxRecDepth 100000 in
theorem zw_152 : z_codeW 152 ∈ z_tbl := List.mem_filter.mpr ⟨List.mem_of_getElem? (i := 1142) rfl, rfl⟩
set_option maxRecDepth 100000 in
theorem zw_153 : z_codeW 153 ∈ z_tbl := List.mem_filter.mpr ⟨List.mem_of_getElem? (i := 1146) rfl, rfl⟩
set_option maxRecDepth 100000 in
theorem zw_154 : z_codeW 154 ∈ z_tbl := List.mem_filter.mpr ⟨List.mem_of_getElem? (i := 1150) rfl, rfl⟩
set_option maxRecDepth 100000 in
theorem zw_155 : z_codeW 155 ∈ z_tbl := List.mem_filter.mpr ⟨List.mem_of_getElem? (i := 899) rfl, rfl⟩
set_option maxRecDepth 100000 in
theorem zw_156 : z_codeW 156 ∈ z_tbl := List.mem_filter.mpr ⟨List.mem_of_getElem? (i := 886) rfl, rfl⟩
set_option maxRecDepth 100000 in
theorem zw_157 : z_codeW 157 ∈ z_tbl := List.mem_filter.mpr ⟨List.mem_of_getElem? (i := 882) rfl, rfl⟩
set_option maxRecDepth 100000 in
theorem zw_158 : z_codeW 158 ∈ z_tbl := List.mem_filter.mpr ⟨List.mem_of_getElem? (i := 895) rfl, rfl⟩
set_option maxRecDepth 100000 in
theorem zw_159 : z_codeW 159 ∈ z_tbl := List.mem_filter.mpr ⟨List.mem_of_getElem? (i := 1125) rfl, rfl⟩
set_option maxRecDepth 100000 in
theorem zw_160 : z_codeW 160 ∈ z_tbl := List.mem_filter.mpr ⟨List.mem_of_getElem? (i := 1155) rfl, rfl⟩
set_option maxRecDepth 100000 in
theorem zw_161 : z_codeW 161 ∈ z_tbl := List.mem_filter.mpr ⟨List.mem_of_getElem? (i := 1397) rfl, rfl⟩
set_option maxRecDepth 100000 in
theorem zw_162 : z_codeW 162 ∈ z_tbl := List.mem_filter.mpr ⟨List.mem_of_getElem? (i := 1458) rfl, rfl⟩
set_option maxRecDepth 100000 in
theorem zw_163 : z_codeW 163 ∈ z_tbl := List.mem_filter.mpr ⟨List.mem_of_getElem? (i := 1406) rfl, rfl⟩
set_option maxRecDepth 100000 in
theorem zw_164 : z_codeW 164 ∈ z_tbl := List.mem_filter.mpr ⟨List.mem_of_getElem? (i := 1427) rfl, rfl⟩
set_option maxRecDepth 100000 in
theorem zw_165 : z_codeW 165 ∈ z_tbl := List.mem_filter.mpr ⟨List.mem_of_getElem? (i := 1393) rfl, rfl⟩
set_option maxRecDepth 100000 in
theorem zw_166 : z_codeW 166 ∈ z_tbl := List.mem_filter.mpr ⟨List.mem_of_getElem? (i := 1402) rfl, rfl⟩
set_option maxRecDepth 100000 in
theorem zw_167 : z_codeW 167 ∈ z_tbl := List.mem_filter.mpr ⟨List.mem_of_getElem? (i := 1412) rfl, rfl⟩
set_option maxRecDepth 100000 in
theorem zw_168 : z_codeW 168 ∈ z_tbl := List.mem_filter.mpr ⟨List.mem_of_getElem? (i := 1416) rfl, rfl⟩
set_option maxRecDepth 100000 in
theorem zw_169 : z_codeW 169 ∈ z_tbl := List.mem_filter.mpr ⟨List.mem_of_getElem? (i := 1435) rfl, rfl⟩
set_option maxRecDepth 100000 in
theorem zw_170 : z_codeW 170 ∈ z_tbl := List.mem_filter.mpr ⟨List.mem_of_getElem? (i := 1431) rfl, rfl⟩
set_option maxRecDepth 100000 in
theorem zw_171 : z_codeW 171 ∈ z_tbl := List.mem_filter.mpr ⟨List.mem_of_getElem? (i := 1423) rfl, rfl⟩
set_option maxRecDepth 100000 in
theorem zw_172 : z_codeW 172 ∈ z_tbl := List.mem_filter.mpr ⟨List.mem_of_getElem? (i := 1439) rfl, rfl⟩
set_option maxRecDepth 100000 in
theorem zw_173 : z_codeW 173 ∈ z_tbl := List.mem_filter.mpr ⟨List.mem_of_getElem? (i := 1443) rfl, rfl⟩
set_option maxRecDepth 100000 in
theorem zw_174 : z_codeW 174 ∈ z_tbl := List.mem_filter.mpr ⟨List.mem_of_getElem? (i := 1455) rfl, rfl⟩
set_option maxRecDepth 100000 in
theorem zw_175 : z_codeW 175 ∈ z_tbl := List.mem_filter.mpr ⟨List.mem_of_getElem? (i := 1461) rfl, rfl⟩
set_option maxRecDepth 100000 in
theorem zw_176 : z_codeW 176 ∈ z_tbl := List.mem_filter.mpr ⟨List.mem_of_getElem? (i := 1451) rfl, rfl⟩
set_option maxRecDepth 100000 in
theorem zw_177 : z_codeW 177 ∈ z_tbl := List.mem_filter.mpr ⟨List.mem_of_getElem? (i := 1447) rfl, rfl⟩
set_option maxRecDepth 100000 in
theorem zw_178 : z_codeW 178 ∈ z_tbl := List.mem_filter.mpr ⟨List.mem_of_getElem? (i := 1466) rfl, rfl⟩
set_option maxRecDepth 100000 in
theorem zw_179 : z_codeW 179 ∈ z_tbl := List.mem_filter.mpr ⟨List.mem_of_getElem? (i := 1475) rfl, rfl⟩
set_option maxRecDepth 100000 in
theorem zw_180 : z_codeW 180 ∈ z_tbl := List.mem_filter.mpr ⟨List.mem_of_getElem? (i := 1471) rfl, rfl⟩
set_option maxRecDepth 100000 in
theorem zw_181 : z_codeW 181 ∈ z_tbl := List.mem_filter.mpr ⟨List.mem_of_getElem? (i := 1483) rfl, rfl⟩
set_option maxRecDepth 100000 in
theorem zw_182 : z_codeW 182 ∈ z_tbl := List.mem_filter.mpr ⟨List.mem_of_getElem? (i := 1479) rfl, rfl⟩
set_option maxRecDepth 100000 in
theorem zw_183 : z_codeW 183 ∈ z_tbl := List.mem_filter.mpr ⟨List.mem_of_getElem? (i := 1488) rfl, rfl⟩
set_option maxRecDepth 100000 in
theorem zw_184 : z_codeW 184 ∈ z_tbl := List.mem_filter.mpr ⟨List.mem_of_getElem? (i := 1492) rfl, rfl⟩
set_option maxRecDepth 100000 in
theorem zw_185 : z_codeW 185 ∈ z_tbl := List.mem_filter.mpr ⟨List.mem_of_getElem? (i := 1504) rfl, rfl⟩
set_option maxRecDepth 100000 in
theorem zw_186 : z_codeW 186 ∈ z_tbl := List.mem_filter.mpr ⟨List.mem_of_getElem? (i := 1512) rfl, rfl⟩
set_option maxRecDepth 100000 in
theorem zw_187 : z_codeW 187 ∈ z_tbl := List.mem_filter.mpr ⟨List.mem_of_getElem? (i := 1500) rfl, rfl⟩
set_option maxRecDepth 100000 in
theorem zw_188 : z_codeW 188 ∈ z_tbl := List.mem_filter.mpr ⟨List.mem_of_getElem? (i := 1520) rfl, rfl⟩
set_option maxRecDepth 100000 in
theorem zw_189 : z_codeW 189 ∈ z_tbl := List.mem_filter.mpr ⟨List.mem_of_getElem? (i := 1524) rfl, rfl⟩
set_option maxRecDepth 100000 in
theorem zw_190 : z_codeW 190 ∈ z_tbl := List.mem_filter.mpr ⟨List.mem_of_getElem? (i := 1535) rfl, rfl⟩
set_option maxRecDepth 100000 in
theorem zw_191 : z_codeW 191 ∈ z_tbl := List.mem_filter.mpr ⟨List.mem_of_getElem? (i := 1532) rfl, rfl⟩
set_option maxRecDepth 100000 in
theorem zw_192 : z_codeW 192 ∈ z_tbl := List.mem_filter.mpr ⟨List.mem_of_getElem? (i := 1540) rfl, rfl⟩
set_option maxRecDepth 100000 in
theorem zw_193 : z_codeW 193 ∈ z_tbl := List.mem_filter.mpr ⟨List.mem_of_getElem? (i := 1528) rfl, rfl⟩
set_option maxRecDepth 100000 in
theorem zw_194 : z_codeW 194 ∈ z_tbl := List.mem_filter.mpr ⟨List.mem_of_getElem? (i := 1516) rfl, rfl⟩
set_option maxRecDepth 100000 in
theorem zw_195 : z_codeW 195 ∈ z_tbl := List.mem_filter.mpr ⟨List.mem_of_getElem? (i := 1496) rfl, rfl⟩
set_option maxRecDepth 100000 in
theorem zw_196 : z_codeW 196 ∈ z_tbl := List.mem_filter.mpr ⟨List.mem_of_getElem? (i := 1544) rfl, rfl⟩
set_option maxRecDepth 100000 in
theorem zw_197 : z_codeW 197 ∈ z_tbl := List.mem_filter.mpr ⟨List.mem_of_getElem? (i := 1559) rfl, rfl⟩
set_option maxRecDepth 100000 in
theorem zw_198 : z_codeW 198 ∈ z_tbl := List.mem_filter.mpr ⟨List.mem_of_getElem? (i := 1555) rfl, rfl⟩
set_option maxRecDepth 100000 in
theorem zw_199 : z_codeW 199 ∈ z_tbl := List.mem_filter.mpr ⟨List.mem_of_getElem? (i := 1563) rfl, rfl⟩
set_option maxRecDepth 100000 in
theorem zw_200 : z_codeW 200 ∈ z_tbl := List.mem_filter.mpr ⟨List.mem_of_getElem? (i := 1548) rfl, rfl⟩
set_option maxRecDepth 100000 in
theorem zw_201 : z_codeW 201 ∈ z_tbl := List.mem_filter.mpr ⟨List.mem_of_getElem? (i := 1567) rfl, rfl⟩
set_option maxRecDepth 100000 in
theorem zw_202 : z_codeW 202 ∈ z_tbl := List.mem_filter.mpr ⟨List.mem_of_getElem? (i := 1575) rfl, rfl⟩
set_option maxRecDepth 100000 in
theorem zw_203 : z_codeW 203 ∈ z_tbl := List.mem_filter.mpr ⟨List.mem_of_getElem? (i := 1571) rfl, rfl⟩
set_option maxRecDepth 100000 in
theorem zw_204 : z_codeW 204 ∈ z_tbl := List.mem_filter.mpr ⟨List.mem_of_getElem? (i := 1585) rfl, rfl⟩
set_option maxRecDepth 100000 in
theorem zw_205 : z_codeW 205 ∈ z_tbl := List.mem_filter.mpr ⟨List.mem_of_getElem? (i := 1593) rfl, rfl⟩
set_option maxRecDepth 100000 in
theorem zw_206 : z_codeW 206 ∈ z_tbl := List.mem_filter.mpr ⟨List.mem_of_getElem? (i := 1579) rfl, rfl⟩
set_option maxRecDepth 100000 in
theorem zw_207 : z_codeW 207 ∈ z_tbl := List.mem_filter.mpr ⟨List.mem_of_getElem? (i := 1589) rfl, rfl⟩
set_option maxRecDepth 100000 in
theorem zw_208 : z_codeW 208 ∈ z_tbl := List.mem_filter.mpr ⟨List.mem_of_getElem? (i := 1597) rfl, rfl⟩
set_option maxRecDepth 100000 in
theorem zw_209 : z_codeW 209 ∈ z_tbl := List.mem_filter.mpr ⟨List.mem_of_getElem? (i := 1601) rfl, rfl⟩
set_option maxRecDepth 100000 in
theorem zw_210 : z_codeW 210 ∈ z_tbl := List.mem_filter.mpr ⟨List.mem_of_getElem? (i := 1605) rfl, rfl⟩
set_option maxRecDepth 100000 in
theorem zw_211 : z_codeW 211 ∈ z_tbl := List.mem_filter.mpr ⟨List.mem_of_getElem? (i := 1613) rfl, rfl⟩
set_option maxRecDepth 100000 in
theorem zw_212 : z_codeW 212 ∈ z_tbl := List.mem_filter.mpr ⟨List.mem_of_getElem? (i := 1609) rfl, rfl⟩
set_option maxRecDepth 100000 in
theorem zw_213 : z_codeW 213 ∈ z_tbl := List.mem_filter.mpr ⟨List.mem_of_getElem? (i := 1617) rfl, rfl⟩
set_option maxRecDepth 100000 in
theorem zw_214 : z_codeW 214 ∈ z_tbl := List.mem_filter.mpr ⟨List.mem_of_getElem? (i := 1622) rfl, rfl⟩
set_option maxRecDepth 100000 in
theorem zw_215 : z_codeW 215 ∈ z_tbl := List.mem_filter.mpr ⟨List.mem_of_getElem? (i := 1642) rfl, rfl⟩
set_option maxRecDepth 100000 in
theorem zw_216 : z_codeW 216 ∈ z_tbl := List.mem_filter.mpr ⟨List.mem_of_getElem? (i := 1638) rfl, rfl⟩
set_option maxRecDepth 100000 in
theorem zw_217 : z_codeW 217 ∈ z_tbl := List.mem_filter.mpr ⟨List.mem_of_getElem? (i := 1631) rfl, rfl⟩
set_option maxRecDepth 100000 in
theorem zw_218 : z_codeW 218 ∈ z_tbl := List.mem_filter.mpr ⟨List.mem_of_getElem? (i := 1627) rfl, rfl⟩
set_option maxRecDepth 100000 in
theorem zw_219 : z_codeW 219 ∈ z_tbl := List.mem_filter.mpr ⟨List.mem_of_getElem? (i := 1646) rfl, rfl⟩
set_option maxRecDepth 100000 in
theorem zw_220 : z_codeW 220 ∈ z_tbl := List.mem_filter.mpr ⟨List.mem_of_getElem? (i := 1650) rfl, rfl⟩
set_option maxRecDepth 100000 in
theorem zw_221 : z_codeW 221 ∈ z_tbl := List.mem_filter.mpr ⟨List.mem_of_getElem? (i := 1672) rfl, rfl⟩
set_option maxRecDepth 100000 in
theorem zw_222 : z_codeW 222 ∈ z_tbl := List.mem_filter.mpr ⟨List.mem_of_getElem? (i := 1676) rfl, rfl⟩
set_option maxRecDepth 100000 in
theorem zw_223 : z_codeW 223 ∈ z_tbl := List.mem_filter.mpr ⟨List.mem_of_getElem? (i := 1668) rfl, rfl⟩
set_option maxRecDepth 100000 in
theorem zw_224 : z_codeW 224 ∈ z_tbl := List.mem_filter.mpr ⟨List.mem_of_getElem? (i := 1664) rfl, rfl⟩
set_option maxRecDepth 100000 in
theorem zw_225 : z_codeW 225 ∈ z_tbl := List.mem_filter.mpr ⟨List.mem_of_getElem? (i := 1660) rfl, rfl⟩
set_option maxRecDepth 100000 in
theorem zw_226 : z_codeW 226 ∈ z_tbl := List.mem_filter.mpr ⟨List.mem_of_getElem? (i := 1655) rfl, rfl⟩
set_option maxRecDepth 100000 in
theorem zw_227 : z_codeW 227 ∈ z_tbl := List.mem_filter.mpr ⟨List.mem_of_getElem? (i := 1680) rfl, rfl⟩
set_option maxRecDepth 100000 in
theorem zw_228 : z_codeW 228 ∈ z_tbl := List.mem_filter.mpr ⟨List.mem_of_getElem? (i := 1684) rfl, rfl⟩
set_option maxRecDepth 100000 in
theorem zw_229 : z_codeW 229 ∈ z_tbl := List.mem_filter.mpr ⟨List.mem_of_getElem? (i := 1689) rfl, rfl⟩
set_option maxRecDepth 100000 in
theorem zw_230 : z_codeW 230 ∈ z_tbl := List.mem_filter.mpr ⟨List.mem_of_getElem? (i := 1693) rfl, rfl⟩
set_option maxRecDepth 100000 in
theorem zw_231 : z_codeW 231 ∈ z_tbl := List.mem_filter.mpr ⟨List.mem_of_getElem? (i := 1697) rfl, rfl⟩
set_option maxRecDepth 100000 in
theorem zw_232 : z_codeW 232 ∈ z_tbl := List.mem_filter.mpr ⟨List.mem_of_getElem? (i := 1701) rfl, rfl⟩
theorem z_CODE_ok : z_CODE := by
  intro z h1 h2
  match z, h1, h2 with
  | 0, h1, _ => exact absurd h1 (by omega)
  | 1, h1, _ => exact absurd h1 (by omega)
  | 2, _, _ => exact zw_2
  | 3, _, _ => exact zw_3
  | 4, _, _ => exact zw_4
  | 5, _, _ => exact zw_5
  | 6, _, _ => exact zw_6
  | 7, _, _ => exact zw_7
  | 8, _, _ => exact zw_8
  | 9, _, _ => exact zw_9
  | 10, _, _ => exact zw_10
  | 11, _, _ => exact zw_11
  | 12, _, _ => exact zw_12
  | 13, _, _ => exact zw_13
  | 14, _, _ => exact zw_14
  | 15, _, _ => exact zw_15
  | 16, _, _ => exact zw_16
  | 17, _, _ => exact zw_17
  | 18, _, _ => exact zw_18
  | 19, _, _ => exact zw_19
  | 20, _, _ => exact zw_20
  | 21, _, _ => exact zw_21
  | 22, _, _ => exact zw_22
  | 23, _, _ => exact zw_23
  | 24, _, _ => exact zw_24
  | 25, _, _ => exact zw_25
  | 26, _, _ => exact zw_26
  | 27, _, _ => exact zw_27
  | 28, _, _ => exact zw_28
  | 29, _, _ => exact zw_29
  | 30, _, _ => exact zw_30
  | 31, _, _ => exact zw_31
  | 32, _, _ => exact zw_32
  | 33, _, _ => exact zw_33
  | 34, _, _ => exact zw_34
  | 35, _, _ => exact zw_35
  | 36, _, _ => exact zw_36
  | 37, _, _ => exact zw_37
  | 38, _, _ => exact zw_38
  | 39, _, _ => exact zw_39
  | 40, _, _ => exact zw_40
  | 41, _, _ => exact zw_41
  | 42, _, _ => exact zw_42
  | 43, _, _ => exact zw_43
  | 44, _, _ => exact zw_44
  | 45, _, _ => exact zw_45
  | 46, _, _ => exact zw_46
  | 47, _, _ => exact zw_47
  | 48, _, _ => exact zw_48
  | 49, _, _ => exact zw_49
  | 50, _, _ => exact zw_50
  | 51, _, _ => exact zw_51
  | 52, _, _ => exact zw_52
  | 53, _, _ => exact zw_53
  | 54, _, _ => exact zw_54
  | 55, _, _ => exact zw_55
  | 56, _, _ => exact zw_56
  | 57, _, _ => exact zw_57
  | 58, _, _ => exact zw_58
  | 59, _, _ => exact zw_59
  | 60, _, _ => exact zw_60
  | 61, _, _ => exact zw_61
  | 62, _, _ => exact zw_62
  | 63, _, _ => exact zw_63
  | 64, _, _ => exact zw_64
  | 65, _, _ => exact zw_65
  | 66, _, _ => exact zw_66
  | 67, _, _ => exact zw_67
  | 68, _, _ => exact zw_68
  | 69, _, _ => exact zw_69
  | 70, _, _ => exact zw_70
  | 71, _, _ => exact zw_71
  | 72, _, _ => exact zw_72
  | 73, _, _ => exact zw_73
  | 74, _, _ => exact zw_74
  | 75, _, _ => exact zw_75
  | 76, _, _ => exact zw_76
  | 77, _, _ => exact zw_77
  | 78, _, _ => exact zw_78
  | 79, _, _ => exact zw_79
  | 80, _, _ => exact zw_80
  | 81, _, _ => exact zw_81
  | 82, _, _ => exact zw_82
  | 83, _, _ => exact zw_83
  | 84, _, _ => exact zw_84
  | 85, _, _ => exact zw_85
  | 86, _, _ => exact zw_86
  | 87, _, _ => exact zw_87
  | 88, _, _ => exact zw_88
  | 89, _, _ => exact zw_89
  | 90, _, _ => exact zw_90
  | 91, _, _ => exact zw_91
  | 92, _, _ => exact zw_92
  | 93, _, _ => exact zw_93
  | 94, _, _ => exact zw_94
  | 95, _, _ => exact zw_95
  | 96, _, _ => exact zw_96
  | 97, _, _ => exact zw_97
  | 98, _, _ => exact zw_98
  | 99, _, _ => exact zw_99
  | 100, _, _ => exact zw_100
  | 101, _, _ => exact zw_101
  | 102, _, _ => exact zw_102
  | 103, _, _ => exact zw_103
  | 104, _, _ => exact zw_104
  | 105, _, _ => exact zw_105
  | 106, _, _ => exact zw_106
  | 107, _, _ => exact zw_107
  | 108, _, _ => exact zw_108
  | 109, _, _ => exact zw_109
  | 110, _, _ => exact zw_110
  | 111, _, _ => exact zw_111
  | 112, _, _ => exact zw_112
  | 113, _, _ => exact zw_113
  | 114, _, _ => exact zw_114
  | 115, _, _ => exact zw_115
  | 116, _, _ => exact zw_116
  | 117, _, _ => exact zw_117
  | 118, _, _ => exact zw_118
  | 119, _, _ => exact zw_119
  | 120, _, _ => exact zw_120
  | 121, _, _ => exact zw_121
  | 122, _, _ => exact zw_122
  | 123, _, _ => exact zw_123
  | 124, _, _ => exact zw_124
  | 125, _, _ => exact zw_125
  | 126, _, _ => exact zw_126
  | 127, _, _ => exact zw_127
  | 128, _, _ => exact zw_128
  | 129, _, _ => exact zw_129
  | 130, _, _ => exact zw_130
  | 131, _, _ => exact zw_131
  | 132, _, _ => exact zw_132
  | 133, _, _ => exact zw_133
  | 134, _, _ => exact zw_134
  | 135, _, _ => exact zw_135
  | 136, _, _ => exact zw_136
  | 137, _, _ => exact zw_137
  | 138, _, _ => exact zw_138
  | 139, _, _ => exact zw_139
  | 140, _, _ => exact zw_140
  | 141, _, _ => exact zw_141
  | 142, _, _ => exact zw_142
  | 143, _, _ => exact zw_143
  | 144, _, _ => exact zw_144
  | 145, _, _ => exact zw_145
  | 146, _, _ => exact zw_146
  | 147, _, _ => exact zw_147
  | 148, _, _ => exact zw_148
  | 149, _, _ => exact zw_149
  | 150, _, _ => exact zw_150
  | 151, _, _ => exact zw_151
  | 152, _, _ => exact zw_152
  | 153, _, _ => exact zw_153
  | 154, _, _ => exact zw_154
  | 155, _, _ => exact zw_155
  | 156, _, _ => exact zw_156
  | 157, _, _ => exact zw_157
  | 158, _, _ => exact zw_158
  | 159, _, _ => exact zw_159
  | 160, _, _ => exact zw_160
  | 161, _, _ => exact zw_161
  | 162, _, _ => exact zw_162
  | 163, _, _ => exact zw_163
  | 164, _, _ => exact zw_164
  | 165, _, _ => exact zw_165
  | 166, _, _ => exact zw_166
  | 167, _, _ => exact zw_167
  | 168, _, _ => exact zw_168
  | 169, _, _ => exact zw_169
  | 170, _, _ => exact zw_170
  | 171, _, _ => exact zw_171
  | 172, _, _ => exact zw_172
  | 173, _, _ => exact zw_173
  | 174, _, _ => exact zw_174
  | 175, _, _ => exact zw_175
  | 176, _, _ => exact zw_176
  | 177, _, _ => exact zw_177
  | 178, _, _ => exact zw_178
  | 179, _, _ => exact zw_179
  | 180, _, _ => exact zw_180
  | 181, _, _ => exact zw_181
  | 182, _, _ => exact zw_182
  | 183, _, _ => exact zw_183
  | 184, _, _ => exact zw_184
  | 185, _, _ => exact zw_185
  | 186, _, _ => exact zw_186
  | 187, _, _ => exact zw_187
  | 188, _, _ => exact zw_188
  | 189, _, _ => exact zw_189
  | 190, _, _ => exact zw_190
  | 191, _, _ => exact zw_191
  | 192, _, _ => exact zw_192
  | 193, _, _ => exact zw_193
  | 194, _, _ => exact zw_194
  | 195, _, _ => exact zw_195
  | 196, _, _ => exact zw_196
  | 197, _, _ => exact zw_197
  | 198, _, _ => exact zw_198
  | 199, _, _ => exact zw_199
  | 200, _, _ => exact zw_200
  | 201, _, _ => exact zw_201
  | 202, _, _ => exact zw_202
  | 203, _, _ => exact zw_203
  | 204, _, _ => exact zw_204
  | 205, _, _ => exact zw_205
  | 206, _, _ => exact zw_206
  | 207, _, _ => exact zw_207
  | 208, _, _ => exact zw_208
  | 209, _, _ => exact zw_209
  | 210, _, _ => exact zw_210
  | 211, _, _ => exact zw_211
  | 212, _, _ => exact zw_212
  | 213, _, _ => exact zw_213
  | 214, _, _ => exact zw_214
  | 215, _, _ => exact zw_215
  | 216, _, _ => exact zw_216
  | 217, _, _ => exact zw_217
  | 218, _, _ => exact zw_218
  | 219, _, _ => exact zw_219
  | 220, _, _ => exact zw_220
  | 221, _, _ => exact zw_221
  | 222, _, _ => exact zw_222
  | 223, _, _ => exact zw_223
  | 224, _, _ => exact zw_224
  | 225, _, _ => exact zw_225
  | 226, _, _ => exact zw_226
  | 227, _, _ => exact zw_227
  | 228, _, _ => exact zw_228
  | 229, _, _ => exact zw_229
  | 230, _, _ => exact zw_230
  | 231, _, _ => exact zw_231
  | 232, _, _ => exact zw_232
  | z + 233, _, h2 => exact absurd h2 (by omega)
