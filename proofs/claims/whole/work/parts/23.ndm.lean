/-! The methods by numbers (printed by wip/gen/gen.py). -/
def nd_ml_0 : List nm_M := [
  ((⟨"PaperParcels", "<init>", "()V"⟩, prog_1_method_1_code, 1, none), 2, 1, 0, 146, 116, 145, 0),
  ((⟨"java/lang/Object", "<init>", "()V"⟩, object_method_1_code, 1, none), 9, 1, 99, 149, 0, 148, 0),
  ((⟨"PaperParcels$Row", "<init>", "(I)V"⟩, prog_8_method_1_code, 2, none), 2, 2, 1, 154, 117, 153, 0),
  ((⟨"PaperParcels$Paper", "<init>", "(II)V"⟩, prog_5_method_1_code, 3, none), 2, 3, 2, 181, 118, 180, 0),
  ((⟨"PaperParcels$Reader", "<init>", "()V"⟩, prog_7_method_1_code, 1, none), 2, 1, 3, 230, 119, 229, 0),
  ((⟨"PaperParcels$Part", "<init>", "(I)V"⟩, prog_6_method_1_code, 2, none), 2, 2, 4, 238, 120, 237, 0),
  ((⟨"PaperParcels$Elements", "<init>", "(LPaperParcels$Row;)V"⟩, prog_3_method_1_code, 2, none), 2, 2, 5, 263, 121, 262, 0),
  ((⟨"PaperParcels$Styles", "<init>", "(LPaperParcels$Elements;LPaperParcels$Elements;)V"⟩, prog_11_method_1_code, 3, none), 2, 3, 6, 329, 122, 328, 0),
  ((⟨"PaperParcels$Builder", "<init>", "(LPaperParcels$Elements;LPaperParcels$Styles;LPaperParcels$Paper;)V"⟩, prog_2_method_1_code, 4, none), 2, 4, 7, 354, 123, 353, 0),
  ((⟨"PaperParcels$Script", "<init>", "(LPaperParcels$Paper;LPaperParcels$Paper;LPaperParcels$Paper;)V"⟩, prog_10_method_1_code, 4, none), 2, 4, 8, 406, 124, 405, 0),
  ((⟨"PaperParcels$Tree", "<init>", "(LPaperParcels$Paper;)V"⟩, prog_12_method_1_code, 2, none), 2, 2, 9, 412, 125, 411, 0),
  ((⟨"PaperParcels$Emitter", "<init>", "()V"⟩, prog_4_method_1_code, 1, none), 2, 1, 10, 488, 126, 487, 0),
  ((⟨"PaperParcels", "write", "(J)Z"⟩, prog_1_method_2_code, 6, (some .boolean)), 1, 2, 0, 531, 116, 529, 530),
  ((⟨"PaperParcels$Row", "put", "(I)V"⟩, prog_8_method_3_code, 2, none), 1, 2, 1, 535, 117, 533, 534),
  ((⟨"PaperParcels", "wipe", "()I"⟩, prog_1_method_3_code, 2, (some .int)), 1, 1, 0, 539, 116, 537, 538),
  ((⟨"PaperParcels$Row", "clear", "()V"⟩, prog_8_method_2_code, 1, none), 1, 1, 1, 543, 117, 541, 542),
  ((⟨"PaperParcels", "length", "()I"⟩, prog_1_method_4_code, 1, (some .int)), 1, 1, 0, 547, 116, 545, 546),
  ((⟨"PaperParcels", "character", "(I)I"⟩, prog_1_method_5_code, 2, (some .int)), 1, 2, 0, 551, 116, 549, 550),
  ((⟨"PaperParcels$Row", "at", "(I)I"⟩, prog_8_method_6_code, 2, (some .int)), 1, 2, 1, 555, 117, 553, 554),
  ((⟨"PaperParcels", "place", "()I"⟩, prog_1_method_7_code, 1, (some .int)), 1, 1, 0, 559, 116, 557, 558),
  ((⟨"PaperParcels", "steps", "()I"⟩, prog_1_method_15_code, 1, (some .int)), 1, 1, 0, 563, 116, 561, 562),
  ((⟨"PaperParcels", "read", "(I)I"⟩, prog_1_method_6_code, 3, (some .int)), 1, 2, 0, 571, 116, 569, 570),
  ((⟨"java/lang/Throwable", "<init>", "()V"⟩, prog_24_method_1_code, 1, none), 2, 1, 99, 596, 128, 595, 0),
  ((⟨"java/lang/IllegalArgumentException", "<init>", "()V"⟩, prog_16_method_1_code, 1, none), 2, 1, 99, 616, 131, 615, 0),
  ((⟨"java/lang/RuntimeException", "<init>", "()V"⟩, prog_20_method_1_code, 1, none), 2, 1, 99, 619, 130, 618, 0),
  ((⟨"java/lang/Exception", "<init>", "()V"⟩, prog_15_method_1_code, 1, none), 2, 1, 99, 622, 129, 621, 0),
  ((⟨"PaperParcels$Reader", "findFault", "(LPaperParcels$Row;)I"⟩, prog_7_method_2_code, 3, (some .int)), 1, 2, 3, 639, 119, 637, 638),
  ((⟨"PaperParcels$Reader", "packageFault", "(LPaperParcels$Row;)I"⟩, prog_7_method_5_code, 3, (some .int)), 1, 2, 3, 643, 119, 642, 1),
  ((⟨"PaperParcels$Part", "scan", "(LPaperParcels$Row;I)I"⟩, prog_6_method_2_code, 6, (some .int)), 1, 3, 4, 647, 120, 645, 646),
  ((⟨"PaperParcels", "isDigit", "(I)Z"⟩, prog_1_method_22_code, 1, (some .boolean)), 0, 1, 0, 651, 116, 650, 0),
  ((⟨"PaperParcels$Part", "isHex", "(I)Z"⟩, prog_6_method_4_code, 1, (some .boolean)), 0, 1, 4, 654, 120, 653, 0),
  ((⟨"java/lang/Math", "min", "(II)I"⟩, prog_19_method_69_code, 2, (some .int)), 0, 2, 99, 657, 132, 656, 0),
  ((⟨"PaperParcels$Part", "end", "()I"⟩, prog_6_method_3_code, 1, (some .int)), 1, 1, 4, 661, 120, 659, 660),
  ((⟨"PaperParcels$Reader", "isFault", "(I)Z"⟩, prog_7_method_3_code, 2, (some .boolean)), 1, 2, 3, 665, 119, 664, 2),
  ((⟨"PaperParcels$Reader", "contentFault", "(LPaperParcels$Part;LPaperParcels$Row;)I"⟩, prog_7_method_6_code, 3, (some .int)), 1, 3, 3, 669, 119, 668, 3),
  ((⟨"PaperParcels$Part", "unpack", "(LPaperParcels$Row;)I"⟩, prog_6_method_5_code, 4, (some .int)), 1, 2, 4, 673, 120, 671, 672),
  ((⟨"PaperParcels$Part", "follow", "(LPaperParcels$Row;I)Z"⟩, prog_6_method_6_code, 6, (some .boolean)), 1, 3, 4, 678, 120, 677, 4),
  ((⟨"PaperParcels$Part", "checkFault", "(LPaperParcels$Row;)I"⟩, prog_6_method_7_code, 4, (some .int)), 1, 2, 4, 683, 120, 681, 682),
  ((⟨"PaperParcels$Row", "checkSum", "()I"⟩, prog_8_method_7_code, 5, (some .int)), 1, 1, 1, 687, 117, 685, 686),
  ((⟨"PaperParcels", "hexDigit", "(I)I"⟩, prog_1_method_25_code, 1, (some .int)), 0, 1, 0, 692, 116, 691, 0)]
def nd_ml_1 : List nm_M := [
  ((⟨"PaperParcels$Elements", "parse", "()I"⟩, prog_3_method_2_code, 4, (some .int)), 1, 1, 5, 696, 121, 694, 695),
  ((⟨"java/util/Arrays", "fill", "([II)V"⟩, prog_26_method_103_code, 4, none), 0, 2, 99, 699, 133, 698, 0),
  ((⟨"PaperParcels$Elements", "takeBegin", "()Z"⟩, prog_3_method_4_code, 4, (some .boolean)), 1, 1, 5, 704, 121, 703, 5),
  ((⟨"PaperParcels", "isSmall", "(I)Z"⟩, prog_1_method_23_code, 1, (some .boolean)), 0, 1, 0, 707, 116, 706, 0),
  ((⟨"PaperParcels$Elements", "addElement", "(I)I"⟩, prog_3_method_5_code, 2, (some .int)), 1, 2, 5, 711, 121, 710, 6),
  ((⟨"PaperParcels$Elements", "takeAttribute", "(I)Z"⟩, prog_3_method_7_code, 5, (some .boolean)), 1, 2, 5, 715, 121, 714, 7),
  ((⟨"PaperParcels$Elements", "attribute", "(II)I"⟩, prog_3_method_10_code, 4, (some .int)), 1, 3, 5, 719, 121, 717, 718),
  ((⟨"PaperParcels$Elements", "take", "(I)Z"⟩, prog_3_method_8_code, 2, (some .boolean)), 1, 2, 5, 723, 121, 722, 8),
  ((⟨"PaperParcels$Elements", "isOfValue", "(I)Z"⟩, prog_3_method_9_code, 1, (some .boolean)), 0, 1, 5, 726, 121, 725, 0),
  ((⟨"PaperParcels", "isCapital", "(I)Z"⟩, prog_1_method_24_code, 1, (some .boolean)), 0, 1, 0, 729, 116, 728, 0),
  ((⟨"PaperParcels$Elements", "takeEnd", "()Z"⟩, prog_3_method_6_code, 1, (some .boolean)), 1, 1, 5, 734, 121, 733, 9),
  ((⟨"PaperParcels$Elements", "takeLetter", "(I)Z"⟩, prog_3_method_3_code, 2, (some .boolean)), 1, 2, 5, 738, 121, 737, 10),
  ((⟨"PaperParcels$Reader", "inBody", "(I)I"⟩, prog_7_method_4_code, 1, (some .int)), 0, 1, 3, 741, 119, 740, 0),
  ((⟨"PaperParcels$Rules", "firstFault", "(LPaperParcels$Elements;I)I"⟩, prog_9_method_2_code, 4, (some .int)), 0, 2, 99, 744, 134, 743, 0),
  ((⟨"PaperParcels$Rules", "faultOf", "(LPaperParcels$Elements;II)I"⟩, prog_9_method_3_code, 7, (some .int)), 0, 3, 99, 747, 134, 746, 0),
  ((⟨"PaperParcels$Rules", "mayStandIn", "(II)Z"⟩, prog_9_method_4_code, 2, (some .boolean)), 0, 2, 99, 750, 134, 749, 0),
  ((⟨"PaperParcels$Rules", "mayHave", "(LPaperParcels$Elements;II)Z"⟩, prog_9_method_5_code, 6, (some .boolean)), 0, 3, 99, 753, 134, 752, 0),
  ((⟨"PaperParcels$Elements", "valueSign", "(II)I"⟩, prog_3_method_11_code, 3, (some .int)), 1, 3, 5, 758, 121, 756, 757),
  ((⟨"PaperParcels$Elements", "firstLetter", "(I)I"⟩, prog_3_method_13_code, 3, (some .int)), 1, 2, 5, 765, 121, 763, 764),
  ((⟨"PaperParcels$Rules", "lacksElement", "(LPaperParcels$Elements;I)Z"⟩, prog_9_method_6_code, 3, (some .boolean)), 0, 2, 99, 768, 134, 767, 0),
  ((⟨"PaperParcels$Elements", "hasDirectlyIn", "(III)Z"⟩, prog_3_method_14_code, 5, (some .boolean)), 1, 4, 5, 772, 121, 770, 771),
  ((⟨"PaperParcels$Styles", "firstFault", "()I"⟩, prog_11_method_2_code, 3, (some .int)), 1, 1, 6, 776, 122, 774, 775),
  ((⟨"PaperParcels$Styles", "firstNamedAgain", "()I"⟩, prog_11_method_3_code, 3, (some .int)), 1, 1, 6, 780, 122, 779, 11),
  ((⟨"PaperParcels$Styles", "nameIn", "(LPaperParcels$Elements;II)I"⟩, prog_11_method_7_code, 4, (some .int)), 0, 3, 6, 784, 122, 783, 0),
  ((⟨"PaperParcels$Styles", "firstWithoutName", "(LPaperParcels$Elements;I)I"⟩, prog_11_method_4_code, 5, (some .int)), 1, 3, 6, 791, 122, 790, 12),
  ((⟨"PaperParcels$Styles", "firstWithoutEnd", "()I"⟩, prog_11_method_5_code, 4, (some .int)), 1, 1, 6, 795, 122, 794, 13),
  ((⟨"PaperParcels$Styles", "parentOf", "(I)I"⟩, prog_11_method_6_code, 3, (some .int)), 1, 2, 6, 799, 122, 798, 14),
  ((⟨"PaperParcels$Styles", "settle", "()V"⟩, prog_11_method_8_code, 2, none), 1, 1, 6, 803, 122, 801, 802),
  ((⟨"PaperParcels$Styles", "given", "(II)I"⟩, prog_11_method_9_code, 6, (some .int)), 1, 3, 6, 807, 122, 806, 15),
  ((⟨"PaperParcels$Elements", "valueNumber", "(I)I"⟩, prog_3_method_12_code, 4, (some .int)), 1, 2, 5, 811, 121, 809, 810),
  ((⟨"PaperParcels$Builder", "build", "()Z"⟩, prog_2_method_2_code, 4, (some .boolean)), 1, 1, 7, 816, 123, 814, 815),
  ((⟨"PaperParcels$Paper", "clear", "()V"⟩, prog_5_method_2_code, 1, none), 1, 1, 2, 820, 118, 818, 819),
  ((⟨"PaperParcels$Builder", "addElement", "(I)Z"⟩, prog_2_method_3_code, 4, (some .boolean)), 1, 2, 7, 825, 123, 824, 16),
  ((⟨"PaperParcels$Styles", "lookOf", "(II)I"⟩, prog_11_method_10_code, 7, (some .int)), 1, 3, 6, 829, 122, 827, 828),
  ((⟨"PaperParcels", "numberOfLook", "(II)I"⟩, prog_1_method_21_code, 2, (some .int)), 0, 2, 0, 832, 116, 831, 0),
  ((⟨"PaperParcels$Paper", "add", "(III)Z"⟩, prog_5_method_3_code, 4, (some .boolean)), 1, 4, 2, 836, 118, 834, 835),
  ((⟨"PaperParcels$Builder", "addLetter", "(II)Z"⟩, prog_2_method_4_code, 3, (some .boolean)), 1, 3, 7, 841, 123, 840, 17),
  ((⟨"PaperParcels$Paper", "endsInRun", "(I)Z"⟩, prog_5_method_8_code, 2, (some .boolean)), 1, 2, 2, 845, 118, 843, 844),
  ((⟨"PaperParcels$Paper", "addSign", "(I)V"⟩, prog_5_method_4_code, 2, none), 1, 2, 2, 849, 118, 847, 848),
  ((⟨"PaperParcels$Paper", "copyFrom", "(LPaperParcels$Paper;)V"⟩, prog_5_method_6_code, 3, none), 1, 2, 2, 854, 118, 852, 853)]
def nd_ml_2 : List nm_M := [
  ((⟨"PaperParcels$Paper", "addCopy", "(LPaperParcels$Paper;II)V"⟩, prog_5_method_5_code, 5, none), 1, 4, 2, 859, 118, 857, 858),
  ((⟨"PaperParcels$Script", "drop", "()V"⟩, prog_10_method_2_code, 1, none), 1, 1, 8, 865, 124, 863, 864),
  ((⟨"PaperParcels", "nodes", "(I)I"⟩, prog_1_method_8_code, 2, (some .int)), 1, 2, 0, 872, 116, 870, 871),
  ((⟨"PaperParcels", "inSlot", "(I)LPaperParcels$Paper;"⟩, prog_1_method_19_code, 2, (some (.object "PaperParcels$Paper"))), 1, 2, 0, 876, 116, 875, 18),
  ((⟨"PaperParcels", "kind", "(II)I"⟩, prog_1_method_9_code, 3, (some .int)), 1, 3, 0, 884, 116, 882, 883),
  ((⟨"PaperParcels", "withNode", "(LPaperParcels$Paper;I)LPaperParcels$Paper;"⟩, prog_1_method_20_code, 2, (some (.object "PaperParcels$Paper"))), 0, 2, 0, 887, 116, 886, 0),
  ((⟨"java/lang/IndexOutOfBoundsException", "<init>", "()V"⟩, prog_18_method_1_code, 1, none), 2, 1, 99, 899, 135, 898, 0),
  ((⟨"PaperParcels", "above", "(II)I"⟩, prog_1_method_10_code, 3, (some .int)), 1, 3, 0, 909, 116, 907, 908),
  ((⟨"PaperParcels", "look", "(III)I"⟩, prog_1_method_11_code, 6, (some .int)), 1, 4, 0, 916, 116, 914, 915),
  ((⟨"PaperParcels", "letters", "(II)I"⟩, prog_1_method_12_code, 3, (some .int)), 1, 3, 0, 924, 116, 922, 923),
  ((⟨"PaperParcels", "letter", "(III)I"⟩, prog_1_method_13_code, 4, (some .int)), 1, 4, 0, 931, 116, 929, 930),
  ((⟨"PaperParcels$Paper", "signAt", "(II)I"⟩, prog_5_method_7_code, 3, (some .int)), 1, 3, 2, 935, 118, 933, 934),
  ((⟨"PaperParcels", "compare", "()I"⟩, prog_1_method_14_code, 1, (some .int)), 1, 1, 0, 943, 116, 941, 942),
  ((⟨"java/lang/IllegalStateException", "<init>", "()V"⟩, prog_17_method_1_code, 1, none), 2, 1, 99, 955, 136, 954, 0),
  ((⟨"PaperParcels$Script", "find", "()I"⟩, prog_10_method_3_code, 1, (some .int)), 1, 1, 8, 962, 124, 960, 961),
  ((⟨"PaperParcels$Tree", "link", "()V"⟩, prog_12_method_2_code, 3, none), 1, 1, 9, 966, 125, 964, 965),
  ((⟨"PaperParcels$Script", "fillCosts", "()V"⟩, prog_10_method_4_code, 4, none), 1, 1, 8, 970, 124, 969, 19),
  ((⟨"PaperParcels$Script", "costTakingOut", "(II)I"⟩, prog_10_method_5_code, 3, (some .int)), 1, 3, 8, 974, 124, 973, 20),
  ((⟨"PaperParcels$Script", "costPuttingIn", "(II)I"⟩, prog_10_method_6_code, 3, (some .int)), 1, 3, 8, 978, 124, 977, 21),
  ((⟨"PaperParcels$Script", "sameKind", "(II)Z"⟩, prog_10_method_8_code, 3, (some .boolean)), 1, 3, 8, 983, 124, 982, 22),
  ((⟨"PaperParcels$Script", "costOfChange", "(II)I"⟩, prog_10_method_9_code, 3, (some .int)), 1, 3, 8, 987, 124, 986, 23),
  ((⟨"PaperParcels$Script", "sameSigns", "(II)Z"⟩, prog_10_method_10_code, 5, (some .boolean)), 1, 3, 8, 991, 124, 990, 24),
  ((⟨"PaperParcels$Script", "costTogether", "(II)I"⟩, prog_10_method_7_code, 3, (some .int)), 1, 3, 8, 996, 124, 995, 25),
  ((⟨"PaperParcels$Script", "addSteps", "()V"⟩, prog_10_method_11_code, 6, none), 1, 1, 8, 1001, 124, 1000, 26),
  ((⟨"PaperParcels$Script", "addChange", "(II)V"⟩, prog_10_method_12_code, 3, none), 1, 3, 8, 1005, 124, 1004, 27),
  ((⟨"PaperParcels$Script", "addStep", "(IIII)V"⟩, prog_10_method_14_code, 5, none), 1, 5, 8, 1009, 124, 1008, 28),
  ((⟨"PaperParcels$Script", "isLeastTogether", "(II)Z"⟩, prog_10_method_13_code, 3, (some .boolean)), 1, 3, 8, 1013, 124, 1012, 29),
  ((⟨"PaperParcels", "step", "(IZ)I"⟩, prog_1_method_16_code, 3, (some .int)), 1, 3, 0, 1020, 116, 1018, 1019),
  ((⟨"PaperParcels", "apply", "(I)I"⟩, prog_1_method_17_code, 2, (some .int)), 1, 2, 0, 1027, 116, 1025, 1026),
  ((⟨"PaperParcels$Script", "carryOut", "(I)V"⟩, prog_10_method_15_code, 3, none), 1, 2, 8, 1031, 124, 1029, 1030),
  ((⟨"PaperParcels$Script", "copyRows", "()V"⟩, prog_10_method_16_code, 4, none), 1, 1, 8, 1037, 124, 1036, 30),
  ((⟨"PaperParcels$Script", "endRows", "(II)V"⟩, prog_10_method_18_code, 5, none), 1, 3, 8, 1041, 124, 1040, 31),
  ((⟨"PaperParcels$Script", "putIn", "(II)V"⟩, prog_10_method_19_code, 4, none), 1, 3, 8, 1045, 124, 1044, 32),
  ((⟨"PaperParcels$Script", "copyFresh", "(II)V"⟩, prog_10_method_20_code, 5, none), 1, 3, 8, 1049, 124, 1048, 33),
  ((⟨"PaperParcels$Script", "copyOld", "(II)V"⟩, prog_10_method_17_code, 3, none), 1, 3, 8, 1054, 124, 1053, 34),
  ((⟨"PaperParcels", "emit", "(II)I"⟩, prog_1_method_18_code, 4, (some .int)), 1, 3, 0, 1062, 116, 1060, 1061),
  ((⟨"PaperParcels$Emitter", "compose", "(LPaperParcels$Paper;I)Z"⟩, prog_4_method_2_code, 3, (some .boolean)), 1, 3, 10, 1066, 126, 1064, 1065),
  ((⟨"PaperParcels$Emitter", "gatherLooks", "(LPaperParcels$Paper;)Z"⟩, prog_4_method_3_code, 3, (some .boolean)), 1, 2, 10, 1070, 126, 1069, 35),
  ((⟨"PaperParcels$Emitter", "needsLook", "(LPaperParcels$Paper;I)Z"⟩, prog_4_method_4_code, 3, (some .boolean)), 0, 2, 10, 1073, 126, 1072, 0),
  ((⟨"PaperParcels$Emitter", "styleFor", "(I)I"⟩, prog_4_method_5_code, 3, (some .int)), 1, 2, 10, 1077, 126, 1076, 36)]
def nd_ml_3 : List nm_M := [
  ((⟨"PaperParcels$Emitter", "putSheet", "()V"⟩, prog_4_method_6_code, 2, none), 1, 1, 10, 1081, 126, 1080, 37),
  ((⟨"PaperParcels$Row", "putText", "(Ljava/lang/String;)V"⟩, prog_8_method_4_code, 3, none), 1, 2, 1, 1087, 117, 1085, 1086),
  ((⟨"java/lang/String", "length", "()I"⟩, prog_21_method_54_code, 1, (some .int)), 9, 1, 99, 1091, 137, 1089, 1090),
  ((⟨"java/lang/String", "coder", "()B"⟩, prog_21_method_152_code, 1, (some .byte)), 9, 1, 99, 1095, 137, 1093, 1094),
  ((⟨"java/lang/String", "charAt", "(I)C"⟩, prog_21_method_56_code, 2, (some .char)), 9, 2, 99, 1101, 137, 1099, 1100),
  ((⟨"java/lang/String", "isLatin1", "()Z"⟩, prog_21_method_154_code, 1, (some .boolean)), 9, 1, 99, 1105, 137, 1103, 1104),
  ((⟨"java/lang/StringLatin1", "charAt", "([BI)C"⟩, prog_22_method_2_code, 2, (some .char)), 0, 2, 99, 1108, 138, 1107, 0),
  ((⟨"java/lang/String", "checkIndex", "(II)V"⟩, prog_21_method_155_code, 2, none), 0, 2, 99, 1111, 137, 1110, 0),
  ((⟨"jdk/internal/util/Preconditions", "checkIndex", "(IILjava/util/function/BiFunction;)I"⟩, prog_27_method_11_code, 3, (some .int)), 0, 3, 99, 1116, 139, 1115, 0),
  ((⟨"java/lang/StringUTF16", "charAt", "([BI)C"⟩, prog_23_method_83_code, 2, (some .char)), 0, 2, 99, 1119, 140, 1118, 0),
  ((⟨"java/lang/StringUTF16", "checkIndex", "(I[B)V"⟩, prog_23_method_91_code, 2, none), 0, 2, 99, 1122, 140, 1121, 0),
  ((⟨"java/lang/StringUTF16", "length", "([B)I"⟩, prog_23_method_6_code, 1, (some .int)), 0, 1, 99, 1125, 140, 1124, 0),
  ((⟨"java/lang/StringUTF16", "getChar", "([BI)C"⟩, prog_23_method_5_code, 2, (some .char)), 0, 2, 99, 1129, 140, 1128, 0),
  ((⟨"PaperParcels$Emitter", "putStyle", "(I)V"⟩, prog_4_method_7_code, 3, none), 1, 2, 10, 1141, 126, 1140, 38),
  ((⟨"PaperParcels$Emitter", "putBody", "(LPaperParcels$Paper;)V"⟩, prog_4_method_8_code, 4, none), 1, 2, 10, 1153, 126, 1152, 39),
  ((⟨"PaperParcels$Emitter", "putEnds", "(LPaperParcels$Paper;II)V"⟩, prog_4_method_9_code, 6, none), 1, 4, 10, 1157, 126, 1156, 40),
  ((⟨"PaperParcels$Emitter", "putEnd", "(LPaperParcels$Paper;I)V"⟩, prog_4_method_11_code, 3, none), 1, 3, 10, 1161, 126, 1160, 41),
  ((⟨"PaperParcels$Emitter", "putRun", "(LPaperParcels$Paper;I)V"⟩, prog_4_method_12_code, 5, none), 1, 3, 10, 1168, 126, 1167, 42),
  ((⟨"PaperParcels$Emitter", "putBegin", "(LPaperParcels$Paper;I)V"⟩, prog_4_method_10_code, 3, none), 1, 3, 10, 1172, 126, 1171, 43),
  ((⟨"PaperParcels$Paper", "isEmptyNode", "(I)Z"⟩, prog_5_method_9_code, 2, (some .boolean)), 1, 2, 2, 1177, 118, 1175, 1176),
  ((⟨"PaperParcels$Emitter", "putPart", "(ILPaperParcels$Row;I)V"⟩, prog_4_method_13_code, 6, none), 1, 4, 10, 1182, 126, 1181, 44),
  ((⟨"PaperParcels$Emitter", "pack", "(LPaperParcels$Row;)V"⟩, prog_4_method_14_code, 5, none), 1, 2, 10, 1186, 126, 1185, 45),
  ((⟨"PaperParcels$Emitter", "bestBack", "(LPaperParcels$Row;I)I"⟩, prog_4_method_15_code, 6, (some .int)), 0, 2, 10, 1189, 126, 1188, 0),
  ((⟨"PaperParcels$Emitter", "sameFrom", "(LPaperParcels$Row;II)I"⟩, prog_4_method_16_code, 4, (some .int)), 0, 3, 10, 1192, 126, 1191, 0),
  ((⟨"PaperParcels$Row", "putAll", "(LPaperParcels$Row;)V"⟩, prog_8_method_5_code, 3, none), 1, 2, 1, 1197, 117, 1195, 1196),
  ((⟨"java/lang/UnsupportedOperationException", "<init>", "()V"⟩, prog_25_method_1_code, 1, none), 2, 1, 99, 1211, 141, 1210, 0),
  ((⟨"PaperParcelsModel", "<init>", "()V"⟩, prog_14_method_1_code, 1, none), 2, 1, 11, 1221, 127, 1220, 0),
  ((⟨"PaperParcelsModel", "thrown", "()I"⟩, prog_14_method_2_code, 1, (some .int)), 1, 1, 11, 1399, 127, 1397, 1398),
  ((⟨"PaperParcelsModel", "write", "(J)Z"⟩, prog_14_method_4_code, 7, (some .boolean)), 1, 2, 11, 1403, 127, 1401, 1402),
  ((⟨"PaperParcelsModel", "wipe", "()I"⟩, prog_14_method_5_code, 2, (some .int)), 1, 1, 11, 1408, 127, 1406, 1407),
  ((⟨"PaperParcelsModel", "length", "()I"⟩, prog_14_method_6_code, 1, (some .int)), 1, 1, 11, 1412, 127, 1410, 1411),
  ((⟨"PaperParcelsModel", "character", "(I)I"⟩, prog_14_method_7_code, 2, (some .int)), 1, 2, 11, 1416, 127, 1414, 1415),
  ((⟨"PaperParcelsModel", "read", "(I)I"⟩, prog_14_method_55_code, 4, (some .int)), 1, 2, 11, 1420, 127, 1418, 1419),
  ((⟨"PaperParcelsModel", "textFault", "()I"⟩, prog_14_method_53_code, 4, (some .int)), 1, 1, 11, 1424, 127, 1423, 46),
  ((⟨"PaperParcelsModel", "outline", "()I"⟩, prog_14_method_13_code, 4, (some .int)), 1, 1, 11, 1428, 127, 1427, 47),
  ((⟨"PaperParcelsModel", "charAt", "(I)I"⟩, prog_14_method_8_code, 2, (some .int)), 1, 2, 11, 1432, 127, 1431, 48),
  ((⟨"PaperParcelsModel", "isDigit", "(I)Z"⟩, prog_14_method_9_code, 1, (some .boolean)), 0, 1, 11, 1435, 127, 1434, 0),
  ((⟨"PaperParcelsModel", "hex", "(I)I"⟩, prog_14_method_12_code, 1, (some .int)), 0, 1, 11, 1438, 127, 1437, 0),
  ((⟨"PaperParcelsModel", "fail", "(II)I"⟩, prog_14_method_50_code, 3, (some .int)), 1, 3, 11, 1442, 127, 1441, 49),
  ((⟨"PaperParcelsModel", "partFault", "(I)I"⟩, prog_14_method_51_code, 3, (some .int)), 1, 2, 11, 1446, 127, 1445, 50)]
def nd_ml_4 : List nm_M := [
  ((⟨"PaperParcelsModel", "unpack", "(I)I"⟩, prog_14_method_15_code, 9, (some .int)), 1, 2, 11, 1450, 127, 1449, 51),
  ((⟨"PaperParcelsModel", "reference", "(III)I"⟩, prog_14_method_14_code, 5, (some .int)), 1, 4, 11, 1454, 127, 1453, 52),
  ((⟨"PaperParcelsModel", "isChecked", "(I)Z"⟩, prog_14_method_17_code, 5, (some .boolean)), 1, 2, 11, 1458, 127, 1457, 53),
  ((⟨"PaperParcelsModel", "checked", "(II)I"⟩, prog_14_method_16_code, 4, (some .int)), 0, 2, 11, 1462, 127, 1461, 0),
  ((⟨"PaperParcelsModel", "scan", "(I)I"⟩, prog_14_method_24_code, 3, (some .int)), 1, 2, 11, 1467, 127, 1466, 54),
  ((⟨"PaperParcelsModel", "in", "(II)I"⟩, prog_14_method_18_code, 3, (some .int)), 1, 3, 11, 1471, 127, 1470, 55),
  ((⟨"PaperParcelsModel", "passEnd", "(I)V"⟩, prog_14_method_23_code, 3, none), 1, 2, 11, 1475, 127, 1474, 56),
  ((⟨"PaperParcelsModel", "stop", "(I)V"⟩, prog_14_method_20_code, 2, none), 1, 2, 11, 1479, 127, 1478, 57),
  ((⟨"PaperParcelsModel", "passBeginning", "(I)V"⟩, prog_14_method_22_code, 5, none), 1, 2, 11, 1483, 127, 1482, 58),
  ((⟨"PaperParcelsModel", "isSmall", "(I)Z"⟩, prog_14_method_11_code, 1, (some .boolean)), 0, 1, 11, 1486, 127, 1485, 0),
  ((⟨"PaperParcelsModel", "passAttribute", "(II)I"⟩, prog_14_method_21_code, 5, (some .int)), 1, 3, 11, 1490, 127, 1489, 59),
  ((⟨"PaperParcelsModel", "isPlain", "(I)Z"⟩, prog_14_method_19_code, 1, (some .boolean)), 0, 1, 11, 1493, 127, 1492, 0),
  ((⟨"PaperParcelsModel", "isCapital", "(I)Z"⟩, prog_14_method_10_code, 1, (some .boolean)), 0, 1, 11, 1496, 127, 1495, 0),
  ((⟨"PaperParcelsModel", "documentFault", "()I"⟩, prog_14_method_54_code, 3, (some .int)), 1, 1, 11, 1500, 127, 1499, 60),
  ((⟨"PaperParcelsModel", "elementFault", "(I)I"⟩, prog_14_method_52_code, 4, (some .int)), 1, 2, 11, 1504, 127, 1503, 61),
  ((⟨"PaperParcelsModel", "misfit", "(II)I"⟩, prog_14_method_33_code, 8, (some .int)), 1, 3, 11, 1508, 127, 1507, 62),
  ((⟨"PaperParcelsModel", "stands", "(II)Z"⟩, prog_14_method_26_code, 5, (some .boolean)), 1, 3, 11, 1512, 127, 1511, 63),
  ((⟨"PaperParcelsModel", "kindOver", "(II)I"⟩, prog_14_method_25_code, 4, (some .int)), 1, 3, 11, 1516, 127, 1515, 64),
  ((⟨"PaperParcelsModel", "badAttribute", "(II)I"⟩, prog_14_method_30_code, 5, (some .int)), 1, 3, 11, 1520, 127, 1519, 65),
  ((⟨"PaperParcelsModel", "pastValue", "(II)I"⟩, prog_14_method_29_code, 4, (some .int)), 1, 3, 11, 1524, 127, 1523, 66),
  ((⟨"PaperParcelsModel", "may", "(IIIII)Z"⟩, prog_14_method_27_code, 9, (some .boolean)), 1, 6, 11, 1528, 127, 1527, 67),
  ((⟨"PaperParcelsModel", "valueAt", "(III)I"⟩, prog_14_method_28_code, 6, (some .int)), 1, 4, 11, 1532, 127, 1531, 68),
  ((⟨"PaperParcelsModel", "firstLetter", "(II)I"⟩, prog_14_method_31_code, 4, (some .int)), 1, 3, 11, 1536, 127, 1535, 69),
  ((⟨"PaperParcelsModel", "has", "(IIII)Z"⟩, prog_14_method_32_code, 8, (some .boolean)), 1, 5, 11, 1540, 127, 1539, 70),
  ((⟨"PaperParcelsModel", "noteStyles", "()I"⟩, prog_14_method_37_code, 3, (some .int)), 1, 1, 11, 1544, 127, 1543, 71),
  ((⟨"PaperParcelsModel", "capital", "(III)I"⟩, prog_14_method_34_code, 5, (some .int)), 1, 4, 11, 1548, 127, 1547, 72),
  ((⟨"PaperParcelsModel", "number", "(II)I"⟩, prog_14_method_35_code, 5, (some .int)), 1, 3, 11, 1552, 127, 1551, 73),
  ((⟨"PaperParcelsModel", "ends", "(I)Z"⟩, prog_14_method_36_code, 4, (some .boolean)), 1, 2, 11, 1556, 127, 1555, 74),
  ((⟨"PaperParcelsModel", "unknownStyle", "()I"⟩, prog_14_method_38_code, 3, (some .int)), 1, 1, 11, 1560, 127, 1559, 75),
  ((⟨"PaperParcelsModel", "form", "()V"⟩, prog_14_method_47_code, 4, none), 1, 1, 11, 1564, 127, 1563, 76),
  ((⟨"PaperParcelsModel", "addNode", "(III)V"⟩, prog_14_method_41_code, 6, none), 1, 4, 11, 1568, 127, 1567, 77),
  ((⟨"PaperParcelsModel", "formParagraph", "(I)V"⟩, prog_14_method_46_code, 6, none), 1, 2, 11, 1572, 127, 1571, 78),
  ((⟨"PaperParcelsModel", "giveLook", "(II)V"⟩, prog_14_method_45_code, 4, none), 1, 3, 11, 1576, 127, 1575, 79),
  ((⟨"PaperParcelsModel", "lookOf", "(II)I"⟩, prog_14_method_40_code, 6, (some .int)), 1, 3, 11, 1580, 127, 1579, 80),
  ((⟨"PaperParcelsModel", "given", "(II)I"⟩, prog_14_method_39_code, 4, (some .int)), 1, 3, 11, 1584, 127, 1583, 81),
  ((⟨"PaperParcelsModel", "paragraphOf", "(I)I"⟩, prog_14_method_43_code, 3, (some .int)), 1, 2, 11, 1588, 127, 1587, 82),
  ((⟨"PaperParcelsModel", "hasLook", "(II)Z"⟩, prog_14_method_44_code, 5, (some .boolean)), 1, 3, 11, 1592, 127, 1591, 83),
  ((⟨"PaperParcelsModel", "addLetter", "(II)V"⟩, prog_14_method_42_code, 3, none), 1, 3, 11, 1596, 127, 1595, 84),
  ((⟨"PaperParcelsModel", "copyNode", "(IIII)V"⟩, prog_14_method_48_code, 5, none), 1, 5, 11, 1600, 127, 1599, 85),
  ((⟨"PaperParcelsModel", "copyInside", "(IIII)V"⟩, prog_14_method_49_code, 7, none), 1, 5, 11, 1604, 127, 1603, 86)]
def nd_ml_5 : List nm_M := [
  ((⟨"PaperParcelsModel", "place", "()I"⟩, prog_14_method_56_code, 1, (some .int)), 1, 1, 11, 1608, 127, 1606, 1607),
  ((⟨"PaperParcelsModel", "nodes", "(I)I"⟩, prog_14_method_58_code, 2, (some .int)), 1, 2, 11, 1612, 127, 1610, 1611),
  ((⟨"PaperParcelsModel", "isSlot", "(I)Z"⟩, prog_14_method_57_code, 1, (some .boolean)), 0, 1, 11, 1615, 127, 1614, 0),
  ((⟨"PaperParcelsModel", "kind", "(II)I"⟩, prog_14_method_60_code, 3, (some .int)), 1, 3, 11, 1619, 127, 1617, 1618),
  ((⟨"PaperParcelsModel", "isNode", "(II)Z"⟩, prog_14_method_59_code, 3, (some .boolean)), 1, 3, 11, 1623, 127, 1622, 87),
  ((⟨"PaperParcelsModel", "above", "(II)I"⟩, prog_14_method_61_code, 3, (some .int)), 1, 3, 11, 1627, 127, 1625, 1626),
  ((⟨"PaperParcelsModel", "look", "(III)I"⟩, prog_14_method_62_code, 4, (some .int)), 1, 4, 11, 1631, 127, 1629, 1630),
  ((⟨"PaperParcelsModel", "refuse", "(I)I"⟩, prog_14_method_3_code, 2, (some .int)), 1, 2, 11, 1635, 127, 1634, 88),
  ((⟨"PaperParcelsModel", "letters", "(II)I"⟩, prog_14_method_63_code, 3, (some .int)), 1, 3, 11, 1639, 127, 1637, 1638),
  ((⟨"PaperParcelsModel", "letter", "(III)I"⟩, prog_14_method_64_code, 4, (some .int)), 1, 4, 11, 1643, 127, 1641, 1642),
  ((⟨"PaperParcelsModel", "compare", "()I"⟩, prog_14_method_74_code, 2, (some .int)), 1, 1, 11, 1647, 127, 1645, 1646),
  ((⟨"PaperParcelsModel", "weigh", "(I)V"⟩, prog_14_method_65_code, 3, none), 1, 2, 11, 1651, 127, 1650, 89),
  ((⟨"PaperParcelsModel", "costs", "()V"⟩, prog_14_method_70_code, 3, none), 1, 1, 11, 1655, 127, 1654, 90),
  ((⟨"PaperParcelsModel", "lay", "(II)V"⟩, prog_14_method_69_code, 9, none), 1, 3, 11, 1659, 127, 1658, 91),
  ((⟨"PaperParcelsModel", "isPair", "(II)Z"⟩, prog_14_method_68_code, 3, (some .boolean)), 1, 3, 11, 1664, 127, 1663, 92),
  ((⟨"PaperParcelsModel", "change", "(II)I"⟩, prog_14_method_67_code, 5, (some .int)), 1, 3, 11, 1668, 127, 1667, 93),
  ((⟨"PaperParcelsModel", "sameLetters", "(II)Z"⟩, prog_14_method_66_code, 5, (some .boolean)), 1, 3, 11, 1672, 127, 1671, 94),
  ((⟨"PaperParcelsModel", "beginPair", "(III)V"⟩, prog_14_method_72_code, 4, none), 1, 4, 11, 1676, 127, 1675, 95),
  ((⟨"PaperParcelsModel", "addStep", "(IIII)V"⟩, prog_14_method_71_code, 5, none), 1, 5, 11, 1680, 127, 1679, 96),
  ((⟨"PaperParcelsModel", "goOn", "(I)Z"⟩, prog_14_method_73_code, 6, (some .boolean)), 1, 2, 11, 1684, 127, 1683, 97),
  ((⟨"PaperParcelsModel", "steps", "()I"⟩, prog_14_method_75_code, 1, (some .int)), 1, 1, 11, 1688, 127, 1686, 1687),
  ((⟨"PaperParcelsModel", "step", "(IZ)I"⟩, prog_14_method_76_code, 3, (some .int)), 1, 3, 11, 1692, 127, 1690, 1691),
  ((⟨"PaperParcelsModel", "apply", "(I)I"⟩, prog_14_method_81_code, 4, (some .int)), 1, 2, 11, 1696, 127, 1694, 1695),
  ((⟨"PaperParcelsModel", "mark", "(I)V"⟩, prog_14_method_79_code, 4, none), 1, 2, 11, 1700, 127, 1699, 98),
  ((⟨"PaperParcelsModel", "endOf", "(II)I"⟩, prog_14_method_77_code, 6, (some .int)), 1, 3, 11, 1704, 127, 1703, 99),
  ((⟨"PaperParcelsModel", "putIn", "(III)V"⟩, prog_14_method_78_code, 9, none), 1, 4, 11, 1708, 127, 1707, 100),
  ((⟨"PaperParcelsModel", "keep", "(I)V"⟩, prog_14_method_80_code, 3, none), 1, 2, 11, 1712, 127, 1711, 101),
  ((⟨"PaperParcelsModel", "emit", "(II)I"⟩, prog_14_method_97_code, 3, (some .int)), 1, 3, 11, 1716, 127, 1714, 1715),
  ((⟨"PaperParcelsModel", "sayStyles", "(I)V"⟩, prog_14_method_87_code, 4, none), 1, 2, 11, 1720, 127, 1719, 102),
  ((⟨"PaperParcelsModel", "needs", "(II)Z"⟩, prog_14_method_85_code, 5, (some .boolean)), 1, 3, 11, 1724, 127, 1723, 103),
  ((⟨"PaperParcelsModel", "placeOfLook", "(II)I"⟩, prog_14_method_86_code, 5, (some .int)), 1, 3, 11, 1728, 127, 1727, 104),
  ((⟨"PaperParcelsModel", "sayAll", "(IJ)V"⟩, prog_14_method_83_code, 6, none), 1, 3, 11, 1733, 127, 1732, 105),
  ((⟨"PaperParcelsModel", "say", "(II)V"⟩, prog_14_method_82_code, 3, none), 1, 3, 11, 1737, 127, 1736, 106),
  ((⟨"PaperParcelsModel", "sayAttribute", "(IIII)V"⟩, prog_14_method_84_code, 5, none), 1, 5, 11, 1744, 127, 1743, 107),
  ((⟨"PaperParcelsModel", "sayNodes", "(I)V"⟩, prog_14_method_90_code, 6, none), 1, 2, 11, 1749, 127, 1748, 108),
  ((⟨"PaperParcelsModel", "letterOf", "(I)I"⟩, prog_14_method_88_code, 1, (some .int)), 0, 1, 11, 1753, 127, 1752, 0),
  ((⟨"PaperParcelsModel", "sayRun", "(II)V"⟩, prog_14_method_89_code, 5, none), 1, 3, 11, 1757, 127, 1756, 109),
  ((⟨"PaperParcelsModel", "pack", "(II)V"⟩, prog_14_method_93_code, 8, none), 1, 3, 11, 1763, 127, 1762, 110),
  ((⟨"PaperParcelsModel", "alike", "(III)I"⟩, prog_14_method_91_code, 5, (some .int)), 1, 4, 11, 1767, 127, 1766, 111),
  ((⟨"PaperParcelsModel", "put", "(II)V"⟩, prog_14_method_92_code, 3, none), 1, 3, 11, 1771, 127, 1770, 112)]
def nd_ml_6 : List nm_M := [
  ((⟨"PaperParcelsModel", "typePart", "(II)V"⟩, prog_14_method_96_code, 5, none), 1, 3, 11, 1775, 127, 1774, 113),
  ((⟨"PaperParcelsModel", "type", "(I)V"⟩, prog_14_method_94_code, 2, none), 1, 2, 11, 1779, 127, 1778, 114),
  ((⟨"PaperParcelsModel", "hexDigit", "(I)I"⟩, prog_14_method_95_code, 1, (some .int)), 0, 1, 11, 1782, 127, 1781, 0)]
def nd_ml : List nm_M := nd_ml_0 ++ (nd_ml_1 ++ (nd_ml_2 ++ (nd_ml_3 ++ (nd_ml_4 ++ (nd_ml_5 ++ (nd_ml_6))))))
abbrev nd_mt : am_mt := nm_mt nd_ml
def nd_frL : List Nat := [4, 0, 1, 2, 3, 2, 1, 1, 1, 2, 1, 2, 1, 0, 1, 0, 0, 1, 0, 0, 0, 7, 1, 4, 3, 2, 6, 3, 2, 0, 1, 0, 0, 0, 3, 2, 1, 1, 0, 0, 4, 0, 3, 0, 1, 2, 1, 1, 1, 0, 2, 0, 0, 4, 3, 0, 2, 1, 0, 1, 0, 5, 3, 2, 3, 4, 3, 5, 4, 2, 5, 1, 4, 3, 0, 0, 2, 0, 1, 2, 1, 0, 7, 6, 7, 6, 4, 7, 7, 7, 7, 1, 7, 4, 6, 0, 4, 0, 0, 0, 3, 2, 0, 5, 4, 0, 1, 6, 7, 6, 5, 4, 3, 2, 2, 10, 9, 1, 0, 0, 7, 5, 1, 0, 4, 0, 2, 1, 0, 3, 2, 0, 1, 6, 8, 7, 6, 7, 6, 0, 4, 3, 2, 1, 1, 4, 1, 0, 0, 0, 0, 0, 9, 5, 2, 0, 0, 1, 0, 3, 2, 1, 2, 0, 4, 0, 1, 0, 3, 0, 2, 1, 0, 8, 4, 3, 1, 0, 2, 1, 1, 2, 0, 0, 4, 3, 3, 0, 4, 7, 0, 6, 5, 4, 0, 0, 5, 0, 2, 1, 0, 1, 0, 2, 1, 2, 2, 0, 2, 2, 4, 0, 2, 1, 0, 1, 0, 2, 0, 3, 0, 0, 4, 0, 0, 3, 3, 4, 2, 0, 0, 1, 0, 1, 3, 0, 2, 1, 0, 0, 1, 0, 0]
def nd_loL : List Nat := [83, 0, 20, 41, 63, 41, 20, 20, 20, 41, 20, 41, 21, 0, 20, 0, 0, 21, 0, 0, 0, 161, 20, 80, 60, 40, 139, 65, 40, 0, 20, 0, 0, 0, 69, 46, 21, 24, 0, 0, 91, 0, 68, 0, 21, 44, 21, 21, 20, 0, 42, 0, 0, 94, 68, 0, 43, 21, 0, 24, 0, 112, 67, 44, 67, 89, 67, 114, 89, 43, 116, 20, 93, 67, 0, 0, 42, 0, 21, 47, 23, 0, 121, 100, 121, 100, 80, 121, 121, 121, 121, 21, 156, 80, 136, 0, 89, 0, 0, 0, 67, 43, 0, 111, 89, 0, 22, 100, 163, 141, 118, 94, 71, 47, 47, 220, 198, 22, 0, 0, 150, 106, 20, 0, 85, 0, 43, 22, 0, 64, 43, 0, 20, 128, 175, 150, 128, 150, 128, 0, 93, 69, 44, 21, 21, 80, 20, 0, 0, 0, 0, 0, 213, 110, 40, 0, 0, 20, 0, 72, 44, 20, 40, 0, 88, 0, 22, 0, 64, 0, 40, 20, 0, 191, 101, 74, 23, 0, 50, 22, 22, 45, 0, 0, 94, 70, 70, 0, 94, 168, 0, 143, 119, 94, 0, 0, 119, 0, 48, 22, 0, 20, 0, 42, 20, 42, 42, 0, 42, 42, 96, 0, 50, 22, 0, 24, 0, 48, 0, 71, 0, 0, 100, 0, 0, 72, 72, 96, 47, 0, 0, 22, 0, 22, 71, 0, 47, 24, 0, 0, 23, 0, 0]
def nd_fr (y : Nat) : Nat := nd_frL.getD y 0
def nd_lo (y : Nat) : Nat := nd_loL.getD y 0
def nd_f0 : List nm_F := [(50, 1, 1, 0, 160), (96, 2, 0, 9, 188), (100, 2, 1, 9, 192), (103, 2, 2, 9, 197), (110, 2, 4, 9, 202), (89, 2, 6, 0, 210), (71, 3, 0, 9, 376), (82, 3, 1, 0, 378), (133, 8, 0, 1, 438), (123, 8, 1, 0, 440), (130, 8, 2, 9, 442), (127, 8, 3, 9, 444), (147, 10, 0, 9, 493), (14, 0, 0, 9, 512), (20, 0, 1, 9, 513), (30, 0, 2, 9, 514), (39, 0, 3, 9, 515), (46, 0, 4, 9, 516)]
theorem nd_f0_ok : nd_f0.all (nm_fchk nd_ct "PaperParcels" false) = true := by decide +kernel
def nd_fi0 : List nm_F := [(50, 1, 1, 0, 160), (96, 2, 0, 9, 188), (100, 2, 1, 9, 192), (103, 2, 2, 9, 197), (110, 2, 4, 9, 202), (89, 2, 6, 0, 210), (71, 3, 0, 9, 376), (82, 3, 1, 0, 378), (133, 8, 0, 1, 438), (123, 8, 1, 0, 440), (130, 8, 2, 9, 442), (127, 8, 3, 9, 444), (147, 10, 0, 9, 493), (14, 0, 0, 3, 512), (20, 0, 1, 3, 513), (30, 0, 2, 3, 514), (39, 0, 3, 3, 515), (46, 0, 4, 3, 516)]
theorem nd_fi0_ok : nd_fi0.all (nm_fchk nd_ct "PaperParcels" true) = true := by decide +kernel
def nd_k0 : List (Nat × Value × Nat) := []
theorem nd_k0_ok : nd_k0.all (nm_kchk "PaperParcels") = true := by decide +kernel
def nd_f1 : List nm_F := [(9, 1, 0, 9, 156), (15, 1, 1, 0, 157), (19, 1, 2, 1, 165)]
theorem nd_f1_ok : nd_f1.all (nm_fchk nd_ct "PaperParcels$Row" false) = true := by decide +kernel
def nd_fi1 : List nm_F := [(9, 1, 0, 3, 156), (15, 1, 1, 0, 157), (19, 1, 2, 1, 165)]
theorem nd_fi1_ok : nd_fi1.all (nm_fchk nd_ct "PaperParcels$Row" true) = true := by decide +kernel
def nd_k1 : List (Nat × Value × Nat) := [(37, .int 65535, 688), (38, .int 32768, 689)]
theorem nd_k1_ok : nd_k1.all (nm_kchk "PaperParcels$Row") = true := by decide +kernel
def nd_f2 : List nm_F := [(43, 1, 1, 0, 162), (9, 2, 0, 9, 185), (15, 2, 1, 9, 189), (18, 2, 2, 9, 194), (21, 2, 3, 9, 198), (24, 2, 4, 9, 199), (32, 2, 5, 9, 204), (36, 2, 6, 0, 205)]
theorem nd_f2_ok : nd_f2.all (nm_fchk nd_ct "PaperParcels$Paper" false) = true := by decide +kernel
def nd_fi2 : List nm_F := [(43, 1, 1, 0, 162), (9, 2, 0, 3, 185), (15, 2, 1, 3, 189), (18, 2, 2, 3, 194), (21, 2, 3, 3, 198), (24, 2, 4, 3, 199), (32, 2, 5, 3, 204), (36, 2, 6, 0, 205)]
theorem nd_fi2_ok : nd_fi2.all (nm_fchk nd_ct "PaperParcels$Paper" true) = true := by decide +kernel
def nd_k2 : List (Nat × Value × Nat) := []
theorem nd_k2_ok : nd_k2.all (nm_kchk "PaperParcels$Paper") = true := by decide +kernel
def nd_f3 : List nm_F := [(112, 1, 1, 0, 163), (38, 4, 1, 9, 244), (14, 3, 0, 9, 375), (20, 3, 1, 0, 377), (29, 3, 2, 9, 379), (33, 3, 3, 9, 380), (45, 3, 4, 9, 381), (49, 3, 5, 9, 382), (57, 3, 6, 9, 383), (66, 3, 7, 9, 384)]
theorem nd_f3_ok : nd_f3.all (nm_fchk nd_ct "PaperParcels$Reader" false) = true := by decide +kernel
def nd_fi3 : List nm_F := [(112, 1, 1, 0, 163), (38, 4, 1, 9, 244), (14, 3, 0, 3, 375), (20, 3, 1, 0, 377), (29, 3, 2, 3, 379), (33, 3, 3, 3, 380), (45, 3, 4, 3, 381), (49, 3, 5, 3, 382), (57, 3, 6, 3, 383), (66, 3, 7, 3, 384)]
theorem nd_fi3_ok : nd_fi3.all (nm_fchk nd_ct "PaperParcels$Reader" true) = true := by decide +kernel
def nd_k3 : List (Nat × Value × Nat) := []
theorem nd_k3_ok : nd_k3.all (nm_kchk "PaperParcels$Reader") = true := by decide +kernel
def nd_f4 : List nm_F := [(45, 1, 1, 0, 161), (64, 1, 2, 1, 167), (9, 4, 0, 9, 242), (20, 4, 1, 9, 243), (32, 4, 2, 1, 245), (36, 4, 3, 0, 246), (39, 4, 4, 0, 247)]
theorem nd_f4_ok : nd_f4.all (nm_fchk nd_ct "PaperParcels$Part" false) = true := by decide +kernel
def nd_fi4 : List nm_F := [(45, 1, 1, 0, 161), (64, 1, 2, 1, 167), (9, 4, 0, 2, 242), (20, 4, 1, 3, 243), (32, 4, 2, 1, 245), (36, 4, 3, 0, 246), (39, 4, 4, 0, 247)]
theorem nd_fi4_ok : nd_fi4.all (nm_fchk nd_ct "PaperParcels$Part" true) = true := by decide +kernel
def nd_k4 : List (Nat × Value × Nat) := []
theorem nd_k4_ok : nd_k4.all (nm_kchk "PaperParcels$Part") = true := by decide +kernel
def nd_f5 : List nm_F := [(62, 1, 1, 0, 159), (9, 5, 0, 9, 265), (15, 5, 1, 9, 268), (19, 5, 2, 9, 271), (22, 5, 3, 9, 275), (25, 5, 4, 9, 278), (28, 5, 5, 9, 280), (40, 5, 6, 0, 282), (31, 5, 7, 9, 286), (34, 5, 8, 9, 288), (44, 5, 9, 0, 290), (37, 5, 10, 9, 291), (47, 5, 11, 0, 293), (50, 5, 12, 0, 294), (53, 5, 13, 0, 295)]
theorem nd_f5_ok : nd_f5.all (nm_fchk nd_ct "PaperParcels$Elements" false) = true := by decide +kernel
def nd_fi5 : List nm_F := [(62, 1, 1, 0, 159), (9, 5, 0, 3, 265), (15, 5, 1, 3, 268), (19, 5, 2, 3, 271), (22, 5, 3, 3, 275), (25, 5, 4, 3, 278), (28, 5, 5, 3, 280), (40, 5, 6, 0, 282), (31, 5, 7, 3, 286), (34, 5, 8, 3, 288), (44, 5, 9, 0, 290), (37, 5, 10, 3, 291), (47, 5, 11, 0, 293), (50, 5, 12, 0, 294), (53, 5, 13, 0, 295)]
theorem nd_fi5_ok : nd_fi5.all (nm_fchk nd_ct "PaperParcels$Elements" true) = true := by decide +kernel
def nd_k5 : List (Nat × Value × Nat) := []
theorem nd_k5_ok : nd_k5.all (nm_kchk "PaperParcels$Elements") = true := by decide +kernel
def nd_f6 : List nm_F := [(42, 5, 2, 9, 272), (53, 5, 6, 0, 285), (9, 6, 0, 9, 331), (15, 6, 1, 9, 332), (18, 6, 2, 9, 333), (22, 6, 3, 9, 334), (25, 6, 4, 9, 335), (28, 6, 5, 9, 336)]
theorem nd_f6_ok : nd_f6.all (nm_fchk nd_ct "PaperParcels$Styles" false) = true := by decide +kernel
def nd_fi6 : List nm_F := [(42, 5, 2, 9, 272), (53, 5, 6, 0, 285), (9, 6, 0, 3, 331), (15, 6, 1, 3, 332), (18, 6, 2, 3, 333), (22, 6, 3, 3, 334), (25, 6, 4, 3, 335), (28, 6, 5, 3, 336)]
theorem nd_fi6_ok : nd_fi6.all (nm_fchk nd_ct "PaperParcels$Styles" true) = true := by decide +kernel
def nd_k6 : List (Nat × Value × Nat) := []
theorem nd_k6_ok : nd_k6.all (nm_kchk "PaperParcels$Styles") = true := by decide +kernel
def nd_f7 : List nm_F := [(45, 1, 1, 0, 158), (74, 2, 6, 0, 208), (39, 5, 0, 9, 266), (75, 5, 1, 9, 270), (53, 5, 2, 9, 273), (71, 5, 3, 9, 276), (50, 5, 6, 0, 284), (60, 5, 10, 9, 292), (9, 7, 0, 9, 356), (15, 7, 1, 9, 357), (19, 7, 2, 9, 358), (23, 7, 3, 9, 359), (27, 7, 4, 9, 360), (35, 7, 5, 0, 361)]
theorem nd_f7_ok : nd_f7.all (nm_fchk nd_ct "PaperParcels$Builder" false) = true := by decide +kernel
def nd_fi7 : List nm_F := [(45, 1, 1, 0, 158), (74, 2, 6, 0, 208), (39, 5, 0, 9, 266), (75, 5, 1, 9, 270), (53, 5, 2, 9, 273), (71, 5, 3, 9, 276), (50, 5, 6, 0, 284), (60, 5, 10, 9, 292), (9, 7, 0, 3, 356), (15, 7, 1, 3, 357), (19, 7, 2, 3, 358), (23, 7, 3, 3, 359), (27, 7, 4, 3, 360), (35, 7, 5, 0, 361)]
theorem nd_fi7_ok : nd_fi7.all (nm_fchk nd_ct "PaperParcels$Builder" true) = true := by decide +kernel
def nd_k7 : List (Nat × Value × Nat) := []
theorem nd_k7_ok : nd_k7.all (nm_kchk "PaperParcels$Builder") = true := by decide +kernel
def nd_f8 : List nm_F := [(114, 2, 0, 9, 187), (133, 2, 1, 9, 193), (120, 2, 2, 9, 196), (123, 2, 4, 9, 201), (77, 2, 6, 0, 209), (74, 9, 0, 9, 415), (102, 9, 1, 9, 417), (111, 9, 2, 9, 419), (108, 9, 3, 9, 421), (80, 9, 4, 9, 423), (54, 8, 0, 1, 437), (58, 8, 1, 0, 439), (27, 8, 2, 9, 441), (31, 8, 3, 9, 443), (34, 8, 4, 9, 445), (37, 8, 5, 9, 446), (14, 8, 6, 9, 447), (20, 8, 7, 9, 448), (23, 8, 8, 9, 449), (42, 8, 9, 9, 450), (45, 8, 10, 9, 451), (48, 8, 11, 9, 452), (51, 8, 12, 9, 453), (143, 8, 13, 0, 454)]
theorem nd_f8_ok : nd_f8.all (nm_fchk nd_ct "PaperParcels$Script" false) = true := by decide +kernel
def nd_fi8 : List nm_F := [(114, 2, 0, 9, 187), (133, 2, 1, 9, 193), (120, 2, 2, 9, 196), (123, 2, 4, 9, 201), (77, 2, 6, 0, 209), (74, 9, 0, 9, 415), (102, 9, 1, 9, 417), (111, 9, 2, 9, 419), (108, 9, 3, 9, 421), (80, 9, 4, 9, 423), (54, 8, 0, 1, 437), (58, 8, 1, 0, 439), (27, 8, 2, 3, 441), (31, 8, 3, 3, 443), (34, 8, 4, 3, 445), (37, 8, 5, 3, 446), (14, 8, 6, 3, 447), (20, 8, 7, 3, 448), (23, 8, 8, 3, 449), (42, 8, 9, 3, 450), (45, 8, 10, 3, 451), (48, 8, 11, 3, 452), (51, 8, 12, 3, 453), (143, 8, 13, 0, 454)]
theorem nd_fi8_ok : nd_fi8.all (nm_fchk nd_ct "PaperParcels$Script" true) = true := by decide +kernel
def nd_k8 : List (Nat × Value × Nat) := []
theorem nd_k8_ok : nd_k8.all (nm_kchk "PaperParcels$Script") = true := by decide +kernel
def nd_f9 : List nm_F := [(37, 2, 1, 9, 190), (34, 2, 4, 9, 200), (28, 2, 6, 0, 206), (9, 9, 0, 9, 414), (15, 9, 1, 9, 416), (19, 9, 2, 9, 418), (22, 9, 3, 9, 420), (25, 9, 4, 9, 422)]
theorem nd_f9_ok : nd_f9.all (nm_fchk nd_ct "PaperParcels$Tree" false) = true := by decide +kernel
def nd_fi9 : List nm_F := [(37, 2, 1, 9, 190), (34, 2, 4, 9, 200), (28, 2, 6, 0, 206), (9, 9, 0, 3, 414), (15, 9, 1, 3, 416), (19, 9, 2, 3, 418), (22, 9, 3, 3, 420), (25, 9, 4, 3, 422)]
theorem nd_fi9_ok : nd_fi9.all (nm_fchk nd_ct "PaperParcels$Tree" true) = true := by decide +kernel
def nd_k9 : List (Nat × Value × Nat) := []
theorem nd_k9_ok : nd_k9.all (nm_kchk "PaperParcels$Tree") = true := by decide +kernel
def nd_f10 : List nm_F := [(154, 1, 1, 0, 164), (44, 1, 2, 1, 166), (78, 2, 0, 9, 186), (75, 2, 1, 9, 191), (68, 2, 2, 9, 195), (141, 2, 4, 9, 203), (59, 2, 6, 0, 207), (14, 10, 0, 9, 492), (20, 10, 1, 9, 494), (23, 10, 2, 9, 495), (26, 10, 3, 9, 496), (29, 10, 4, 9, 497), (55, 10, 5, 0, 498)]
theorem nd_f10_ok : nd_f10.all (nm_fchk nd_ct "PaperParcels$Emitter" false) = true := by decide +kernel
def nd_fi10 : List nm_F := [(154, 1, 1, 0, 164), (44, 1, 2, 1, 166), (78, 2, 0, 9, 186), (75, 2, 1, 9, 191), (68, 2, 2, 9, 195), (141, 2, 4, 9, 203), (59, 2, 6, 0, 207), (14, 10, 0, 3, 492), (20, 10, 1, 3, 494), (23, 10, 2, 3, 495), (26, 10, 3, 3, 496), (29, 10, 4, 3, 497), (55, 10, 5, 0, 498)]
theorem nd_fi10_ok : nd_fi10.all (nm_fchk nd_ct "PaperParcels$Emitter" true) = true := by decide +kernel
def nd_k10 : List (Nat × Value × Nat) := []
theorem nd_k10_ok : nd_k10.all (nm_kchk "PaperParcels$Emitter") = true := by decide +kernel
def nd_f11 : List nm_F := [(150, 11, 0, 0, 1223), (7, 11, 1, 9, 1224), (155, 11, 2, 0, 1225), (13, 11, 3, 0, 1226), (17, 11, 4, 9, 1227), (20, 11, 5, 9, 1228), (23, 11, 6, 9, 1229), (26, 11, 7, 9, 1230), (29, 11, 8, 9, 1231), (32, 11, 9, 9, 1232), (35, 11, 10, 9, 1233), (38, 11, 11, 9, 1234), (41, 11, 12, 9, 1235), (44, 11, 13, 9, 1236), (47, 11, 14, 9, 1237), (202, 11, 15, 0, 1238), (189, 11, 16, 0, 1239), (185, 11, 17, 1, 1240), (208, 11, 18, 1, 1241), (50, 11, 19, 9, 1242), (54, 11, 20, 9, 1243), (57, 11, 21, 9, 1244), (60, 11, 22, 9, 1245), (63, 11, 23, 9, 1246), (66, 11, 24, 9, 1247), (69, 11, 25, 9, 1248), (72, 11, 26, 9, 1249), (75, 11, 27, 9, 1250), (78, 11, 28, 9, 1251), (81, 11, 29, 9, 1252), (84, 11, 30, 9, 1253), (326, 11, 31, 1, 1254), (357, 11, 32, 0, 1255), (87, 11, 33, 9, 1256), (90, 11, 34, 9, 1257), (93, 11, 35, 9, 1258), (96, 11, 36, 9, 1259), (99, 11, 37, 9, 1260), (102, 11, 38, 9, 1261), (105, 11, 39, 9, 1262), (108, 11, 40, 9, 1263), (341, 11, 41, 0, 1264), (344, 11, 42, 0, 1265), (111, 11, 43, 9, 1266), (114, 11, 44, 9, 1267), (117, 11, 45, 9, 1268), (120, 11, 46, 9, 1269), (123, 11, 47, 9, 1270), (126, 11, 48, 9, 1271), (129, 11, 49, 9, 1272), (132, 11, 50, 9, 1273), (135, 11, 51, 9, 1274), (138, 11, 52, 9, 1275), (141, 11, 53, 9, 1276), (144, 11, 54, 9, 1277), (147, 11, 55, 9, 1278), (390, 11, 56, 0, 1279)]
theorem nd_f11_ok : nd_f11.all (nm_fchk nd_ct "PaperParcelsModel" false) = true := by decide +kernel
def nd_fi11 : List nm_F := [(150, 11, 0, 0, 1223), (7, 11, 1, 3, 1224), (155, 11, 2, 0, 1225), (13, 11, 3, 0, 1226), (17, 11, 4, 3, 1227), (20, 11, 5, 3, 1228), (23, 11, 6, 3, 1229), (26, 11, 7, 3, 1230), (29, 11, 8, 3, 1231), (32, 11, 9, 3, 1232), (35, 11, 10, 3, 1233), (38, 11, 11, 3, 1234), (41, 11, 12, 3, 1235), (44, 11, 13, 3, 1236), (47, 11, 14, 3, 1237), (202, 11, 15, 0, 1238), (189, 11, 16, 0, 1239), (185, 11, 17, 1, 1240), (208, 11, 18, 1, 1241), (50, 11, 19, 3, 1242), (54, 11, 20, 3, 1243), (57, 11, 21, 3, 1244), (60, 11, 22, 3, 1245), (63, 11, 23, 3, 1246), (66, 11, 24, 3, 1247), (69, 11, 25, 3, 1248), (72, 11, 26, 3, 1249), (75, 11, 27, 3, 1250), (78, 11, 28, 3, 1251), (81, 11, 29, 3, 1252), (84, 11, 30, 3, 1253), (326, 11, 31, 1, 1254), (357, 11, 32, 0, 1255), (87, 11, 33, 3, 1256), (90, 11, 34, 3, 1257), (93, 11, 35, 3, 1258), (96, 11, 36, 3, 1259), (99, 11, 37, 3, 1260), (102, 11, 38, 3, 1261), (105, 11, 39, 3, 1262), (108, 11, 40, 3, 1263), (341, 11, 41, 0, 1264), (344, 11, 42, 0, 1265), (111, 11, 43, 3, 1266), (114, 11, 44, 3, 1267), (117, 11, 45, 3, 1268), (120, 11, 46, 3, 1269), (123, 11, 47, 3, 1270), (126, 11, 48, 3, 1271), (129, 11, 49, 3, 1272), (132, 11, 50, 3, 1273), (135, 11, 51, 3, 1274), (138, 11, 52, 3, 1275), (141, 11, 53, 3, 1276), (144, 11, 54, 3, 1277), (147, 11, 55, 3, 1278), (390, 11, 56, 0, 1279)]
theorem nd_fi11_ok : nd_fi11.all (nm_fchk nd_ct "PaperParcelsModel" true) = true := by decide +kernel
def nd_k11 : List (Nat × Value × Nat) := [(153, .long 255, 1404), (174, .int 65535, 1459), (173, .int 32768, 1463), (347, .int 1000000, 1660), (399, .long 29756, 1729), (405, .long 15919, 1738), (407, .long 62, 1739), (409, .long 29500, 1740), (414, .long 1047801660, 1745), (420, .long 12092, 1750), (416, .long 30780, 1758), (418, .long 1048063804, 1759)]
theorem nd_k11_ok : nd_k11.all (nm_kchk "PaperParcelsModel") = true := by decide +kernel
def nd_f12 : List nm_F := [(60, 5, 0, 9, 267), (21, 5, 1, 9, 269), (32, 5, 2, 9, 274), (25, 5, 3, 9, 277), (35, 5, 4, 9, 279), (38, 5, 5, 9, 281), (9, 5, 6, 0, 283), (45, 5, 7, 9, 287), (69, 5, 8, 9, 289)]
theorem nd_f12_ok : nd_f12.all (nm_fchk nd_ct "PaperParcels$Rules" false) = true := by decide +kernel
def nd_fi12 : List nm_F := [(60, 5, 0, 9, 267), (21, 5, 1, 9, 269), (32, 5, 2, 9, 274), (25, 5, 3, 9, 277), (35, 5, 4, 9, 279), (38, 5, 5, 9, 281), (9, 5, 6, 0, 283), (45, 5, 7, 9, 287), (69, 5, 8, 9, 289)]
theorem nd_fi12_ok : nd_fi12.all (nm_fchk nd_ct "PaperParcels$Rules" true) = true := by decide +kernel
def nd_k12 : List (Nat × Value × Nat) := []
theorem nd_k12_ok : nd_k12.all (nm_kchk "PaperParcels$Rules") = true := by decide +kernel
theorem nd_wa0 : Cond.arrayClass .int ∈ nm_Ts := nm_in (i := 175) (by decide +kernel) rfl
theorem nd_wa1 : Cond.arrayClass .boolean ∈ nm_Ts := nm_in (i := 1395) (by decide +kernel) rfl
theorem nd_wa2 : Cond.arrayClass .long ∈ nm_Ts := nm_in (i := 1784) (by decide +kernel) rfl
theorem nd_wa3 : Cond.arrayOver (.object "PaperParcels$Paper") ∈ nm_Tn := nm_inN (i := 177) (by decide +kernel) rfl
theorem nd_wa4 : Cond.arrayOver (.array .int) ∈ nm_Tn := nm_inN (i := 436) (by decide +kernel) rfl
theorem nd_wo1 : Cond.instanceMethod objectInit ∈ nm_Ts := nm_in (i := 148) (by decide +kernel) rfl
theorem nd_wo2 : Cond.code objectInit ⟨#[0xb1]⟩ 1 none ∈ nm_Ts := nm_in (i := 149) (by decide +kernel) rfl
theorem nd_okA {own : String} {F G : Nat} {LN : List nm_N} {LA LM LO : List (Nat × Nat)} (hN : LN.all (nm_nchk nd_ct own) = true) (hA : LA.all (fun q => decide (lw_tbl[q.2]? = some (Cond.classLink own q.1 "PaperParcels$Paper"))) = true) (hM : LM.all (fun q => decide (lw_tbl[q.2]? = some (Cond.classLink own q.1 ("[" ++ (FieldType.array .int).toString)))) = true) (hO : LO.all (fun q => decide (lw_tbl[q.2]? = some (Cond.methodLink own q.1 objectInit))) = true) (hF : 1 ≤ F) (hG : 20 ≤ G) :
    am_okA own "PaperParcels$Paper" nm_Ts nm_Tn nd_cl F G (am_nl LN) (am_pl LA) (am_pl LM) (am_pl LO) :=
  ⟨nd_wa0, nd_wa1, nd_wa2, nd_wa3, nd_wa4, nm_nok nd_cok hN, nm_pok (w := fun ix => Cond.classLink own ix "PaperParcels$Paper") (fun _ => rfl) hA, nm_pok (w := fun ix => Cond.classLink own ix ("[" ++ (FieldType.array .int).toString)) (fun _ => rfl) hM, fun ix hx => ⟨nm_pok (w := fun ix => Cond.methodLink own ix objectInit) (fun _ => rfl) hO ix hx, nd_wo1, nd_wo2⟩, hF, hG⟩
