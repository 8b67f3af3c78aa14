/-! the methods by number: name, bytes, locals, answer; which class (99: none of ours); static (1); how many parameters; where their words stand in tables_1: code, initialized, static or instanceMethod, selects (below 10000 in tables_1, else in lw_privs from 10000 on) -/
abbrev am_MR : Type := MethodName × ByteArray × Nat × Option FieldType × Nat × Nat × Nat × Nat × Nat × Nat × Nat
def am_mt0 : List am_MR := [
  (⟨"DrumWorldLaw", "law", "([I)Z"⟩, code, 4, (Option.some Jvm.ClassFile.FieldType.boolean), 99, 1, 1, 0, 0, 0, 0),
  (⟨"DrumWorld", "<init>", "()V"⟩, prog_1_method_1_code, 2, (Option.none : Option Jvm.ClassFile.FieldType), 0, 0, 0, 26, 1, 25, 0),
  (⟨"DrumWorld$Ball", "<init>", "()V"⟩, prog_2_method_1_code, 1, (Option.none : Option Jvm.ClassFile.FieldType), 1, 0, 0, 34, 2, 33, 0),
  (⟨"DrumWorld$Reader", "<init>", "()V"⟩, prog_8_method_1_code, 1, (Option.none : Option Jvm.ClassFile.FieldType), 2, 0, 0, 63, 3, 62, 0),
  (⟨"DrumWorld$Tape", "<init>", "()V"⟩, prog_11_method_1_code, 1, (Option.none : Option Jvm.ClassFile.FieldType), 3, 0, 0, 69, 4, 68, 0),
  (⟨"DrumWorld$Placing", "<init>", "()V"⟩, prog_7_method_1_code, 1, (Option.none : Option Jvm.ClassFile.FieldType), 4, 0, 0, 111, 5, 110, 0),
  (⟨"DrumWorld$Image", "<init>", "()V"⟩, prog_5_method_1_code, 1, (Option.none : Option Jvm.ClassFile.FieldType), 5, 0, 0, 164, 6, 163, 0),
  (⟨"DrumWorld$Sheet", "<init>", "()V"⟩, prog_10_method_1_code, 1, (Option.none : Option Jvm.ClassFile.FieldType), 6, 0, 0, 210, 7, 209, 0),
  (⟨"DrumWorld$Tape", "appendAll", "(Ljava/lang/String;)V"⟩, prog_11_method_3_code, 3, (Option.none : Option Jvm.ClassFile.FieldType), 3, 0, 1, 229, 4, 227, 228),
  (⟨"DrumWorld$Reader", "readText", "()LDrumWorld$Text;"⟩, prog_8_method_3_code, 2, (Option.some (Jvm.ClassFile.FieldType.object "DrumWorld$Text")), 2, 0, 0, 281, 3, 279, 280),
  (⟨"DrumWorld$Tape", "split", "()V"⟩, prog_11_method_5_code, 5, (Option.none : Option Jvm.ClassFile.FieldType), 3, 0, 0, 285, 4, 283, 284),
  (⟨"DrumWorld$Tape", "pastBlanks", "(I)I"⟩, prog_11_method_6_code, 3, (Option.some Jvm.ClassFile.FieldType.int), 3, 0, 1, 289, 4, 288, 10000),
  (⟨"DrumWorld$Tape", "pastToken", "(I)I"⟩, prog_11_method_7_code, 3, (Option.some Jvm.ClassFile.FieldType.int), 3, 0, 1, 293, 4, 292, 10001),
  (⟨"DrumWorld$Tape", "isLetter", "(I)Z"⟩, prog_11_method_13_code, 1, (Option.some Jvm.ClassFile.FieldType.boolean), 3, 1, 1, 296, 4, 295, 0),
  (⟨"DrumWorld$Tape", "isDigit", "(I)Z"⟩, prog_11_method_14_code, 1, (Option.some Jvm.ClassFile.FieldType.boolean), 3, 1, 1, 299, 4, 298, 0),
  (⟨"DrumWorld$Tape", "numberIn", "(II)I"⟩, prog_11_method_9_code, 5, (Option.some Jvm.ClassFile.FieldType.int), 3, 0, 2, 303, 4, 302, 10002),
  (⟨"DrumWorld$Tape", "tokenIn", "(II)I"⟩, prog_11_method_8_code, 4, (Option.some Jvm.ClassFile.FieldType.int), 3, 0, 2, 307, 4, 306, 10003),
  (⟨"DrumWorld$Tape", "wordIn", "(II)I"⟩, prog_11_method_10_code, 4, (Option.some Jvm.ClassFile.FieldType.int), 3, 0, 2, 311, 4, 310, 10004),
  (⟨"DrumWorld$Tape", "lettersOf", "(I)Ljava/lang/String;"⟩, prog_11_method_15_code, 1, (Option.some (Jvm.ClassFile.FieldType.object "java/lang/String")), 3, 1, 1, 314, 4, 313, 0),
  (⟨"DrumWorld$Tape", "isThis", "(Ljava/lang/String;II)Z"⟩, prog_11_method_11_code, 5, (Option.some Jvm.ClassFile.FieldType.boolean), 3, 0, 3, 330, 4, 329, 10005),
  (⟨"DrumWorld$Reader", "readPart", "(I)Z"⟩, prog_8_method_4_code, 2, (Option.some Jvm.ClassFile.FieldType.boolean), 2, 0, 1, 394, 3, 393, 10006),
  (⟨"DrumWorld$Reader", "accept", "(I)Z"⟩, prog_8_method_12_code, 3, (Option.some Jvm.ClassFile.FieldType.boolean), 2, 0, 1, 398, 3, 397, 10007),
  (⟨"DrumWorld$Reader", "readOr", "(I)Z"⟩, prog_8_method_5_code, 4, (Option.some Jvm.ClassFile.FieldType.boolean), 2, 0, 1, 402, 3, 401, 10008),
  (⟨"DrumWorld$Reader", "readAnd", "(I)Z"⟩, prog_8_method_6_code, 4, (Option.some Jvm.ClassFile.FieldType.boolean), 2, 0, 1, 406, 3, 405, 10009),
  (⟨"DrumWorld$Reader", "readNot", "(I)Z"⟩, prog_8_method_7_code, 3, (Option.some Jvm.ClassFile.FieldType.boolean), 2, 0, 1, 410, 3, 409, 10010),
  (⟨"DrumWorld$Reader", "readCompared", "(I)Z"⟩, prog_8_method_8_code, 4, (Option.some Jvm.ClassFile.FieldType.boolean), 2, 0, 1, 414, 3, 413, 10011),
  (⟨"DrumWorld$Reader", "readSum", "(I)Z"⟩, prog_8_method_9_code, 5, (Option.some Jvm.ClassFile.FieldType.boolean), 2, 0, 1, 418, 3, 417, 10012),
  (⟨"DrumWorld$Reader", "readTerm", "(I)Z"⟩, prog_8_method_10_code, 4, (Option.some Jvm.ClassFile.FieldType.boolean), 2, 0, 1, 422, 3, 421, 10013),
  (⟨"DrumWorld$Reader", "readOne", "(I)Z"⟩, prog_8_method_11_code, 4, (Option.some Jvm.ClassFile.FieldType.boolean), 2, 0, 1, 426, 3, 425, 10014),
  (⟨"DrumWorld$Tape", "isName", "(I)Z"⟩, prog_11_method_12_code, 1, (Option.some Jvm.ClassFile.FieldType.boolean), 3, 1, 1, 429, 4, 428, 0),
  (⟨"DrumWorld$Reader", "emit", "(I)V"⟩, prog_8_method_13_code, 2, (Option.none : Option Jvm.ClassFile.FieldType), 2, 0, 1, 433, 3, 432, 10015),
  (⟨"DrumWorld$Text", "<init>", "([III)V"⟩, prog_12_method_1_code, 4, (Option.none : Option Jvm.ClassFile.FieldType), 7, 0, 3, 438, 14, 437, 0),
  (⟨"DrumWorld$Tape", "clear", "()V"⟩, prog_11_method_4_code, 1, (Option.none : Option Jvm.ClassFile.FieldType), 3, 0, 0, 460, 4, 458, 459),
  (⟨"DrumWorld", "shell", "(III)I"⟩, prog_1_method_2_code, 4, (Option.some Jvm.ClassFile.FieldType.int), 0, 0, 3, 525, 1, 523, 524),
  (⟨"DrumWorld", "isIn", "(III)Z"⟩, prog_1_method_36_code, 3, (Option.some Jvm.ClassFile.FieldType.boolean), 0, 1, 3, 528, 1, 527, 0),
  (⟨"DrumWorld$Ball", "isSlow", "(II)Z"⟩, prog_2_method_4_code, 2, (Option.some Jvm.ClassFile.FieldType.boolean), 1, 1, 2, 531, 2, 530, 0),
  (⟨"DrumWorld$Ball", "leastSlow", "(I)I"⟩, prog_2_method_3_code, 1, (Option.some Jvm.ClassFile.FieldType.int), 1, 1, 1, 534, 2, 533, 0),
  (⟨"DrumWorld$Ball", "allThick", "()I"⟩, prog_2_method_7_code, 3, (Option.some Jvm.ClassFile.FieldType.int), 1, 0, 0, 538, 2, 536, 537),
  (⟨"DrumWorld$Ball", "isFull", "()Z"⟩, prog_2_method_6_code, 1, (Option.some Jvm.ClassFile.FieldType.boolean), 1, 0, 0, 542, 2, 540, 541),
  (⟨"DrumWorld$Ball", "addShell", "(III)I"⟩, prog_2_method_8_code, 4, (Option.some Jvm.ClassFile.FieldType.int), 1, 0, 3, 546, 2, 544, 545)]
def am_mt1 : List am_MR := [
  (⟨"DrumWorld", "pace", "(III)I"⟩, prog_1_method_3_code, 4, (Option.some Jvm.ClassFile.FieldType.int), 0, 0, 3, 550, 1, 548, 549),
  (⟨"DrumWorld$Ball", "hasShell", "(I)Z"⟩, prog_2_method_5_code, 2, (Option.some Jvm.ClassFile.FieldType.boolean), 1, 0, 1, 554, 2, 552, 553),
  (⟨"DrumWorld$Ball", "isSort", "(I)Z"⟩, prog_2_method_2_code, 1, (Option.some Jvm.ClassFile.FieldType.boolean), 1, 1, 1, 557, 2, 556, 0),
  (⟨"DrumWorld$Ball", "putSlow", "(III)I"⟩, prog_2_method_9_code, 5, (Option.some Jvm.ClassFile.FieldType.int), 1, 0, 3, 561, 2, 559, 560),
  (⟨"DrumWorld", "due", "(III)I"⟩, prog_1_method_4_code, 5, (Option.some Jvm.ClassFile.FieldType.int), 0, 0, 3, 565, 1, 563, 564),
  (⟨"DrumWorld$Kinds", "isKind", "(I)Z"⟩, prog_6_method_2_code, 1, (Option.some Jvm.ClassFile.FieldType.boolean), 99, 1, 1, 568, 17, 567, 0),
  (⟨"DrumWorld$Ball", "dueOf", "(III)I"⟩, prog_2_method_14_code, 5, (Option.some Jvm.ClassFile.FieldType.int), 1, 0, 3, 572, 2, 570, 571),
  (⟨"DrumWorld$Kinds", "sortOf", "(I)I"⟩, prog_6_method_3_code, 1, (Option.some Jvm.ClassFile.FieldType.int), 99, 1, 1, 575, 17, 574, 0),
  (⟨"DrumWorld$Ball", "thrownBack", "(III)I"⟩, prog_2_method_12_code, 6, (Option.some Jvm.ClassFile.FieldType.int), 1, 0, 3, 579, 2, 578, 10016),
  (⟨"DrumWorld$Ball", "down", "(I)I"⟩, prog_2_method_13_code, 2, (Option.some Jvm.ClassFile.FieldType.int), 1, 0, 1, 583, 2, 582, 10017),
  (⟨"DrumWorld$Ball", "later", "(II)I"⟩, prog_2_method_15_code, 2, (Option.some Jvm.ClassFile.FieldType.int), 1, 1, 2, 586, 2, 585, 0),
  (⟨"DrumWorld$Ball", "least", "(II)I"⟩, prog_2_method_10_code, 8, (Option.some Jvm.ClassFile.FieldType.int), 1, 0, 2, 591, 2, 589, 590),
  (⟨"DrumWorld$Ball", "comesUpAt", "(II)Z"⟩, prog_2_method_11_code, 5, (Option.some Jvm.ClassFile.FieldType.boolean), 1, 0, 2, 595, 2, 594, 10018),
  (⟨"DrumWorld$Ball", "halfOf", "(II)I"⟩, prog_2_method_16_code, 2, (Option.some Jvm.ClassFile.FieldType.int), 1, 1, 2, 598, 2, 597, 0),
  (⟨"DrumWorld$Ball", "firstThere", "(II)I"⟩, prog_2_method_17_code, 2, (Option.some Jvm.ClassFile.FieldType.int), 1, 1, 2, 601, 2, 600, 0),
  (⟨"DrumWorld", "shadow", "(II)I"⟩, prog_1_method_5_code, 5, (Option.some Jvm.ClassFile.FieldType.int), 0, 0, 2, 605, 1, 603, 604),
  (⟨"DrumWorld", "drum", "(III)I"⟩, prog_1_method_6_code, 4, (Option.some Jvm.ClassFile.FieldType.int), 0, 0, 3, 610, 1, 608, 609),
  (⟨"DrumWorld", "isPlace", "(I)Z"⟩, prog_1_method_37_code, 1, (Option.some Jvm.ClassFile.FieldType.boolean), 0, 1, 1, 613, 1, 612, 0),
  (⟨"DrumWorld", "isDrift", "(I)Z"⟩, prog_1_method_38_code, 1, (Option.some Jvm.ClassFile.FieldType.boolean), 0, 1, 1, 616, 1, 615, 0),
  (⟨"DrumWorld$Drum", "<init>", "(IIII)V"⟩, prog_4_method_1_code, 5, (Option.none : Option Jvm.ClassFile.FieldType), 8, 0, 4, 620, 18, 619, 0),
  (⟨"DrumWorld", "clock", "(II)I"⟩, prog_1_method_7_code, 5, (Option.some Jvm.ClassFile.FieldType.int), 0, 0, 2, 646, 1, 644, 645),
  (⟨"DrumWorld", "drumAt", "(I)LDrumWorld$Drum;"⟩, prog_1_method_41_code, 2, (Option.some (Jvm.ClassFile.FieldType.object "DrumWorld$Drum")), 0, 0, 1, 650, 1, 649, 10019),
  (⟨"DrumWorld", "shake", "(III)I"⟩, prog_1_method_8_code, 4, (Option.some Jvm.ClassFile.FieldType.int), 0, 0, 3, 654, 1, 652, 653),
  (⟨"DrumWorld", "isTime", "(I)Z"⟩, prog_1_method_39_code, 1, (Option.some Jvm.ClassFile.FieldType.boolean), 0, 1, 1, 657, 1, 656, 0),
  (⟨"DrumWorld$Shake", "<init>", "(IIII)V"⟩, prog_9_method_1_code, 5, (Option.none : Option Jvm.ClassFile.FieldType), 9, 0, 4, 662, 19, 661, 0),
  (⟨"DrumWorld", "days", "(I)I"⟩, prog_1_method_9_code, 2, (Option.some Jvm.ClassFile.FieldType.int), 0, 0, 1, 689, 1, 687, 688),
  (⟨"DrumWorld", "card", "(IIII)I"⟩, prog_1_method_10_code, 7, (Option.some Jvm.ClassFile.FieldType.int), 0, 0, 4, 693, 1, 691, 692),
  (⟨"DrumWorld", "shakeAt", "(I)LDrumWorld$Shake;"⟩, prog_1_method_42_code, 2, (Option.some (Jvm.ClassFile.FieldType.object "DrumWorld$Shake")), 0, 0, 1, 697, 1, 696, 10020),
  (⟨"DrumWorld$Card", "<init>", "(ILDrumWorld$Drum;LDrumWorld$Shake;II)V"⟩, prog_3_method_1_code, 6, (Option.none : Option Jvm.ClassFile.FieldType), 10, 0, 5, 701, 20, 700, 0),
  (⟨"DrumWorld", "mend", "(II)I"⟩, prog_1_method_11_code, 4, (Option.some Jvm.ClassFile.FieldType.int), 0, 0, 2, 743, 1, 741, 742),
  (⟨"DrumWorld", "cardAt", "(I)LDrumWorld$Card;"⟩, prog_1_method_43_code, 2, (Option.some (Jvm.ClassFile.FieldType.object "DrumWorld$Card")), 0, 0, 1, 747, 1, 746, 10021),
  (⟨"DrumWorld", "wrong", "(II)I"⟩, prog_1_method_12_code, 5, (Option.some Jvm.ClassFile.FieldType.int), 0, 0, 2, 751, 1, 749, 750),
  (⟨"DrumWorld", "cardTold", "(III)I"⟩, prog_1_method_13_code, 5, (Option.some Jvm.ClassFile.FieldType.int), 0, 0, 3, 755, 1, 753, 754),
  (⟨"DrumWorld", "isDay", "(I)Z"⟩, prog_1_method_40_code, 2, (Option.some Jvm.ClassFile.FieldType.boolean), 0, 0, 1, 760, 1, 759, 10022),
  (⟨"DrumWorld$Card", "timeAsKnown", "(I)I"⟩, prog_3_method_2_code, 2, (Option.some Jvm.ClassFile.FieldType.int), 10, 0, 1, 765, 20, 763, 764),
  (⟨"DrumWorld", "lateness", "(LDrumWorld$Card;II)I"⟩, prog_1_method_47_code, 5, (Option.some Jvm.ClassFile.FieldType.int), 0, 0, 3, 769, 1, 768, 10023),
  (⟨"DrumWorld$Card", "far", "()I"⟩, prog_3_method_4_code, 1, (Option.some Jvm.ClassFile.FieldType.int), 10, 0, 0, 773, 20, 771, 772),
  (⟨"DrumWorld", "apart", "(II)I"⟩, prog_1_method_45_code, 3, (Option.some Jvm.ClassFile.FieldType.int), 0, 1, 2, 776, 1, 775, 0),
  (⟨"DrumWorld$Card", "trueTime", "(I)I"⟩, prog_3_method_3_code, 2, (Option.some Jvm.ClassFile.FieldType.int), 10, 0, 1, 785, 20, 783, 784),
  (⟨"DrumWorld", "feed", "(JI)I"⟩, prog_1_method_14_code, 4, (Option.some Jvm.ClassFile.FieldType.int), 0, 0, 2, 791, 1, 789, 790)]
def am_mt2 : List am_MR := [
  (⟨"DrumWorld$Tape", "append", "(JI)Z"⟩, prog_11_method_2_code, 5, (Option.some Jvm.ClassFile.FieldType.boolean), 3, 0, 2, 795, 4, 793, 794),
  (⟨"DrumWorld", "text", "()I"⟩, prog_1_method_15_code, 2, (Option.some Jvm.ClassFile.FieldType.int), 0, 0, 0, 799, 1, 797, 798),
  (⟨"DrumWorld$Reader", "stoppedAt", "()I"⟩, prog_8_method_2_code, 1, (Option.some Jvm.ClassFile.FieldType.int), 2, 0, 0, 803, 3, 801, 802),
  (⟨"DrumWorld", "force", "(I)I"⟩, prog_1_method_16_code, 3, (Option.some Jvm.ClassFile.FieldType.int), 0, 0, 1, 807, 1, 805, 806),
  (⟨"DrumWorld", "law", "(III)J"⟩, prog_1_method_17_code, 5, (Option.some Jvm.ClassFile.FieldType.long), 0, 0, 3, 811, 1, 809, 810),
  (⟨"DrumWorld", "ruleSays", "(LDrumWorld$Card;II)I"⟩, prog_1_method_48_code, 5, (Option.some Jvm.ClassFile.FieldType.int), 0, 0, 3, 816, 1, 815, 10024),
  (⟨"DrumWorld$Text", "comesTo", "(I[I)I"⟩, prog_12_method_2_code, 6, (Option.some Jvm.ClassFile.FieldType.int), 7, 0, 2, 820, 14, 818, 819),
  (⟨"DrumWorld$Text", "step", "(I[I)V"⟩, prog_12_method_3_code, 4, (Option.none : Option Jvm.ClassFile.FieldType), 7, 0, 2, 824, 14, 823, 10025),
  (⟨"DrumWorld$Text", "push", "(I)V"⟩, prog_12_method_4_code, 2, (Option.none : Option Jvm.ClassFile.FieldType), 7, 0, 1, 828, 14, 827, 10026),
  (⟨"DrumWorld$Text", "turn", "(I)V"⟩, prog_12_method_5_code, 3, (Option.none : Option Jvm.ClassFile.FieldType), 7, 0, 1, 832, 14, 831, 10027),
  (⟨"DrumWorld$Text", "truth", "(Z)I"⟩, prog_12_method_7_code, 1, (Option.some Jvm.ClassFile.FieldType.int), 7, 1, 1, 835, 14, 834, 0),
  (⟨"DrumWorld$Text", "join", "(III)I"⟩, prog_12_method_6_code, 3, (Option.some Jvm.ClassFile.FieldType.int), 7, 1, 3, 838, 14, 837, 0),
  (⟨"DrumWorld", "place", "(III)J"⟩, prog_1_method_18_code, 5, (Option.some Jvm.ClassFile.FieldType.long), 0, 0, 3, 842, 1, 840, 841),
  (⟨"DrumWorld", "findPlacing", "(II)Z"⟩, prog_1_method_49_code, 5, (Option.some Jvm.ClassFile.FieldType.boolean), 0, 0, 2, 847, 1, 846, 10028),
  (⟨"DrumWorld$Placing", "begin", "()V"⟩, prog_7_method_2_code, 2, (Option.none : Option Jvm.ClassFile.FieldType), 4, 0, 0, 851, 5, 849, 850),
  (⟨"DrumWorld", "isHeard", "(LDrumWorld$Card;I)Z"⟩, prog_1_method_46_code, 2, (Option.some Jvm.ClassFile.FieldType.boolean), 0, 1, 2, 854, 1, 853, 0),
  (⟨"DrumWorld$Placing", "addTime", "(III)V"⟩, prog_7_method_3_code, 4, (Option.none : Option Jvm.ClassFile.FieldType), 4, 0, 3, 858, 5, 856, 857),
  (⟨"DrumWorld$Placing", "search", "(LDrumWorld$Ball;)V"⟩, prog_7_method_4_code, 4, (Option.none : Option Jvm.ClassFile.FieldType), 4, 0, 1, 862, 5, 860, 861),
  (⟨"DrumWorld$Placing", "tellDues", "(LDrumWorld$Ball;I)V"⟩, prog_7_method_5_code, 5, (Option.none : Option Jvm.ClassFile.FieldType), 4, 0, 2, 866, 5, 865, 10029),
  (⟨"DrumWorld$Placing", "tellHours", "(I)Z"⟩, prog_7_method_6_code, 5, (Option.some Jvm.ClassFile.FieldType.boolean), 4, 0, 1, 871, 5, 870, 10030),
  (⟨"DrumWorld$Placing", "sortByHours", "()V"⟩, prog_7_method_7_code, 5, (Option.none : Option Jvm.ClassFile.FieldType), 4, 0, 0, 876, 5, 875, 10031),
  (⟨"DrumWorld$Placing", "judge", "(II)V"⟩, prog_7_method_8_code, 7, (Option.none : Option Jvm.ClassFile.FieldType), 4, 0, 2, 880, 5, 879, 10032),
  (⟨"DrumWorld", "settle", "(II)J"⟩, prog_1_method_19_code, 5, (Option.some Jvm.ClassFile.FieldType.long), 0, 0, 2, 886, 1, 884, 885),
  (⟨"DrumWorld", "table", "(IIII)J"⟩, prog_1_method_20_code, 11, (Option.some Jvm.ClassFile.FieldType.long), 0, 0, 4, 893, 1, 891, 892),
  (⟨"DrumWorld", "standsInTable", "(LDrumWorld$Card;II)Z"⟩, prog_1_method_50_code, 3, (Option.some Jvm.ClassFile.FieldType.boolean), 0, 1, 3, 896, 1, 895, 0),
  (⟨"DrumWorld", "commonDivisor", "(JI)I"⟩, prog_1_method_51_code, 4, (Option.some Jvm.ClassFile.FieldType.int), 0, 1, 2, 900, 1, 899, 0),
  (⟨"DrumWorld", "refit", "(II)J"⟩, prog_1_method_21_code, 6, (Option.some Jvm.ClassFile.FieldType.long), 0, 0, 2, 904, 1, 902, 903),
  (⟨"DrumWorld", "allOff", "(II)J"⟩, prog_1_method_52_code, 7, (Option.some Jvm.ClassFile.FieldType.long), 0, 0, 2, 909, 1, 908, 10033),
  (⟨"DrumWorld", "keepRefit", "(III)V"⟩, prog_1_method_54_code, 4, (Option.none : Option Jvm.ClassFile.FieldType), 0, 0, 3, 913, 1, 912, 10034),
  (⟨"DrumWorld", "refitOne", "(IIIIJ)J"⟩, prog_1_method_53_code, 13, (Option.some Jvm.ClassFile.FieldType.long), 0, 0, 5, 917, 1, 916, 10035),
  (⟨"DrumWorld", "refitTold", "(I)I"⟩, prog_1_method_22_code, 2, (Option.some Jvm.ClassFile.FieldType.int), 0, 0, 1, 922, 1, 920, 921),
  (⟨"DrumWorld", "called", "(III)I"⟩, prog_1_method_23_code, 8, (Option.some Jvm.ClassFile.FieldType.int), 0, 0, 3, 926, 1, 924, 925),
  (⟨"DrumWorld", "strange", "(I)I"⟩, prog_1_method_24_code, 5, (Option.some Jvm.ClassFile.FieldType.int), 0, 0, 1, 930, 1, 928, 929),
  (⟨"DrumWorld", "watch", "(III)I"⟩, prog_1_method_25_code, 8, (Option.some Jvm.ClassFile.FieldType.int), 0, 0, 3, 934, 1, 932, 933),
  (⟨"DrumWorld", "sheetAt", "(I)LDrumWorld$Sheet;"⟩, prog_1_method_44_code, 2, (Option.some (Jvm.ClassFile.FieldType.object "DrumWorld$Sheet")), 0, 0, 1, 938, 1, 937, 10036),
  (⟨"DrumWorld$Sheet", "isMissing", "()Z"⟩, prog_10_method_3_code, 1, (Option.some Jvm.ClassFile.FieldType.boolean), 6, 0, 0, 942, 7, 940, 941),
  (⟨"DrumWorld", "holdsPlacesOnly", "(LDrumWorld$Sheet;)Z"⟩, prog_1_method_55_code, 2, (Option.some Jvm.ClassFile.FieldType.boolean), 0, 1, 1, 945, 1, 944, 0),
  (⟨"DrumWorld", "tellNearDrums", "(LDrumWorld$Sheet;I)V"⟩, prog_1_method_56_code, 6, (Option.none : Option Jvm.ClassFile.FieldType), 0, 0, 2, 949, 1, 948, 10037),
  (⟨"DrumWorld", "howManyNear", "(II)I"⟩, prog_1_method_57_code, 5, (Option.some Jvm.ClassFile.FieldType.int), 0, 0, 2, 960, 1, 959, 10038),
  (⟨"DrumWorld", "watched", "()I"⟩, prog_1_method_26_code, 1, (Option.some Jvm.ClassFile.FieldType.int), 0, 0, 0, 964, 1, 962, 963)]
def am_mt3 : List am_MR := [
  (⟨"DrumWorld", "shakeTold", "(II)I"⟩, prog_1_method_27_code, 4, (Option.some Jvm.ClassFile.FieldType.int), 0, 0, 2, 968, 1, 966, 967),
  (⟨"DrumWorld", "count", "(I)I"⟩, prog_1_method_28_code, 2, (Option.some Jvm.ClassFile.FieldType.int), 0, 0, 1, 972, 1, 970, 971),
  (⟨"DrumWorld", "image", "()I"⟩, prog_1_method_29_code, 2, (Option.some Jvm.ClassFile.FieldType.int), 0, 0, 0, 976, 1, 974, 975),
  (⟨"DrumWorld$Image", "begin", "(III)V"⟩, prog_5_method_2_code, 4, (Option.none : Option Jvm.ClassFile.FieldType), 5, 0, 3, 980, 6, 978, 979),
  (⟨"DrumWorld$Image", "keepSlows", "(LDrumWorld$Ball;)V"⟩, prog_5_method_3_code, 3, (Option.none : Option Jvm.ClassFile.FieldType), 5, 0, 1, 984, 6, 982, 983),
  (⟨"DrumWorld$Image", "keepDrift", "(LDrumWorld$Drum;)V"⟩, prog_5_method_5_code, 2, (Option.none : Option Jvm.ClassFile.FieldType), 5, 0, 1, 989, 6, 987, 988),
  (⟨"DrumWorld$Image", "keepShake", "(LDrumWorld$Shake;)V"⟩, prog_5_method_7_code, 2, (Option.none : Option Jvm.ClassFile.FieldType), 5, 0, 1, 993, 6, 991, 992),
  (⟨"DrumWorld$Image", "keepWrong", "(ILDrumWorld$Card;)V"⟩, prog_5_method_9_code, 3, (Option.none : Option Jvm.ClassFile.FieldType), 5, 0, 2, 997, 6, 995, 996),
  (⟨"DrumWorld", "back", "()I"⟩, prog_1_method_30_code, 2, (Option.some Jvm.ClassFile.FieldType.int), 0, 0, 0, 1001, 1, 999, 1000),
  (⟨"DrumWorld$Image", "bringSlows", "(LDrumWorld$Ball;)V"⟩, prog_5_method_4_code, 3, (Option.none : Option Jvm.ClassFile.FieldType), 5, 0, 1, 1005, 6, 1003, 1004),
  (⟨"DrumWorld$Image", "bringDrift", "(LDrumWorld$Drum;)V"⟩, prog_5_method_6_code, 2, (Option.none : Option Jvm.ClassFile.FieldType), 5, 0, 1, 1009, 6, 1007, 1008),
  (⟨"DrumWorld$Image", "bringShake", "(LDrumWorld$Shake;)V"⟩, prog_5_method_8_code, 2, (Option.none : Option Jvm.ClassFile.FieldType), 5, 0, 1, 1013, 6, 1011, 1012),
  (⟨"DrumWorld$Image", "bringWrong", "(ILDrumWorld$Card;)V"⟩, prog_5_method_10_code, 3, (Option.none : Option Jvm.ClassFile.FieldType), 5, 0, 2, 1017, 6, 1015, 1016),
  (⟨"DrumWorld", "sheet", "(III)I"⟩, prog_1_method_31_code, 5, (Option.some Jvm.ClassFile.FieldType.int), 0, 0, 3, 1021, 1, 1019, 1020),
  (⟨"DrumWorld$Sheet", "isSheetSort", "(I)Z"⟩, prog_10_method_2_code, 1, (Option.some Jvm.ClassFile.FieldType.boolean), 6, 1, 1, 1024, 7, 1023, 0),
  (⟨"DrumWorld$Sheet", "vanish", "()V"⟩, prog_10_method_4_code, 1, (Option.none : Option Jvm.ClassFile.FieldType), 6, 0, 0, 1028, 7, 1026, 1027),
  (⟨"DrumWorld$Sheet", "begin", "(II)V"⟩, prog_10_method_5_code, 4, (Option.none : Option Jvm.ClassFile.FieldType), 6, 0, 2, 1032, 7, 1030, 1031),
  (⟨"DrumWorld", "cell", "(III)I"⟩, prog_1_method_32_code, 5, (Option.some Jvm.ClassFile.FieldType.int), 0, 0, 3, 1036, 1, 1034, 1035),
  (⟨"DrumWorld$Sheet", "holds", "(II)Z"⟩, prog_10_method_6_code, 3, (Option.some Jvm.ClassFile.FieldType.boolean), 6, 0, 2, 1040, 7, 1038, 1039),
  (⟨"DrumWorld$Sheet", "put", "(II)V"⟩, prog_10_method_7_code, 3, (Option.none : Option Jvm.ClassFile.FieldType), 6, 0, 2, 1044, 7, 1042, 1043),
  (⟨"DrumWorld", "copy", "(IIIII)I"⟩, prog_1_method_33_code, 8, (Option.some Jvm.ClassFile.FieldType.int), 0, 0, 5, 1048, 1, 1046, 1047),
  (⟨"DrumWorld", "cards", "(IIII)I"⟩, prog_1_method_34_code, 10, (Option.some Jvm.ClassFile.FieldType.int), 0, 0, 4, 1053, 1, 1051, 1052),
  (⟨"DrumWorld", "taken", "(II)I"⟩, prog_1_method_35_code, 4, (Option.some Jvm.ClassFile.FieldType.int), 0, 0, 2, 1058, 1, 1056, 1057),
  (⟨"DrumWorld$Kinds", "isOneOf", "(II)Z"⟩, prog_6_method_4_code, 4, (Option.some Jvm.ClassFile.FieldType.boolean), 99, 1, 2, 1061, 17, 1060, 0),
  (⟨"DrumWorld$Kinds", "above", "(I)I"⟩, prog_6_method_5_code, 1, (Option.some Jvm.ClassFile.FieldType.int), 99, 1, 1, 1064, 17, 1063, 0),
  (⟨"DrumWorldModel", "<init>", "()V"⟩, prog_14_method_1_code, 2, (Option.none : Option Jvm.ClassFile.FieldType), 11, 0, 0, 1069, 16, 1068, 0),
  (⟨"DrumWorldModel", "first", "(IIII)V"⟩, prog_14_method_2_code, 5, (Option.none : Option Jvm.ClassFile.FieldType), 11, 0, 4, 1086, 16, 1085, 10039),
  (⟨"DrumWorldModel", "shell", "(III)I"⟩, prog_14_method_5_code, 6, (Option.some Jvm.ClassFile.FieldType.int), 11, 0, 3, 1277, 16, 1275, 1276),
  (⟨"DrumWorldModel", "in", "(III)Z"⟩, prog_14_method_4_code, 3, (Option.some Jvm.ClassFile.FieldType.boolean), 11, 1, 3, 1280, 16, 1279, 0),
  (⟨"DrumWorldModel", "pace", "(III)I"⟩, prog_14_method_6_code, 5, (Option.some Jvm.ClassFile.FieldType.int), 11, 0, 3, 1284, 16, 1282, 1283),
  (⟨"DrumWorldModel", "due", "(III)I"⟩, prog_14_method_13_code, 4, (Option.some Jvm.ClassFile.FieldType.int), 11, 0, 3, 1288, 16, 1286, 1287),
  (⟨"DrumWorldModel", "dueOf", "(III)I"⟩, prog_14_method_12_code, 5, (Option.some Jvm.ClassFile.FieldType.int), 11, 0, 3, 1292, 16, 1291, 10040),
  (⟨"DrumWorldModel", "least", "(II)I"⟩, prog_14_method_7_code, 10, (Option.some Jvm.ClassFile.FieldType.int), 11, 0, 2, 1296, 16, 1295, 10041),
  (⟨"DrumWorldModel", "lessDown", "(II)I"⟩, prog_14_method_11_code, 3, (Option.some Jvm.ClassFile.FieldType.int), 11, 0, 2, 1300, 16, 1299, 10042),
  (⟨"DrumWorldModel", "down", "(I)I"⟩, prog_14_method_9_code, 2, (Option.some Jvm.ClassFile.FieldType.int), 11, 0, 1, 1304, 16, 1303, 10043),
  (⟨"DrumWorldModel", "backAt", "(III)I"⟩, prog_14_method_8_code, 7, (Option.some Jvm.ClassFile.FieldType.int), 11, 0, 3, 1308, 16, 1307, 10044),
  (⟨"DrumWorldModel", "shadow", "(II)I"⟩, prog_14_method_14_code, 5, (Option.some Jvm.ClassFile.FieldType.int), 11, 0, 2, 1312, 16, 1310, 1311),
  (⟨"DrumWorldModel", "drum", "(III)I"⟩, prog_14_method_17_code, 4, (Option.some Jvm.ClassFile.FieldType.int), 11, 0, 3, 1316, 16, 1314, 1315),
  (⟨"DrumWorldModel", "isPlace", "(I)Z"⟩, prog_14_method_15_code, 1, (Option.some Jvm.ClassFile.FieldType.boolean), 11, 1, 1, 1319, 16, 1318, 0),
  (⟨"DrumWorldModel", "clock", "(II)I"⟩, prog_14_method_18_code, 4, (Option.some Jvm.ClassFile.FieldType.int), 11, 0, 2, 1323, 16, 1321, 1322)]
def am_mt4 : List am_MR := [
  (⟨"DrumWorldModel", "shake", "(III)I"⟩, prog_14_method_19_code, 4, (Option.some Jvm.ClassFile.FieldType.int), 11, 0, 3, 1327, 16, 1325, 1326),
  (⟨"DrumWorldModel", "days", "(I)I"⟩, prog_14_method_20_code, 2, (Option.some Jvm.ClassFile.FieldType.int), 11, 0, 1, 1332, 16, 1330, 1331),
  (⟨"DrumWorldModel", "card", "(IIII)I"⟩, prog_14_method_24_code, 5, (Option.some Jvm.ClassFile.FieldType.int), 11, 0, 4, 1336, 16, 1334, 1335),
  (⟨"DrumWorldModel", "isShake", "(I)Z"⟩, prog_14_method_21_code, 2, (Option.some Jvm.ClassFile.FieldType.boolean), 11, 0, 1, 1340, 16, 1339, 10045),
  (⟨"DrumWorldModel", "mend", "(II)I"⟩, prog_14_method_25_code, 3, (Option.some Jvm.ClassFile.FieldType.int), 11, 0, 2, 1344, 16, 1342, 1343),
  (⟨"DrumWorldModel", "isCard", "(I)Z"⟩, prog_14_method_22_code, 2, (Option.some Jvm.ClassFile.FieldType.boolean), 11, 0, 1, 1348, 16, 1347, 10046),
  (⟨"DrumWorldModel", "wrong", "(II)I"⟩, prog_14_method_26_code, 4, (Option.some Jvm.ClassFile.FieldType.int), 11, 0, 2, 1352, 16, 1350, 1351),
  (⟨"DrumWorldModel", "cardTold", "(III)I"⟩, prog_14_method_31_code, 4, (Option.some Jvm.ClassFile.FieldType.int), 11, 0, 3, 1356, 16, 1354, 1355),
  (⟨"DrumWorldModel", "isKnown", "(I)Z"⟩, prog_14_method_23_code, 2, (Option.some Jvm.ClassFile.FieldType.boolean), 11, 0, 1, 1361, 16, 1360, 10047),
  (⟨"DrumWorldModel", "timeOf", "(II)I"⟩, prog_14_method_27_code, 3, (Option.some Jvm.ClassFile.FieldType.int), 11, 0, 2, 1366, 16, 1365, 10048),
  (⟨"DrumWorldModel", "lateOf", "(II)I"⟩, prog_14_method_30_code, 4, (Option.some Jvm.ClassFile.FieldType.int), 11, 0, 2, 1370, 16, 1369, 10049),
  (⟨"DrumWorldModel", "dueOfCard", "(I)I"⟩, prog_14_method_29_code, 2, (Option.some Jvm.ClassFile.FieldType.int), 11, 0, 1, 1374, 16, 1373, 10050),
  (⟨"DrumWorldModel", "farOf", "(I)I"⟩, prog_14_method_28_code, 2, (Option.some Jvm.ClassFile.FieldType.int), 11, 0, 1, 1378, 16, 1377, 10051),
  (⟨"DrumWorldModel", "apart", "(II)I"⟩, prog_14_method_16_code, 3, (Option.some Jvm.ClassFile.FieldType.int), 11, 1, 2, 1381, 16, 1380, 0),
  (⟨"DrumWorldModel", "feed", "(JI)I"⟩, prog_14_method_32_code, 5, (Option.some Jvm.ClassFile.FieldType.int), 11, 0, 2, 1387, 16, 1385, 1386),
  (⟨"DrumWorldModel", "text", "()I"⟩, prog_14_method_43_code, 3, (Option.some Jvm.ClassFile.FieldType.int), 11, 0, 0, 1392, 16, 1390, 1391),
  (⟨"DrumWorldModel", "next", "()V"⟩, prog_14_method_34_code, 5, (Option.none : Option Jvm.ClassFile.FieldType), 11, 0, 0, 1396, 16, 1395, 10052),
  (⟨"DrumWorldModel", "letters", "()J"⟩, prog_14_method_33_code, 4, (Option.some Jvm.ClassFile.FieldType.long), 11, 0, 0, 1400, 16, 1399, 10053),
  (⟨"DrumWorldModel", "eRead", "()Z"⟩, prog_14_method_42_code, 4, (Option.some Jvm.ClassFile.FieldType.boolean), 11, 0, 0, 1404, 16, 1403, 10054),
  (⟨"DrumWorldModel", "puts", "(I)V"⟩, prog_14_method_36_code, 2, (Option.none : Option Jvm.ClassFile.FieldType), 11, 0, 1, 1409, 16, 1408, 10055),
  (⟨"DrumWorldModel", "unwinds", "(I)V"⟩, prog_14_method_37_code, 3, (Option.none : Option Jvm.ClassFile.FieldType), 11, 0, 1, 1413, 16, 1412, 10056),
  (⟨"DrumWorldModel", "rank", "(I)I"⟩, prog_14_method_35_code, 1, (Option.some Jvm.ClassFile.FieldType.int), 11, 1, 1, 1416, 16, 1415, 0),
  (⟨"DrumWorldModel", "opensOne", "(I)Z"⟩, prog_14_method_39_code, 2, (Option.some Jvm.ClassFile.FieldType.boolean), 11, 0, 1, 1420, 16, 1419, 10057),
  (⟨"DrumWorldModel", "holds", "(I)V"⟩, prog_14_method_38_code, 2, (Option.none : Option Jvm.ClassFile.FieldType), 11, 0, 1, 1424, 16, 1423, 10058),
  (⟨"DrumWorldModel", "signOf", "()I"⟩, prog_14_method_41_code, 1, (Option.some Jvm.ClassFile.FieldType.int), 11, 0, 0, 1428, 16, 1427, 10059),
  (⟨"DrumWorldModel", "between", "(I)Z"⟩, prog_14_method_40_code, 2, (Option.some Jvm.ClassFile.FieldType.boolean), 11, 0, 1, 1432, 16, 1431, 10060),
  (⟨"DrumWorldModel", "force", "(I)I"⟩, prog_14_method_48_code, 3, (Option.some Jvm.ClassFile.FieldType.int), 11, 0, 1, 1436, 16, 1434, 1435),
  (⟨"DrumWorldModel", "law", "(III)J"⟩, prog_14_method_49_code, 4, (Option.some Jvm.ClassFile.FieldType.long), 11, 0, 3, 1440, 16, 1438, 1439),
  (⟨"DrumWorldModel", "worth", "(III)I"⟩, prog_14_method_47_code, 7, (Option.some Jvm.ClassFile.FieldType.int), 11, 0, 3, 1444, 16, 1443, 10061),
  (⟨"DrumWorldModel", "named", "(III)I"⟩, prog_14_method_46_code, 5, (Option.some Jvm.ClassFile.FieldType.int), 11, 0, 3, 1448, 16, 1447, 10062),
  (⟨"DrumWorldModel", "sizeOf", "(II)I"⟩, prog_14_method_45_code, 3, (Option.some Jvm.ClassFile.FieldType.int), 11, 1, 2, 1451, 16, 1450, 0),
  (⟨"DrumWorldModel", "two", "(III)I"⟩, prog_14_method_44_code, 3, (Option.some Jvm.ClassFile.FieldType.int), 11, 1, 3, 1454, 16, 1453, 0),
  (⟨"DrumWorldModel", "place", "(III)J"⟩, prog_14_method_53_code, 4, (Option.some Jvm.ClassFile.FieldType.long), 11, 0, 3, 1459, 16, 1457, 1458),
  (⟨"DrumWorldModel", "places", "(II)Z"⟩, prog_14_method_52_code, 8, (Option.some Jvm.ClassFile.FieldType.boolean), 11, 0, 2, 1464, 16, 1463, 10063),
  (⟨"DrumWorldModel", "hoursFrom", "(IIII)Z"⟩, prog_14_method_51_code, 9, (Option.some Jvm.ClassFile.FieldType.boolean), 11, 0, 4, 1468, 16, 1467, 10064),
  (⟨"DrumWorldModel", "isHeard", "(II)Z"⟩, prog_14_method_50_code, 3, (Option.some Jvm.ClassFile.FieldType.boolean), 11, 0, 2, 1472, 16, 1471, 10065),
  (⟨"DrumWorldModel", "settle", "(II)J"⟩, prog_14_method_54_code, 4, (Option.some Jvm.ClassFile.FieldType.long), 11, 0, 2, 1477, 16, 1475, 1476),
  (⟨"DrumWorldModel", "table", "(IIII)J"⟩, prog_14_method_56_code, 12, (Option.some Jvm.ClassFile.FieldType.long), 11, 0, 4, 1483, 16, 1481, 1482),
  (⟨"DrumWorldModel", "sortOf", "(I)I"⟩, prog_14_method_10_code, 1, (Option.some Jvm.ClassFile.FieldType.int), 11, 1, 1, 1486, 16, 1485, 0),
  (⟨"DrumWorldModel", "lowest", "(JJI)J"⟩, prog_14_method_55_code, 11, (Option.some Jvm.ClassFile.FieldType.long), 11, 1, 3, 1489, 16, 1488, 0)]
def am_mt5 : List am_MR := [
  (⟨"DrumWorldModel", "refit", "(II)J"⟩, prog_14_method_58_code, 11, (Option.some Jvm.ClassFile.FieldType.long), 11, 0, 2, 1493, 16, 1491, 1492),
  (⟨"DrumWorldModel", "allOff", "(II)J"⟩, prog_14_method_57_code, 6, (Option.some Jvm.ClassFile.FieldType.long), 11, 0, 2, 1498, 16, 1497, 10066),
  (⟨"DrumWorldModel", "refitTold", "(I)I"⟩, prog_14_method_59_code, 2, (Option.some Jvm.ClassFile.FieldType.int), 11, 0, 1, 1502, 16, 1500, 1501),
  (⟨"DrumWorldModel", "called", "(III)I"⟩, prog_14_method_60_code, 8, (Option.some Jvm.ClassFile.FieldType.int), 11, 0, 3, 1506, 16, 1504, 1505),
  (⟨"DrumWorldModel", "strange", "(I)I"⟩, prog_14_method_61_code, 4, (Option.some Jvm.ClassFile.FieldType.int), 11, 0, 1, 1510, 16, 1508, 1509),
  (⟨"DrumWorldModel", "watch", "(III)I"⟩, prog_14_method_63_code, 9, (Option.some Jvm.ClassFile.FieldType.int), 11, 0, 3, 1514, 16, 1512, 1513),
  (⟨"DrumWorldModel", "nearBy", "(III)I"⟩, prog_14_method_62_code, 8, (Option.some Jvm.ClassFile.FieldType.int), 11, 0, 3, 1518, 16, 1517, 10067),
  (⟨"DrumWorldModel", "watched", "()I"⟩, prog_14_method_64_code, 1, (Option.some Jvm.ClassFile.FieldType.int), 11, 0, 0, 1522, 16, 1520, 1521),
  (⟨"DrumWorldModel", "shakeTold", "(II)I"⟩, prog_14_method_65_code, 3, (Option.some Jvm.ClassFile.FieldType.int), 11, 0, 2, 1526, 16, 1524, 1525),
  (⟨"DrumWorldModel", "count", "(I)I"⟩, prog_14_method_66_code, 2, (Option.some Jvm.ClassFile.FieldType.int), 11, 0, 1, 1530, 16, 1528, 1529),
  (⟨"DrumWorldModel", "image", "()I"⟩, prog_14_method_67_code, 2, (Option.some Jvm.ClassFile.FieldType.int), 11, 0, 0, 1534, 16, 1532, 1533),
  (⟨"DrumWorldModel", "back", "()I"⟩, prog_14_method_68_code, 2, (Option.some Jvm.ClassFile.FieldType.int), 11, 0, 0, 1538, 16, 1536, 1537),
  (⟨"DrumWorldModel", "sheet", "(III)I"⟩, prog_14_method_69_code, 5, (Option.some Jvm.ClassFile.FieldType.int), 11, 0, 3, 1542, 16, 1540, 1541),
  (⟨"DrumWorldModel", "cell", "(III)I"⟩, prog_14_method_70_code, 4, (Option.some Jvm.ClassFile.FieldType.int), 11, 0, 3, 1546, 16, 1544, 1545),
  (⟨"DrumWorldModel", "copy", "(IIIII)I"⟩, prog_14_method_71_code, 10, (Option.some Jvm.ClassFile.FieldType.int), 11, 0, 5, 1550, 16, 1548, 1549),
  (⟨"DrumWorldModel", "cards", "(IIII)I"⟩, prog_14_method_72_code, 9, (Option.some Jvm.ClassFile.FieldType.int), 11, 0, 4, 1554, 16, 1552, 1553),
  (⟨"DrumWorldModel", "taken", "(II)I"⟩, prog_14_method_74_code, 3, (Option.some Jvm.ClassFile.FieldType.int), 11, 0, 2, 1559, 16, 1557, 1558),
  (⟨"DrumWorldModel", "isUnder", "(II)Z"⟩, prog_14_method_73_code, 2, (Option.some Jvm.ClassFile.FieldType.boolean), 11, 1, 2, 1562, 16, 1561, 0),
  (⟨"java/lang/Integer", "bitCount", "(I)I"⟩, prog_16_method_49_code, 1, (Option.some Jvm.ClassFile.FieldType.int), 99, 1, 1, 953, 21, 952, 0),
  (⟨"java/lang/String", "length", "()I"⟩, prog_18_method_54_code, 1, (Option.some Jvm.ClassFile.FieldType.int), 902, 0, 0, 233, 8, 231, 232),
  (⟨"java/lang/String", "coder", "()B"⟩, prog_18_method_152_code, 1, (Option.some Jvm.ClassFile.FieldType.byte), 902, 0, 0, 237, 8, 235, 236),
  (⟨"java/lang/String", "charAt", "(I)C"⟩, prog_18_method_56_code, 2, (Option.some Jvm.ClassFile.FieldType.char), 902, 0, 1, 243, 8, 241, 242),
  (⟨"java/lang/String", "isLatin1", "()Z"⟩, prog_18_method_154_code, 1, (Option.some Jvm.ClassFile.FieldType.boolean), 902, 0, 0, 247, 8, 245, 246),
  (⟨"java/lang/StringLatin1", "charAt", "([BI)C"⟩, prog_19_method_2_code, 2, (Option.some Jvm.ClassFile.FieldType.char), 99, 1, 2, 250, 9, 249, 0),
  (⟨"java/lang/String", "indexOf", "(I)I"⟩, prog_18_method_79_code, 2, (Option.some Jvm.ClassFile.FieldType.int), 902, 0, 1, 335, 8, 333, 334),
  (⟨"java/lang/String", "indexOf", "(II)I"⟩, prog_18_method_80_code, 3, (Option.some Jvm.ClassFile.FieldType.int), 902, 0, 2, 339, 8, 337, 338),
  (⟨"java/lang/StringLatin1", "indexOf", "([BIII)I"⟩, prog_19_method_22_code, 4, (Option.some Jvm.ClassFile.FieldType.int), 99, 1, 4, 343, 9, 342, 0),
  (⟨"java/lang/StringLatin1", "canEncode", "(I)Z"⟩, prog_19_method_4_code, 1, (Option.some Jvm.ClassFile.FieldType.boolean), 99, 1, 1, 346, 9, 345, 0),
  (⟨"java/lang/StringLatin1", "indexOfChar", "([BIII)I"⟩, prog_19_method_23_code, 6, (Option.some Jvm.ClassFile.FieldType.int), 99, 1, 4, 355, 9, 354, 0)]
def am_mt : List am_MR := am_mt0 ++ am_mt1 ++ am_mt2 ++ am_mt3 ++ am_mt4 ++ am_mt5
def am_m (j : Nat) : am_MR := am_mt.getD j (⟨"", "", ""⟩, ⟨#[]⟩, 0, none, 99, 0, 0, 0, 0, 0, 0)
def am_y (j : Nat) : MethodName := (am_m j).1
def am_b (j : Nat) : ByteArray := (am_m j).2.1
def am_ml (j : Nat) : Nat := (am_m j).2.2.1
def am_rt (j : Nat) : Option FieldType := (am_m j).2.2.2.1
def am_mc (j : Nat) : Nat := (am_m j).2.2.2.2.1
def am_st (j : Nat) : Nat := (am_m j).2.2.2.2.2.1
def am_np (j : Nat) : Nat := (am_m j).2.2.2.2.2.2.1
def am_ck (r : am_MR) : Bool := match r with
  | (y, _, ml, ret, ci, st, np, _, q1, q2, q3) => decide (tables_1[q1]? = some (.initialized y.cls)) && (if st = 1 then decide (tables_1[q2]? = some (.static y)) else decide (tables_1[q2]? = some (.instanceMethod y))) && (if st = 1 ∨ y.name = "<init>" then true else if q3 < 10000 then decide (tables_1[q3]? = some (.selects y.cls y y)) else decide ((lw_privs[q3 - 10000]?).map (fun q => q.1) = some y)) && plainName y.cls && decide (y.cls ≠ "java/lang/invoke/MethodHandle" ∧ y.cls ≠ "java/lang/invoke/VarHandle") && decide (ml ≤ 40) && (if ci < 99 then decide ((am_cl[ci]?).map (fun q => q.1) = some y.cls) else if ci = 902 then decide (y.cls = "java/lang/String") else decide (st = 1))
def am_cd (r : am_MR) : Bool := match r with
  | (y, _, _, ret, _, _, np, _, _, _, _) => decide ((parseMethodDescriptor y.desc).map (fun d => d.parameters.length) = some np) && decide ((parseMethodDescriptor y.desc).map (fun d => d.returnType) = some ret)
theorem am_ck0 : ((am_mt.drop 1).take 19).all am_ck = true := by decide +kernel
theorem am_ck1 : ((am_mt.drop 20).take 20).all am_ck = true := by decide +kernel
theorem am_ck2 : ((am_mt.drop 40).take 20).all am_ck = true := by decide +kernel
theorem am_ck3 : ((am_mt.drop 60).take 20).all am_ck = true := by decide +kernel
theorem am_ck4 : ((am_mt.drop 80).take 20).all am_ck = true := by decide +kernel
theorem am_ck5 : ((am_mt.drop 100).take 20).all am_ck = true := by decide +kernel
theorem am_ck6 : ((am_mt.drop 120).take 20).all am_ck = true := by decide +kernel
theorem am_ck7 : ((am_mt.drop 140).take 20).all am_ck = true := by decide +kernel
theorem am_ck8 : ((am_mt.drop 160).take 20).all am_ck = true := by decide +kernel
theorem am_ck9 : ((am_mt.drop 180).take 20).all am_ck = true := by decide +kernel
theorem am_ck10 : ((am_mt.drop 200).take 20).all am_ck = true := by decide +kernel
theorem am_ck11 : ((am_mt.drop 220).take 20).all am_ck = true := by decide +kernel
theorem am_cd0 : ((am_mt.drop 1).take 19).all am_cd = true := by decide +kernel
theorem am_cd1 : ((am_mt.drop 20).take 20).all am_cd = true := by decide +kernel
theorem am_cd2 : ((am_mt.drop 40).take 20).all am_cd = true := by decide +kernel
theorem am_cd3 : ((am_mt.drop 60).take 20).all am_cd = true := by decide +kernel
theorem am_cd4 : ((am_mt.drop 80).take 20).all am_cd = true := by decide +kernel
theorem am_cd5 : ((am_mt.drop 100).take 20).all am_cd = true := by decide +kernel
theorem am_cd6 : ((am_mt.drop 120).take 20).all am_cd = true := by decide +kernel
theorem am_cd7 : ((am_mt.drop 140).take 20).all am_cd = true := by decide +kernel
theorem am_cd8 : ((am_mt.drop 160).take 20).all am_cd = true := by decide +kernel
theorem am_cd9 : ((am_mt.drop 180).take 20).all am_cd = true := by decide +kernel
theorem am_cd10 : ((am_mt.drop 200).take 20).all am_cd = true := by decide +kernel
theorem am_cd11 : ((am_mt.drop 220).take 20).all am_cd = true := by decide +kernel
set_option maxRecDepth 100000 in
theorem am_cw : ∀ j, 1 ≤ j → j < 229 → ∃ q : Nat, tables_1[q]? = some (.code (am_y j) (am_b j) (am_ml j) (am_rt j)) := by
  intro j h1 hj
  match j, h1, hj with
  | 0, h1, _ => omega
  | 1, _, _ => exact ⟨26, rfl⟩
  | 2, _, _ => exact ⟨34, rfl⟩
  | 3, _, _ => exact ⟨63, rfl⟩
  | 4, _, _ => exact ⟨69, rfl⟩
  | 5, _, _ => exact ⟨111, rfl⟩
  | 6, _, _ => exact ⟨164, rfl⟩
  | 7, _, _ => exact ⟨210, rfl⟩
  | 8, _, _ => exact ⟨229, rfl⟩
  | 9, _, _ => exact ⟨281, rfl⟩
  | 10, _, _ => exact ⟨285, rfl⟩
  | 11, _, _ => exact ⟨289, rfl⟩
  | 12, _, _ => exact ⟨293, rfl⟩
  | 13, _, _ => exact ⟨296, rfl⟩
  | 14, _, _ => exact ⟨299, rfl⟩
  | 15, _, _ => exact ⟨303, rfl⟩
  | 16, _, _ => exact ⟨307, rfl⟩
  | 17, _, _ => exact ⟨311, rfl⟩
  | 18, _, _ => exact ⟨314, rfl⟩
  | 19, _, _ => exact ⟨330, rfl⟩
  | 20, _, _ => exact ⟨394, rfl⟩
  | 21, _, _ => exact ⟨398, rfl⟩
  | 22, _, _ => exact ⟨402, rfl⟩
  | 23, _, _ => exact ⟨406, rfl⟩
  | 24, _, _ => exact ⟨410, rfl⟩
  | 25, _, _ => exact ⟨414, rfl⟩
  | 26, _, _ => exact ⟨418, rfl⟩
  | 27, _, _ => exact ⟨422, rfl⟩
  | 28, _, _ => exact ⟨426, rfl⟩
  | 29, _, _ => exact ⟨429, rfl⟩
  | 30, _, _ => exact ⟨433, rfl⟩
  | 31, _, _ => exact ⟨438, rfl⟩
  | 32, _, _ => exact ⟨460, rfl⟩
  | 33, _, _ => exact ⟨525, rfl⟩
  | 34, _, _ => exact ⟨528, rfl⟩
  | 35, _, _ => exact ⟨531, rfl⟩
  | 36, _, _ => exact ⟨534, rfl⟩
  | 37, _, _ => exact ⟨538, rfl⟩
  | 38, _, _ => exact ⟨542, rfl⟩
  | 39, _, _ => exact ⟨546, rfl⟩
  | 40, _, _ => exact ⟨550, rfl⟩
  | 41, _, _ => exact ⟨554, rfl⟩
  | 42, _, _ => exact ⟨557, rfl⟩
  | 43, _, _ => exact ⟨561, rfl⟩
  | 44, _, _ => exact ⟨565, rfl⟩
  | 45, _, _ => exact ⟨568, rfl⟩
  | 46, _, _ => exact ⟨572, rfl⟩
  | 47, _, _ => exact ⟨575, rfl⟩
  | 48, _, _ => exact ⟨579, rfl⟩
  | 49, _, _ => exact ⟨583, rfl⟩
  | 50, _, _ => exact ⟨586, rfl⟩
  | 51, _, _ => exact ⟨591, rfl⟩
  | 52, _, _ => exact ⟨595, rfl⟩
  | 53, _, _ => exact ⟨598, rfl⟩
  | 54, _, _ => exact ⟨601, rfl⟩
  | 55, _, _ => exact ⟨605, rfl⟩
  | 56, _, _ => exact ⟨610, rfl⟩
  | 57, _, _ => exact ⟨613, rfl⟩
  | 58, _, _ => exact ⟨616, rfl⟩
  | 59, _, _ => exact ⟨620, rfl⟩
  | 60, _, _ => exact ⟨646, rfl⟩
  | 61, _, _ => exact ⟨650, rfl⟩
  | 62, _, _ => exact ⟨654, rfl⟩
  | 63, _, _ => exact ⟨657, rfl⟩
  | 64, _, _ => exact ⟨662, rfl⟩
  | 65, _, _ => exact ⟨689, rfl⟩
  | 66, _, _ => exact ⟨693, rfl⟩
  | 67, _, _ => exact ⟨697, rfl⟩
  | 68, _, _ => exact ⟨701, rfl⟩
  | 69, _, _ => exact ⟨743, rfl⟩
  | 70, _, _ => exact ⟨747, rfl⟩
  | 71, _, _ => exact ⟨751, rfl⟩
  | 72, _, _ => exact ⟨755, rfl⟩
  | 73, _, _ => exact ⟨760, rfl⟩
  | 74, _, _ => exact ⟨765, rfl⟩
  | 75, _, _ => exact ⟨769, rfl⟩
  | 76, _, _ => exact ⟨773, rfl⟩
  | 77, _, _ => exact ⟨776, rfl⟩
  | 78, _, _ => exact ⟨785, rfl⟩
  | 79, _, _ => exact ⟨791, rfl⟩
  | 80, _, _ => exact ⟨795, rfl⟩
  | 81, _, _ => exact ⟨799, rfl⟩
  | 82, _, _ => exact ⟨803, rfl⟩
  | 83, _, _ => exact ⟨807, rfl⟩
  | 84, _, _ => exact ⟨811, rfl⟩
  | 85, _, _ => exact ⟨816, rfl⟩
  | 86, _, _ => exact ⟨820, rfl⟩
  | 87, _, _ => exact ⟨824, rfl⟩
  | 88, _, _ => exact ⟨828, rfl⟩
  | 89, _, _ => exact ⟨832, rfl⟩
  | 90, _, _ => exact ⟨835, rfl⟩
  | 91, _, _ => exact ⟨838, rfl⟩
  | 92, _, _ => exact ⟨842, rfl⟩
  | 93, _, _ => exact ⟨847, rfl⟩
  | 94, _, _ => exact ⟨851, rfl⟩
  | 95, _, _ => exact ⟨854, rfl⟩
  | 96, _, _ => exact ⟨858, rfl⟩
  | 97, _, _ => exact ⟨862, rfl⟩
  | 98, _, _ => exact ⟨866, rfl⟩
  | 99, _, _ => exact ⟨871, rfl⟩
  | 100, _, _ => exact ⟨876, rfl⟩
  | 101, _, _ => exact ⟨880, rfl⟩
  | 102, _, _ => exact ⟨886, rfl⟩
  | 103, _, _ => exact ⟨893, rfl⟩
  | 104, _, _ => exact ⟨896, rfl⟩
  | 105, _, _ => exact ⟨900, rfl⟩
  | 106, _, _ => exact ⟨904, rfl⟩
  | 107, _, _ => exact ⟨909, rfl⟩
  | 108, _, _ => exact ⟨913, rfl⟩
  | 109, _, _ => exact ⟨917, rfl⟩
  | 110, _, _ => exact ⟨922, rfl⟩
  | 111, _, _ => exact ⟨926, rfl⟩
  | 112, _, _ => exact ⟨930, rfl⟩
  | 113, _, _ => exact ⟨934, rfl⟩
  | 114, _, _ => exact ⟨938, rfl⟩
  | 115, _, _ => exact ⟨942, rfl⟩
  | 116, _, _ => exact ⟨945, rfl⟩
  | 117, _, _ => exact ⟨949, rfl⟩
  | 118, _, _ => exact ⟨960, rfl⟩
  | 119, _, _ => exact ⟨964, rfl⟩
  | 120, _, _ => exact ⟨968, rfl⟩
  | 121, _, _ => exact ⟨972, rfl⟩
  | 122, _, _ => exact ⟨976, rfl⟩
  | 123, _, _ => exact ⟨980, rfl⟩
  | 124, _, _ => exact ⟨984, rfl⟩
  | 125, _, _ => exact ⟨989, rfl⟩
  | 126, _, _ => exact ⟨993, rfl⟩
  | 127, _, _ => exact ⟨997, rfl⟩
  | 128, _, _ => exact ⟨1001, rfl⟩
  | 129, _, _ => exact ⟨1005, rfl⟩
  | 130, _, _ => exact ⟨1009, rfl⟩
  | 131, _, _ => exact ⟨1013, rfl⟩
  | 132, _, _ => exact ⟨1017, rfl⟩
  | 133, _, _ => exact ⟨1021, rfl⟩
  | 134, _, _ => exact ⟨1024, rfl⟩
  | 135, _, _ => exact ⟨1028, rfl⟩
  | 136, _, _ => exact ⟨1032, rfl⟩
  | 137, _, _ => exact ⟨1036, rfl⟩
  | 138, _, _ => exact ⟨1040, rfl⟩
  | 139, _, _ => exact ⟨1044, rfl⟩
  | 140, _, _ => exact ⟨1048, rfl⟩
  | 141, _, _ => exact ⟨1053, rfl⟩
  | 142, _, _ => exact ⟨1058, rfl⟩
  | 143, _, _ => exact ⟨1061, rfl⟩
  | 144, _, _ => exact ⟨1064, rfl⟩
  | 145, _, _ => exact ⟨1069, rfl⟩
  | 146, _, _ => exact ⟨1086, rfl⟩
  | 147, _, _ => exact ⟨1277, rfl⟩
  | 148, _, _ => exact ⟨1280, rfl⟩
  | 149, _, _ => exact ⟨1284, rfl⟩
  | 150, _, _ => exact ⟨1288, rfl⟩
  | 151, _, _ => exact ⟨1292, rfl⟩
  | 152, _, _ => exact ⟨1296, rfl⟩
  | 153, _, _ => exact ⟨1300, rfl⟩
  | 154, _, _ => exact ⟨1304, rfl⟩
  | 155, _, _ => exact ⟨1308, rfl⟩
  | 156, _, _ => exact ⟨1312, rfl⟩
  | 157, _, _ => exact ⟨1316, rfl⟩
  | 158, _, _ => exact ⟨1319, rfl⟩
  | 159, _, _ => exact ⟨1323, rfl⟩
  | 160, _, _ => exact ⟨1327, rfl⟩
  | 161, _, _ => exact ⟨1332, rfl⟩
  | 162, _, _ => exact ⟨1336, rfl⟩
  | 163, _, _ => exact ⟨1340, rfl⟩
  | 164, _, _ => exact ⟨1344, rfl⟩
  | 165, _, _ => exact ⟨1348, rfl⟩
  | 166, _, _ => exact ⟨1352, rfl⟩
  | 167, _, _ => exact ⟨1356, rfl⟩
  | 168, _, _ => exact ⟨1361, rfl⟩
  | 169, _, _ => exact ⟨1366, rfl⟩
  | 170, _, _ => exact ⟨1370, rfl⟩
  | 171, _, _ => exact ⟨1374, rfl⟩
  | 172, _, _ => exact ⟨1378, rfl⟩
  | 173, _, _ => exact ⟨1381, rfl⟩
  | 174, _, _ => exact ⟨1387, rfl⟩
  | 175, _, _ => exact ⟨1392, rfl⟩
  | 176, _, _ => exact ⟨1396, rfl⟩
  | 177, _, _ => exact ⟨1400, rfl⟩
  | 178, _, _ => exact ⟨1404, rfl⟩
  | 179, _, _ => exact ⟨1409, rfl⟩
  | 180, _, _ => exact ⟨1413, rfl⟩
  | 181, _, _ => exact ⟨1416, rfl⟩
  | 182, _, _ => exact ⟨1420, rfl⟩
  | 183, _, _ => exact ⟨1424, rfl⟩
  | 184, _, _ => exact ⟨1428, rfl⟩
  | 185, _, _ => exact ⟨1432, rfl⟩
  | 186, _, _ => exact ⟨1436, rfl⟩
  | 187, _, _ => exact ⟨1440, rfl⟩
  | 188, _, _ => exact ⟨1444, rfl⟩
  | 189, _, _ => exact ⟨1448, rfl⟩
  | 190, _, _ => exact ⟨1451, rfl⟩
  | 191, _, _ => exact ⟨1454, rfl⟩
  | 192, _, _ => exact ⟨1459, rfl⟩
  | 193, _, _ => exact ⟨1464, rfl⟩
  | 194, _, _ => exact ⟨1468, rfl⟩
  | 195, _, _ => exact ⟨1472, rfl⟩
  | 196, _, _ => exact ⟨1477, rfl⟩
  | 197, _, _ => exact ⟨1483, rfl⟩
  | 198, _, _ => exact ⟨1486, rfl⟩
  | 199, _, _ => exact ⟨1489, rfl⟩
  | 200, _, _ => exact ⟨1493, rfl⟩
  | 201, _, _ => exact ⟨1498, rfl⟩
  | 202, _, _ => exact ⟨1502, rfl⟩
  | 203, _, _ => exact ⟨1506, rfl⟩
  | 204, _, _ => exact ⟨1510, rfl⟩
  | 205, _, _ => exact ⟨1514, rfl⟩
  | 206, _, _ => exact ⟨1518, rfl⟩
  | 207, _, _ => exact ⟨1522, rfl⟩
  | 208, _, _ => exact ⟨1526, rfl⟩
  | 209, _, _ => exact ⟨1530, rfl⟩
  | 210, _, _ => exact ⟨1534, rfl⟩
  | 211, _, _ => exact ⟨1538, rfl⟩
  | 212, _, _ => exact ⟨1542, rfl⟩
  | 213, _, _ => exact ⟨1546, rfl⟩
  | 214, _, _ => exact ⟨1550, rfl⟩
  | 215, _, _ => exact ⟨1554, rfl⟩
  | 216, _, _ => exact ⟨1559, rfl⟩
  | 217, _, _ => exact ⟨1562, rfl⟩
  | 218, _, _ => exact ⟨953, rfl⟩
  | 219, _, _ => exact ⟨233, rfl⟩
  | 220, _, _ => exact ⟨237, rfl⟩
  | 221, _, _ => exact ⟨243, rfl⟩
  | 222, _, _ => exact ⟨247, rfl⟩
  | 223, _, _ => exact ⟨250, rfl⟩
  | 224, _, _ => exact ⟨335, rfl⟩
  | 225, _, _ => exact ⟨339, rfl⟩
  | 226, _, _ => exact ⟨343, rfl⟩
  | 227, _, _ => exact ⟨346, rfl⟩
  | 228, _, _ => exact ⟨355, rfl⟩
  | j + 229, _, hj => omega
def am_nm : Nat := 229
