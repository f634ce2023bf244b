/-! WHAT IS TOLD OF THE START, out of the Statement; tables written by wip/whole/gen28.py. -/
def zks : List String := ["END", "NONE", "NAME", "NUMBER", "COMMA", "SEMICOLON", "LOFT", "AT", "THEN", "SPEED", "PIGEON", "OF", "IN", "SIGHT", "HAWK", "REACH", "RESTS", "LETTER", "BY", "AND"]
/-- the texts: whose, which, their bytes -/
def zss : List (String × Nat × List Int32) := [("LoftPost$Kind", 88, []), ("LoftPost$Kind", 99, [108, 111, 102, 116]), ("LoftPost$Kind", 102, [97, 116]), ("LoftPost$Kind", 105, [116, 104, 101, 110]), ("LoftPost$Kind", 108, [115, 112, 101, 101, 100]), ("LoftPost$Kind", 111, [112, 105, 103, 101, 111, 110]), ("LoftPost$Kind", 114, [111, 102]), ("LoftPost$Kind", 117, [105, 110]), ("LoftPost$Kind", 120, [115, 105, 103, 104, 116]), ("LoftPost$Kind", 123, [104, 97, 119, 107]), ("LoftPost$Kind", 126, [114, 101, 97, 99, 104]), ("LoftPost$Kind", 129, [114, 101, 115, 116, 115]), ("LoftPost$Kind", 132, [108, 101, 116, 116, 101, 114]), ("LoftPost$Kind", 135, [98, 121]), ("LoftPost$Kind", 138, [97, 110, 100]), ("LoftPostModel", 372, [108, 111, 102, 116]), ("LoftPostModel", 374, [97, 116]), ("LoftPostModel", 376, [116, 104, 101, 110]), ("LoftPostModel", 378, [115, 112, 101, 101, 100]), ("LoftPostModel", 379, [112, 105, 103, 101, 111, 110]), ("LoftPostModel", 381, [111, 102]), ("LoftPostModel", 383, [105, 110]), ("LoftPostModel", 385, [115, 105, 103, 104, 116]), ("LoftPostModel", 386, [104, 97, 119, 107]), ("LoftPostModel", 388, [114, 101, 97, 99, 104]), ("LoftPostModel", 389, [114, 101, 115, 116, 115]), ("LoftPostModel", 390, [108, 101, 116, 116, 101, 114]), ("LoftPostModel", 392, [98, 121]), ("LoftPostModel", 394, [97, 110, 100])]
/-- a constant's text -/
def zkw : List Nat := [0, 0, 0, 0, 0, 0, 1, 2, 3, 4, 5, 6, 7, 8, 9, 10, 11, 12, 13, 14]
def zpS : List (List Nat) := [[867, 868, 869, 870], [871, 872, 873, 874, 875, 876, 877, 878], [879, 880, 881, 882, 883, 884], [885, 886, 887, 888, 889, 890, 891, 892], [893, 894, 895, 896, 897, 898, 899, 900, 901], [902, 903, 904, 905, 906, 907, 908, 909, 910, 911], [912, 913, 914, 915, 916, 917], [918, 919, 920, 921, 922, 923], [924, 925, 926, 927, 928, 929, 930, 931, 932], [933, 934, 935, 936, 937, 938, 939, 940], [941, 942, 943, 944, 945, 946, 947, 948, 949], [950, 951, 952, 953, 954, 955, 956, 957, 958], [959, 960, 961, 962, 963, 964, 965, 966, 967, 968], [969, 970, 971, 972, 973, 974], [975, 976, 977, 978, 979, 980, 981], [982, 983, 984, 985, 986, 987, 988, 989], [991, 992, 993, 994, 995, 996], [998, 999, 1000, 1001, 1002, 1003, 1004, 1005], [1007, 1008, 1009, 1010, 1011, 1012, 1013, 1014, 1015], [1017, 1018, 1019, 1020, 1021, 1022, 1023, 1024, 1025, 1026], [1028, 1029, 1030, 1031, 1032, 1033], [1035, 1036, 1037, 1038, 1039, 1040], [1042, 1043, 1044, 1045, 1046, 1047, 1048, 1049, 1050], [1052, 1053, 1054, 1055, 1056, 1057, 1058, 1059], [1061, 1062, 1063, 1064, 1065, 1066, 1067, 1068, 1069], [1071, 1072, 1073, 1074, 1075, 1076, 1077, 1078, 1079], [1081, 1082, 1083, 1084, 1085, 1086, 1087, 1088, 1089, 1090], [1092, 1093, 1094, 1095, 1096, 1097], [1099, 1100, 1101, 1102, 1103, 1104, 1105]]
def zpN : List (List Nat) := [[0, 10, 44, 49, 55, 62, 70, 79, 89, 100, 112, 125, 139, 154, 170, 187, 205, 224, 244, 265], [0, 0, 45, 50, 56, 63, 71, 80, 90, 101, 113, 126, 140, 155, 171, 188, 206, 225, 245, 266], [0, 0, 0, 51, 57, 64, 72, 81, 91, 102, 114, 127, 141, 156, 172, 189, 207, 226, 246, 267], [0, 0, 0, 0, 58, 65, 73, 82, 92, 103, 115, 128, 142, 157, 173, 190, 208, 227, 247, 268], [0, 0, 0, 0, 0, 66, 74, 83, 93, 104, 116, 129, 143, 158, 174, 191, 209, 228, 248, 269], [0, 0, 0, 0, 0, 0, 75, 84, 94, 105, 117, 130, 144, 159, 175, 192, 210, 229, 249, 270], [0, 0, 0, 0, 0, 0, 0, 85, 95, 106, 118, 131, 145, 160, 176, 193, 211, 230, 250, 271], [0, 0, 0, 0, 0, 0, 0, 0, 96, 107, 119, 132, 146, 161, 177, 194, 212, 231, 251, 272], [0, 0, 0, 0, 0, 0, 0, 0, 0, 108, 120, 133, 147, 162, 178, 195, 213, 232, 252, 273], [0, 0, 0, 0, 0, 0, 0, 0, 0, 0, 121, 134, 148, 163, 179, 196, 214, 233, 253, 274], [0, 0, 0, 0, 0, 0, 0, 0, 0, 0, 0, 135, 149, 164, 180, 197, 215, 234, 254, 275], [0, 0, 0, 0, 0, 0, 0, 0, 0, 0, 0, 0, 150, 165, 181, 198, 216, 235, 255, 276], [0, 0, 0, 0, 0, 0, 0, 0, 0, 0, 0, 0, 0, 166, 182, 199, 217, 236, 256, 277], [0, 0, 0, 0, 0, 0, 0, 0, 0, 0, 0, 0, 0, 0, 183, 200, 218, 237, 257, 278], [0, 0, 0, 0, 0, 0, 0, 0, 0, 0, 0, 0, 0, 0, 0, 201, 219, 238, 258, 279], [0, 0, 0, 0, 0, 0, 0, 0, 0, 0, 0, 0, 0, 0, 0, 0, 220, 239, 259, 280], [0, 0, 0, 0, 0, 0, 0, 0, 0, 0, 0, 0, 0, 0, 0, 0, 0, 240, 260, 281], [0, 0, 0, 0, 0, 0, 0, 0, 0, 0, 0, 0, 0, 0, 0, 0, 0, 0, 261, 282], [0, 0, 0, 0, 0, 0, 0, 0, 0, 0, 0, 0, 0, 0, 0, 0, 0, 0, 0, 283], [0, 0, 0, 0, 0, 0, 0, 0, 0, 0, 0, 0, 0, 0, 0, 0, 0, 0, 0, 0]]
def zpK : List (Nat × Nat × Nat) := [(4, 6, 16), (7, 9, 17), (41, 43, 18), (46, 48, 19), (52, 54, 20), (59, 61, 21), (67, 69, 22), (76, 78, 23), (86, 88, 24), (97, 99, 25), (109, 111, 26), (122, 124, 27), (136, 138, 28), (151, 153, 29), (167, 169, 30), (184, 186, 31), (202, 204, 32), (221, 223, 33), (241, 243, 34), (262, 264, 35)]
def zpW : List Nat := [289, 290, 291, 292, 293, 294, 295, 296, 297, 298, 299, 300, 301, 302]
def zF : List Jvm.Cond := flatC (Jvm.Cond.and given_1 narrow_1)
def zst_ (i : Nat) : Term := .string (zss.getD i ("", 0, [])).1 (zss.getD i ("", 0, [])).2.1
def zsb (i : Nat) : List Int32 := (zss.getD i ("", 0, [])).2.2
def zval (t : Term) : Term := .field t "java/lang/String" "value" "[B"
def zkt (i : Nat) : Term := .static "LoftPost$Kind" (zks.getD i "") "LLoftPost$Kind;"
def zKt : Term := .static "LoftPost" "KINDS" "[LLoftPost$Kind;"
def zWt : Term := .static "LoftPostModel" "WORDS" "[Ljava/lang/String;"
def zFa (i : Nat) (c : Jvm.Cond) : Bool := decide (zF[i]? = some c)
theorem zFa_in {i : Nat} {c : Jvm.Cond} (h : zFa i c = true) : c ∈ zF := List.mem_of_getElem? (of_decide_eq_true h)
def zfS (i : Nat) : Bool := zFa ((zpS.getD i []).getD 0 0) (.exactly (zst_ i) "java/lang/String") && zFa ((zpS.getD i []).getD 1 0) (.eq (.field (zst_ i) "java/lang/String" "coder" "B") (.int 0)) && zFa ((zpS.getD i []).getD 2 0) (.arrayOf (zval (zst_ i)) .byte) &&
    zFa ((zpS.getD i []).getD 3 0) (.eq (.length (zval (zst_ i))) (.int (Int32.ofNat (zsb i).length))) && (List.range (zsb i).length).all (fun j => zFa ((zpS.getD i []).getD (4 + j) 0) (.eq (.elem (zval (zst_ i)) (.int (Int32.ofNat j))) (.int ((zsb i).getD j 0))))
theorem zfS_ok {i : Nat} (h : zfS i = true) : Jvm.Cond.exactly (zst_ i) "java/lang/String" ∈ zF ∧ Jvm.Cond.eq (.field (zst_ i) "java/lang/String" "coder" "B") (.int 0) ∈ zF ∧ Jvm.Cond.arrayOf (zval (zst_ i)) .byte ∈ zF ∧
    Jvm.Cond.eq (.length (zval (zst_ i))) (.int (Int32.ofNat (zsb i).length)) ∈ zF ∧ ∀ j, j < (zsb i).length → Jvm.Cond.eq (.elem (zval (zst_ i)) (.int (Int32.ofNat j))) (.int ((zsb i).getD j 0)) ∈ zF := by
  unfold zfS at h
  simp only [Bool.and_eq_true] at h
  obtain ⟨⟨⟨⟨h1, h2⟩, h3⟩, h4⟩, h5⟩ := h
  exact ⟨zFa_in h1, zFa_in h2, zFa_in h3, zFa_in h4, fun j hj => zFa_in (List.all_eq_true.mp h5 j (List.mem_range.mpr hj))⟩
theorem zfS_0 : zfS 0 = true := by decide +kernel
theorem zfS_1 : zfS 1 = true := by decide +kernel
theorem zfS_2 : zfS 2 = true := by decide +kernel
theorem zfS_3 : zfS 3 = true := by decide +kernel
theorem zfS_4 : zfS 4 = true := by decide +kernel
theorem zfS_5 : zfS 5 = true := by decide +kernel
theorem zfS_6 : zfS 6 = true := by decide +kernel
theorem zfS_7 : zfS 7 = true := by decide +kernel
theorem zfS_8 : zfS 8 = true := by decide +kernel
theorem zfS_9 : zfS 9 = true := by decide +kernel
theorem zfS_10 : zfS 10 = true := by decide +kernel
theorem zfS_11 : zfS 11 = true := by decide +kernel
theorem zfS_12 : zfS 12 = true := by decide +kernel
theorem zfS_13 : zfS 13 = true := by decide +kernel
theorem zfS_14 : zfS 14 = true := by decide +kernel
theorem zfS_15 : zfS 15 = true := by decide +kernel
theorem zfS_16 : zfS 16 = true := by decide +kernel
theorem zfS_17 : zfS 17 = true := by decide +kernel
theorem zfS_18 : zfS 18 = true := by decide +kernel
theorem zfS_19 : zfS 19 = true := by decide +kernel
theorem zfS_20 : zfS 20 = true := by decide +kernel
theorem zfS_21 : zfS 21 = true := by decide +kernel
theorem zfS_22 : zfS 22 = true := by decide +kernel
theorem zfS_23 : zfS 23 = true := by decide +kernel
theorem zfS_24 : zfS 24 = true := by decide +kernel
theorem zfS_25 : zfS 25 = true := by decide +kernel
theorem zfS_26 : zfS 26 = true := by decide +kernel
theorem zfS_27 : zfS 27 = true := by decide +kernel
theorem zfS_28 : zfS 28 = true := by decide +kernel
theorem zf_str : ∀ i, i < 29 → Jvm.Cond.exactly (zst_ i) "java/lang/String" ∈ zF ∧ Jvm.Cond.eq (.field (zst_ i) "java/lang/String" "coder" "B") (.int 0) ∈ zF ∧ Jvm.Cond.arrayOf (zval (zst_ i)) .byte ∈ zF ∧
    Jvm.Cond.eq (.length (zval (zst_ i))) (.int (Int32.ofNat (zsb i).length)) ∈ zF ∧ ∀ j, j < (zsb i).length → Jvm.Cond.eq (.elem (zval (zst_ i)) (.int (Int32.ofNat j))) (.int ((zsb i).getD j 0)) ∈ zF
  | 0, _ => zfS_ok zfS_0
  | 1, _ => zfS_ok zfS_1
  | 2, _ => zfS_ok zfS_2
  | 3, _ => zfS_ok zfS_3
  | 4, _ => zfS_ok zfS_4
  | 5, _ => zfS_ok zfS_5
  | 6, _ => zfS_ok zfS_6
  | 7, _ => zfS_ok zfS_7
  | 8, _ => zfS_ok zfS_8
  | 9, _ => zfS_ok zfS_9
  | 10, _ => zfS_ok zfS_10
  | 11, _ => zfS_ok zfS_11
  | 12, _ => zfS_ok zfS_12
  | 13, _ => zfS_ok zfS_13
  | 14, _ => zfS_ok zfS_14
  | 15, _ => zfS_ok zfS_15
  | 16, _ => zfS_ok zfS_16
  | 17, _ => zfS_ok zfS_17
  | 18, _ => zfS_ok zfS_18
  | 19, _ => zfS_ok zfS_19
  | 20, _ => zfS_ok zfS_20
  | 21, _ => zfS_ok zfS_21
  | 22, _ => zfS_ok zfS_22
  | 23, _ => zfS_ok zfS_23
  | 24, _ => zfS_ok zfS_24
  | 25, _ => zfS_ok zfS_25
  | 26, _ => zfS_ok zfS_26
  | 27, _ => zfS_ok zfS_27
  | 28, _ => zfS_ok zfS_28
  | n + 29, h => absurd h (by omega)
def zfN (i : Nat) : Bool := (List.range 20).all (fun j => i == j || (zFa ((zpN.getD i []).getD j 0) (.not (.eq (zkt i) (zkt j))) || zFa ((zpN.getD j []).getD i 0) (.not (.eq (zkt j) (zkt i)))))
theorem zfN_0 : zfN 0 = true := by decide +kernel
theorem zfN_1 : zfN 1 = true := by decide +kernel
theorem zfN_2 : zfN 2 = true := by decide +kernel
theorem zfN_3 : zfN 3 = true := by decide +kernel
theorem zfN_4 : zfN 4 = true := by decide +kernel
theorem zfN_5 : zfN 5 = true := by decide +kernel
theorem zfN_6 : zfN 6 = true := by decide +kernel
theorem zfN_7 : zfN 7 = true := by decide +kernel
theorem zfN_8 : zfN 8 = true := by decide +kernel
theorem zfN_9 : zfN 9 = true := by decide +kernel
theorem zfN_10 : zfN 10 = true := by decide +kernel
theorem zfN_11 : zfN 11 = true := by decide +kernel
theorem zfN_12 : zfN 12 = true := by decide +kernel
theorem zfN_13 : zfN 13 = true := by decide +kernel
theorem zfN_14 : zfN 14 = true := by decide +kernel
theorem zfN_15 : zfN 15 = true := by decide +kernel
theorem zfN_16 : zfN 16 = true := by decide +kernel
theorem zfN_17 : zfN 17 = true := by decide +kernel
theorem zfN_18 : zfN 18 = true := by decide +kernel
theorem zfN_19 : zfN 19 = true := by decide +kernel
theorem zfN_ok {i : Nat} (h : zfN i = true) : ∀ j, j < 20 → i ≠ j → Jvm.Cond.not (.eq (zkt i) (zkt j)) ∈ zF ∨ Jvm.Cond.not (.eq (zkt j) (zkt i)) ∈ zF := by
  intro j hj hne
  have h1 := List.all_eq_true.mp h j (List.mem_range.mpr hj)
  rw [Bool.or_eq_true, Bool.or_eq_true] at h1
  rcases h1 with h1 | h1 | h1
  · exact absurd (eq_of_beq h1) hne
  · exact Or.inl (zFa_in h1)
  · exact Or.inr (zFa_in h1)
theorem zf_ne : ∀ i, i < 20 → ∀ j, j < 20 → i ≠ j → Jvm.Cond.not (.eq (zkt i) (zkt j)) ∈ zF ∨ Jvm.Cond.not (.eq (zkt j) (zkt i)) ∈ zF
  | 0, _ => zfN_ok zfN_0
  | 1, _ => zfN_ok zfN_1
  | 2, _ => zfN_ok zfN_2
  | 3, _ => zfN_ok zfN_3
  | 4, _ => zfN_ok zfN_4
  | 5, _ => zfN_ok zfN_5
  | 6, _ => zfN_ok zfN_6
  | 7, _ => zfN_ok zfN_7
  | 8, _ => zfN_ok zfN_8
  | 9, _ => zfN_ok zfN_9
  | 10, _ => zfN_ok zfN_10
  | 11, _ => zfN_ok zfN_11
  | 12, _ => zfN_ok zfN_12
  | 13, _ => zfN_ok zfN_13
  | 14, _ => zfN_ok zfN_14
  | 15, _ => zfN_ok zfN_15
  | 16, _ => zfN_ok zfN_16
  | 17, _ => zfN_ok zfN_17
  | 18, _ => zfN_ok zfN_18
  | 19, _ => zfN_ok zfN_19
  | n + 20, h => absurd h (by omega)
def zfK (i : Nat) : Bool := zFa (zpK.getD i (0, 0, 0)).1 (.exactly (zkt i) "LoftPost$Kind") && zFa (zpK.getD i (0, 0, 0)).2.1 (.eq (.field (zkt i) "LoftPost$Kind" "word" "Ljava/lang/String;") (zst_ (zkw.getD i 0))) && zFa (zpK.getD i (0, 0, 0)).2.2 (.eq (.elem zKt (.int (Int32.ofNat i))) (zkt i))
theorem zfK_0 : (List.range 10).all (fun i => zfK i) = true := by decide +kernel
theorem zfK_1 : (List.range 10).all (fun i => zfK (10 + i)) = true := by decide +kernel
theorem zf_kind : ∀ i, i < 20 → Jvm.Cond.exactly (zkt i) "LoftPost$Kind" ∈ zF ∧ Jvm.Cond.eq (.field (zkt i) "LoftPost$Kind" "word" "Ljava/lang/String;") (zst_ (zkw.getD i 0)) ∈ zF ∧ Jvm.Cond.eq (.elem zKt (.int (Int32.ofNat i))) (zkt i) ∈ zF := by
  intro i hi
  have h : zfK i = true := by
    by_cases h10 : i < 10
    · exact List.all_eq_true.mp zfK_0 i (List.mem_range.mpr h10)
    · have h := List.all_eq_true.mp zfK_1 (i - 10) (List.mem_range.mpr (by omega))
      rw [show 10 + (i - 10) = i by omega] at h
      exact h
  unfold zfK at h
  simp only [Bool.and_eq_true] at h
  exact ⟨zFa_in h.1.1, zFa_in h.1.2, zFa_in h.2⟩
theorem zfW_0 : (List.range 14).all (fun i => zFa (zpW.getD i 0) (.eq (.elem zWt (.int (Int32.ofNat i))) (zst_ (15 + i)))) = true := by decide +kernel
theorem zf_word : ∀ i, i < 14 → Jvm.Cond.eq (.elem zWt (.int (Int32.ofNat i))) (zst_ (15 + i)) ∈ zF := fun i hi => zFa_in (List.all_eq_true.mp zfW_0 i (List.mem_range.mpr hi))
theorem zf_rest : Jvm.Cond.arrayOf zKt (.object "LoftPost$Kind") ∈ zF ∧ Jvm.Cond.eq (.length zKt) (.int 20) ∈ zF ∧ Jvm.Cond.arrayOf zWt (.object "java/lang/String") ∈ zF ∧ Jvm.Cond.eq (.length zWt) (.int 14) ∈ zF ∧
    Jvm.Cond.eq (.static "java/lang/String" "COMPACT_STRINGS" "Z") (.int 1) ∈ zF ∧ Jvm.Cond.isRef (.static "jdk/internal/util/Preconditions" "SIOOBE_FORMATTER" "Ljava/util/function/BiFunction;") ∈ zF ∧
    Jvm.Cond.isRef (.static Bundle.tN "UNASSIGNED_STACK" Bundle.steD) ∈ zF ∧ Jvm.Cond.isRef (.static Bundle.tN "SUPPRESSED_SENTINEL" Bundle.listD) ∈ zF ∧
    Jvm.Cond.not (.castable (zxn 1) (zxn 0)) ∈ zF ∧ Jvm.Cond.not (.castable (zxn 2) (zxn 0)) ∈ zF ∧ Jvm.Cond.not (.castable (zxn 0) (zxn 2)) ∈ zF := by decide +kernel
theorem zf_msg : ∀ q ∈ zmsg, Jvm.Cond.stringRef "LoftPost" q.1 q.2 ∈ lw_tbl ∧ Jvm.Cond.exactly (.string "LoftPost" q.1) "java/lang/String" ∈ zF := by decide +kernel
theorem zf_lay : (∀ i, i < 24 → Jvm.Cond.laysStatic (zsn.getD i ("", "", "")).1 (zsn.getD i ("", "", "")).2.1 (zsn.getD i ("", "", "")).2.2 ∈ lw_tbl ∧ Jvm.Cond.initialized (zsn.getD i ("", "", "")).1 ∈ lw_tbl) ∧
    Jvm.Cond.laysStatic Bundle.tN "UNASSIGNED_STACK" Bundle.steD ∈ lw_tbl ∧ Jvm.Cond.laysStatic Bundle.tN "SUPPRESSED_SENTINEL" Bundle.listD ∈ lw_tbl ∧ Jvm.Cond.initialized Bundle.tN ∈ lw_tbl ∧
    (∀ c, c < 11 → Jvm.Cond.instantiable (zCn c) (zNf c) ∈ lw_tbl) ∧ (∀ t, 23 ≤ t → t < 28 → Jvm.Cond.arrayOver (.object (zot t)) ∈ lw_tbl) ∧ Jvm.Cond.arrayClass .int ∈ lw_tbl ∧ Jvm.Cond.arrayClass .byte ∈ lw_tbl ∧ Jvm.Cond.arrayClass .long ∈ lw_tbl := by
  refine ⟨by decide +kernel, by decide +kernel, by decide +kernel, by decide +kernel, by decide +kernel, ?_, by decide +kernel, by decide +kernel, by decide +kernel⟩
  intro t h1 h2
  have : t = 23 ∨ t = 24 ∨ t = 25 ∨ t = 26 ∨ t = 27 := by omega
  rcases this with rfl | rfl | rfl | rfl | rfl <;> decide +kernel
